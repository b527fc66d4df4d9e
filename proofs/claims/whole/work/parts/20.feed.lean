/-- the tape as a whole -/
def TP (g : GG) (f : Nat → Int) (n : Int) : GG := up2 (upC g 20 f) 19 1 n
theorem TP_s {g : GG} {f : Nat → Int} {n : Int} : TP g f n 19 1 = n := up2_s
theorem TP_f {g : GG} {f : Nat → Int} {n : Int} : TP g f n 20 = f := by funext j; simp [TP, up2, upC]
theorem TP_far {g : GG} {f : Nat → Int} {n : Int} {c k : Nat} (h1 : c ≠ 19) (h2 : c ≠ 20) : TP g f n c k = g c k := by simp [TP, up2, upC, h1, h2]
theorem TP_TP {g : GG} {f f' : Nat → Int} {n n' : Int} : TP (TP g f n) f' n' = TP g f' n' := by
  funext c k
  by_cases h1 : c = 20
  · subst h1; simp [TP, up2, upC]
  · by_cases h2 : c = 19 ∧ k = 1
    · obtain ⟨rfl, rfl⟩ := h2; simp [TP, up2]
    · simp [TP, up2, upC, h1, h2]
theorem TP_id {g : GG} : TP g (g 20) (g 19 1) = g := by
  funext c k
  by_cases h1 : c = 20
  · subst h1; simp [TP, up2, upC]
  · by_cases h2 : c = 19 ∧ k = 1
    · obtain ⟨rfl, rfl⟩ := h2; simp [TP, up2]
    · simp [TP, up2, upC, h1, h2]
def tp20 (f : Nat → Int) (n : Nat) (a b c d e : Int) : Nat → Int := tp4 (tp4 (tp4 (tp4 (tp4 f n a) (n + 4) b) (n + 8) c) (n + 12) d) (n + 16) e
section FEED
variable {g z : GG} {r : RR}
theorem c_append (hr : RS r) (f : Nat → Int) (n : Nat) (hn : n + 4 ≤ 200) (w : Int) : CT (mX8_append (rmD 0 0 0)) 0 0 shW [vR (some 19), vI w] (TP g f (n : Int)) z r (qG shW z r fun v g' => v = none ∧ g' = TP g (tp4 f n w) ((n + 4 : Nat) : Int)) := by
  refine CT.weaken (c_X8_append hr w (by rw [TP_s]; omega)) (fun v sh' g' z' r' hq => ?_)
  obtain ⟨⟨h1, h2⟩, h3⟩ := hq
  refine ⟨⟨h1, ?_⟩, h3⟩
  rw [h2, TP_s, TP_f, Int.toNat_natCast]
  exact TP_TP
theorem p_feed (hr : RS r) (n : Nat) (hn : g 19 1 = (n : Int)) (hn2 : n ≤ 200) (a b c d e : Int) : CT (mX11_feed (rmD 5 0 0)) 0 0 shW [vR (some 0), vI a, vI b, vI c, vI d, vI e] g z r (qG shW z r fun x g' => (n + 20 ≤ 200 ∧ x = some (vI ((n + 20 : Nat) : Int)) ∧ g' = TP g (tp20 (g 20) n a b c d e) ((n + 20 : Nat) : Int)) ∨ (¬ n + 20 ≤ 200 ∧ x = some (vI (-1)) ∧ g' = g)) := by
  refine CT.of 0 rfl rfl ?_
  refine R_aload_n dX11_feed_0 rfl ?_
  refine R_getR _ (hr _ _ _ rfl) fd11_1 kf11_19 rfl dX11_feed_1 ?_
  refine R_callV (c_X8_hasRoom hr (by omega)) (mvX8_hasRoom _) kiX8_hasRoom kvX8_hasRoom km11_134 rfl rfl (by decide) ⟨rfl, rfl, by decide, by decide⟩ (by decide) dX11_feed_4 (fun v1 sh1 g1 z1 r1 hq => ?_)
  obtain ⟨rfl, rfl, rfl, rfl, rfl⟩ := hq
  refine R_if_ne 12 dX11_feed_7 (by decide) (fun hc7 => ?_) (fun hc7 => ?_)
  · simp only [b2i_z, ne_eq, Classical.not_not] at hc7
    have e0 : g = TP g (g 20) (n : Int) := by rw [← hn]; exact TP_id.symm
    generalize hg0 : g = g0
    have e1 : g0 = TP g (g 20) (n : Int) := hg0 ▸ e0
    rw [e1]
    refine R_aload_n dX11_feed_12 rfl ?_
    refine R_getR _ (hr _ _ _ rfl) fd11_1 kf11_19 rfl dX11_feed_13 ?_
    refine R_iload_n dX11_feed_16 rfl ?_
    refine R_callV (c_append hr (g 20) n (by omega) a) (mvX8_append _) kiX8_append kvX8_append km11_138 rfl rfl (by decide) ⟨rfl, rfl, by decide, by decide⟩ (by decide) dX11_feed_17 (fun v1 sh1 g1 z1 r1 hq => ?_)
    obtain ⟨⟨rfl, rfl⟩, rfl, rfl, rfl⟩ := hq
    refine R_aload_n dX11_feed_20 rfl ?_
    refine R_getR _ (hr _ _ _ rfl) fd11_1 kf11_19 rfl dX11_feed_21 ?_
    refine R_iload_n dX11_feed_24 rfl ?_
    refine R_callV (c_append hr _ (n + 4) (by omega) b) (mvX8_append _) kiX8_append kvX8_append km11_138 rfl rfl (by decide) ⟨rfl, rfl, by decide, by decide⟩ (by decide) dX11_feed_25 (fun v1 sh1 g1 z1 r1 hq => ?_)
    obtain ⟨⟨rfl, rfl⟩, rfl, rfl, rfl⟩ := hq
    refine R_aload_n dX11_feed_28 rfl ?_
    refine R_getR _ (hr _ _ _ rfl) fd11_1 kf11_19 rfl dX11_feed_29 ?_
    refine R_iload_n dX11_feed_32 rfl ?_
    refine R_callV (c_append hr _ (n + 4 + 4) (by omega) c) (mvX8_append _) kiX8_append kvX8_append km11_138 rfl rfl (by decide) ⟨rfl, rfl, by decide, by decide⟩ (by decide) dX11_feed_33 (fun v1 sh1 g1 z1 r1 hq => ?_)
    obtain ⟨⟨rfl, rfl⟩, rfl, rfl, rfl⟩ := hq
    refine R_aload_n dX11_feed_36 rfl ?_
    refine R_getR _ (hr _ _ _ rfl) fd11_1 kf11_19 rfl dX11_feed_37 ?_
    refine R_iload dX11_feed_40 rfl ?_
    refine R_callV (c_append hr _ (n + 4 + 4 + 4) (by omega) d) (mvX8_append _) kiX8_append kvX8_append km11_138 rfl rfl (by decide) ⟨rfl, rfl, by decide, by decide⟩ (by decide) dX11_feed_42 (fun v1 sh1 g1 z1 r1 hq => ?_)
    obtain ⟨⟨rfl, rfl⟩, rfl, rfl, rfl⟩ := hq
    refine R_aload_n dX11_feed_45 rfl ?_
    refine R_getR _ (hr _ _ _ rfl) fd11_1 kf11_19 rfl dX11_feed_46 ?_
    refine R_iload dX11_feed_49 rfl ?_
    refine R_callV (c_append hr _ (n + 4 + 4 + 4 + 4) (by omega) e) (mvX8_append _) kiX8_append kvX8_append km11_138 rfl rfl (by decide) ⟨rfl, rfl, by decide, by decide⟩ (by decide) dX11_feed_51 (fun v1 sh1 g1 z1 r1 hq => ?_)
    obtain ⟨⟨rfl, rfl⟩, rfl, rfl, rfl⟩ := hq
    refine R_aload_n dX11_feed_54 rfl ?_
    refine R_getR _ (hr _ _ _ rfl) fd11_1 kf11_19 rfl dX11_feed_55 ?_
    refine R_getI fd8_1 kf11_142 rfl dX11_feed_58 ?_
    refine R_ireturn rfl (by rfl) (by decide) (by decide) dX11_feed_61 ?_
    rw [TP_s]
    subst hg0
    exact ⟨Or.inl ⟨by omega, rfl, by rw [TP_f, TP_TP]; rfl⟩, rfl, rfl, rfl⟩
  · simp only [b2i_z] at hc7
    refine R_iconst dX11_feed_10 rfl rfl ?_
    refine R_ireturn rfl (by rfl) (by decide) (by decide) dX11_feed_11 ?_
    exact ⟨Or.inr ⟨by omega, rfl, rfl⟩, rfl, rfl, rfl⟩
end FEED
