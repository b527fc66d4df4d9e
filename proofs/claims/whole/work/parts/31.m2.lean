def tq4 (f : Nat → Int) (n : Nat) (w : Int) : Nat → Int := fun j => if j = n + 3 then b8 (bShr w 0) else if j = n + 2 then b8 (bShr w 8) else if j = n + 1 then b8 (bShr w 16) else if j = n then b8 (bShr w 24) else f j
/-- the reference's tape as a whole -/
def TQ (g : GG) (f : Nat → Int) (n : Int) : GG := up2 (upC g 75 f) 74 1 n
theorem TQ_s {g : GG} {f : Nat → Int} {n : Int} : TQ g f n 74 1 = n := up2_s
theorem TQ_f {g : GG} {f : Nat → Int} {n : Int} : TQ g f n 75 = f := by funext j; simp [TQ, up2, upC]
theorem TQ_TQ {g : GG} {f f' : Nat → Int} {n n' : Int} : TQ (TQ g f n) f' n' = TQ g f' n' := by
  funext c k
  by_cases h1 : c = 75
  · subst h1; simp [TQ, up2, upC]
  · by_cases h2 : c = 74 ∧ k = 1
    · obtain ⟨rfl, rfl⟩ := h2; simp [TQ, up2]
    · simp [TQ, up2, upC, h1, h2]
theorem TQ_id {g : GG} : TQ g (g 75) (g 74 1) = g := by
  funext c k
  by_cases h1 : c = 75
  · subst h1; simp [TQ, up2, upC]
  · by_cases h2 : c = 74 ∧ k = 1
    · obtain ⟨rfl, rfl⟩ := h2; simp [TQ, up2]
    · simp [TQ, up2, upC, h1, h2]
def tq20 (f : Nat → Int) (n : Nat) (a b c d e : Int) : Nat → Int := tq4 (tq4 (tq4 (tq4 (tq4 f n a) (n + 4) b) (n + 8) c) (n + 12) d) (n + 16) e
section M2
variable {g z : GG} {r : RR}
theorem m_push0 (hr : RS r) (w : Int) (hsz : 0 ≤ g 74 1 ∧ g 74 1 + 4 ≤ 200) : CT (mX12_push (rmD 0 0 0)) 0 0 shW [vR (some 74), vI w] g z r (qG shW z r fun v g' => v = none ∧ g' = TQ g (tq4 (g 75) (g 74 1).toNat w) (g 74 1 + 4)) := by
  refine CT.of 1 rfl rfl ?_
  refine R_bipush dX12_push_0 rfl (by decide +kernel) ?_
  refine R_istore_n dX12_push_2 (by decide) rfl [_, _, _] rfl ?_
  refine R_iload_n dX12_push_3 rfl ?_
  refine R_if_lt 36 dX12_push_4 (by decide) (fun hc4 => ?_) (fun hc4 => ?_)
  · exact absurd hc4 (by omega)
  refine R_aload_n dX12_push_7 rfl ?_
  refine R_getR _ (hr _ _ _ rfl) fd12_0 kf12_7 rfl dX12_push_8 ?_
  try simp +decide only [up2_far, up2_s, up2_kk]
  refine R_aload_n dX12_push_11 rfl ?_
  refine R_getI fd12_1 kf12_203 rfl dX12_push_12 ?_
  try simp +decide only [up2_far, up2_s, up2_kk]
  refine R_iload_n dX12_push_15 rfl ?_
  refine R_iload_n dX12_push_16 rfl ?_
  refine R_ishr dX12_push_17 ?_
  refine R_i2b dX12_push_18 ?_
  refine R_bast rfl (by omega) (by omega) dX12_push_19 ?_
  refine R_aload_n dX12_push_20 rfl ?_
  refine R_dup dX12_push_21 (fun _ h => by cases h) ?_
  refine R_getI fd12_1 kf12_203 rfl dX12_push_22 ?_
  try simp +decide only [up2_far, up2_s, up2_kk]
  refine R_iconst dX12_push_25 rfl rfl ?_
  refine R_iaddN dX12_push_26 (by unfold inI; omega) ?_
  refine R_putI fd12_1 rfl kf12_203 rfl dX12_push_27 ?_
  refine R_iincN dX12_push_30 rfl (by decide) rfl (by unfold inI; omega) [_, _, _] rfl ?_
  refine R_goto 3 dX12_push_33 (by decide) ?_
  refine R_iload_n dX12_push_3 rfl ?_
  refine R_if_lt 36 dX12_push_4 (by decide) (fun hc4 => ?_) (fun hc4 => ?_)
  · exact absurd hc4 (by omega)
  refine R_aload_n dX12_push_7 rfl ?_
  refine R_getR _ (hr _ _ _ rfl) fd12_0 kf12_7 rfl dX12_push_8 ?_
  try simp +decide only [up2_far, up2_s, up2_kk]
  refine R_aload_n dX12_push_11 rfl ?_
  refine R_getI fd12_1 kf12_203 rfl dX12_push_12 ?_
  try simp +decide only [up2_far, up2_s, up2_kk]
  refine R_iload_n dX12_push_15 rfl ?_
  refine R_iload_n dX12_push_16 rfl ?_
  refine R_ishr dX12_push_17 ?_
  refine R_i2b dX12_push_18 ?_
  refine R_bast rfl (by omega) (by omega) dX12_push_19 ?_
  refine R_aload_n dX12_push_20 rfl ?_
  refine R_dup dX12_push_21 (fun _ h => by cases h) ?_
  refine R_getI fd12_1 kf12_203 rfl dX12_push_22 ?_
  try simp +decide only [up2_far, up2_s, up2_kk]
  refine R_iconst dX12_push_25 rfl rfl ?_
  refine R_iaddN dX12_push_26 (by unfold inI; omega) ?_
  refine R_putI fd12_1 rfl kf12_203 rfl dX12_push_27 ?_
  refine R_iincN dX12_push_30 rfl (by decide) rfl (by unfold inI; omega) [_, _, _] rfl ?_
  refine R_goto 3 dX12_push_33 (by decide) ?_
  refine R_iload_n dX12_push_3 rfl ?_
  refine R_if_lt 36 dX12_push_4 (by decide) (fun hc4 => ?_) (fun hc4 => ?_)
  · exact absurd hc4 (by omega)
  refine R_aload_n dX12_push_7 rfl ?_
  refine R_getR _ (hr _ _ _ rfl) fd12_0 kf12_7 rfl dX12_push_8 ?_
  try simp +decide only [up2_far, up2_s, up2_kk]
  refine R_aload_n dX12_push_11 rfl ?_
  refine R_getI fd12_1 kf12_203 rfl dX12_push_12 ?_
  try simp +decide only [up2_far, up2_s, up2_kk]
  refine R_iload_n dX12_push_15 rfl ?_
  refine R_iload_n dX12_push_16 rfl ?_
  refine R_ishr dX12_push_17 ?_
  refine R_i2b dX12_push_18 ?_
  refine R_bast rfl (by omega) (by omega) dX12_push_19 ?_
  refine R_aload_n dX12_push_20 rfl ?_
  refine R_dup dX12_push_21 (fun _ h => by cases h) ?_
  refine R_getI fd12_1 kf12_203 rfl dX12_push_22 ?_
  try simp +decide only [up2_far, up2_s, up2_kk]
  refine R_iconst dX12_push_25 rfl rfl ?_
  refine R_iaddN dX12_push_26 (by unfold inI; omega) ?_
  refine R_putI fd12_1 rfl kf12_203 rfl dX12_push_27 ?_
  refine R_iincN dX12_push_30 rfl (by decide) rfl (by unfold inI; omega) [_, _, _] rfl ?_
  refine R_goto 3 dX12_push_33 (by decide) ?_
  refine R_iload_n dX12_push_3 rfl ?_
  refine R_if_lt 36 dX12_push_4 (by decide) (fun hc4 => ?_) (fun hc4 => ?_)
  · exact absurd hc4 (by omega)
  refine R_aload_n dX12_push_7 rfl ?_
  refine R_getR _ (hr _ _ _ rfl) fd12_0 kf12_7 rfl dX12_push_8 ?_
  try simp +decide only [up2_far, up2_s, up2_kk]
  refine R_aload_n dX12_push_11 rfl ?_
  refine R_getI fd12_1 kf12_203 rfl dX12_push_12 ?_
  try simp +decide only [up2_far, up2_s, up2_kk]
  refine R_iload_n dX12_push_15 rfl ?_
  refine R_iload_n dX12_push_16 rfl ?_
  refine R_ishr dX12_push_17 ?_
  refine R_i2b dX12_push_18 ?_
  refine R_bast rfl (by omega) (by omega) dX12_push_19 ?_
  refine R_aload_n dX12_push_20 rfl ?_
  refine R_dup dX12_push_21 (fun _ h => by cases h) ?_
  refine R_getI fd12_1 kf12_203 rfl dX12_push_22 ?_
  try simp +decide only [up2_far, up2_s, up2_kk]
  refine R_iconst dX12_push_25 rfl rfl ?_
  refine R_iaddN dX12_push_26 (by unfold inI; omega) ?_
  refine R_putI fd12_1 rfl kf12_203 rfl dX12_push_27 ?_
  refine R_iincN dX12_push_30 rfl (by decide) rfl (by unfold inI; omega) [_, _, _] rfl ?_
  refine R_goto 3 dX12_push_33 (by decide) ?_
  refine R_iload_n dX12_push_3 rfl ?_
  refine R_if_lt 36 dX12_push_4 (by decide) (fun hc4 => ?_) (fun hc4 => ?_)
  · refine R_return rfl (by decide) (by decide) dX12_push_36 ?_
    refine ⟨⟨rfl, ?_⟩, rfl, rfl, rfl⟩
    have hb : ∀ x, b8 (b8 x) = b8 x := by
      intro x
      simp only [b8, o32]
      congr 1
      simp
    funext c k
    by_cases h1 : c = 75
    · subst h1
      obtain ⟨n, hn⟩ : ∃ n : Nat, g 74 1 = (n : Int) := ⟨(g 74 1).toNat, by omega⟩
      rw [TQ_f, hn]
      simp only [up2, tq4, hb, true_and, Int.toNat_natCast, show ((n : Int) + 1).toNat = n + 1 by omega, show ((n : Int) + 1 + 1).toNat = n + 2 by omega, show ((n : Int) + 1 + 1 + 1).toNat = n + 3 by omega]
      simp
    · by_cases h2 : c = 74 ∧ k = 1
      · obtain ⟨rfl, rfl⟩ := h2
        simp only [up2_s, TQ_s]
        omega
      · simp [TQ, up2, upC, h1, h2]
  · exact absurd (by omega) hc4
theorem m_push (hr : RS r) (f : Nat → Int) (n : Nat) (hn : n + 4 ≤ 200) (w : Int) : CT (mX12_push (rmD 0 0 0)) 0 0 shW [vR (some 74), vI w] (TQ g f (n : Int)) z r (qG shW z r fun v g' => v = none ∧ g' = TQ g (tq4 f n w) ((n + 4 : Nat) : Int)) := by
  refine CT.weaken (m_push0 hr w (by rw [TQ_s]; omega)) (fun v sh' g' z' r' hq => ?_)
  obtain ⟨⟨h1, h2⟩, h3⟩ := hq
  refine ⟨⟨h1, ?_⟩, h3⟩
  rw [h2, TQ_s, TQ_f, Int.toNat_natCast]
  exact TQ_TQ
theorem m_feed (hr : RS r) (n : Nat) (hn : g 74 1 = (n : Int)) (hn2 : n ≤ 200) (a b c d e : Int) : CT (mX12_feed (rmD 5 0 0)) 0 0 shW [vR (some 74), vI a, vI b, vI c, vI d, vI e] g z r (qG shW z r fun x g' => (n + 20 ≤ 200 ∧ x = some (vI ((n + 20 : Nat) : Int)) ∧ g' = TQ g (tq20 (g 75) n a b c d e) ((n + 20 : Nat) : Int)) ∨ (¬ n + 20 ≤ 200 ∧ x = some (vI (-1)) ∧ g' = g)) := by
  refine CT.of 0 rfl rfl ?_
  refine R_aload_n dX12_feed_0 rfl ?_
  refine R_getI fd12_1 kf12_203 rfl dX12_feed_1 ?_
  refine R_bipush dX12_feed_4 rfl (by decide +kernel) ?_
  refine R_iaddN dX12_feed_6 (by unfold inI; omega) ?_
  refine R_sipush dX12_feed_7 rfl (by decide +kernel) ?_
  refine R_icmp_le 15 dX12_feed_10 (by decide) (fun hc10 => ?_) (fun hc10 => ?_)
  · have e0 : g = TQ g (g 75) (n : Int) := by rw [← hn]; exact TQ_id.symm
    generalize hg0 : g = g0
    have e1 : g0 = TQ g (g 75) (n : Int) := hg0 ▸ e0
    rw [e1]
    refine R_aload_n dX12_feed_15 rfl ?_
    refine R_iload_n dX12_feed_16 rfl ?_
    refine R_callV (m_push hr (g 75) n (by omega) a) (mvX12_push _) kiX12_push kvX12_push km12_206 rfl rfl (by decide) ⟨rfl, rfl, by decide, by decide⟩ (by decide) dX12_feed_17 (fun v1 sh1 g1 z1 r1 hq => ?_)
    obtain ⟨⟨rfl, rfl⟩, rfl, rfl, rfl⟩ := hq
    refine R_aload_n dX12_feed_20 rfl ?_
    refine R_iload_n dX12_feed_21 rfl ?_
    refine R_callV (m_push hr _ (n + 4) (by omega) b) (mvX12_push _) kiX12_push kvX12_push km12_206 rfl rfl (by decide) ⟨rfl, rfl, by decide, by decide⟩ (by decide) dX12_feed_22 (fun v1 sh1 g1 z1 r1 hq => ?_)
    obtain ⟨⟨rfl, rfl⟩, rfl, rfl, rfl⟩ := hq
    refine R_aload_n dX12_feed_25 rfl ?_
    refine R_iload_n dX12_feed_26 rfl ?_
    refine R_callV (m_push hr _ (n + 4 + 4) (by omega) c) (mvX12_push _) kiX12_push kvX12_push km12_206 rfl rfl (by decide) ⟨rfl, rfl, by decide, by decide⟩ (by decide) dX12_feed_27 (fun v1 sh1 g1 z1 r1 hq => ?_)
    obtain ⟨⟨rfl, rfl⟩, rfl, rfl, rfl⟩ := hq
    refine R_aload_n dX12_feed_30 rfl ?_
    refine R_iload dX12_feed_31 rfl ?_
    refine R_callV (m_push hr _ (n + 4 + 4 + 4) (by omega) d) (mvX12_push _) kiX12_push kvX12_push km12_206 rfl rfl (by decide) ⟨rfl, rfl, by decide, by decide⟩ (by decide) dX12_feed_33 (fun v1 sh1 g1 z1 r1 hq => ?_)
    obtain ⟨⟨rfl, rfl⟩, rfl, rfl, rfl⟩ := hq
    refine R_aload_n dX12_feed_36 rfl ?_
    refine R_iload dX12_feed_37 rfl ?_
    refine R_callV (m_push hr _ (n + 4 + 4 + 4 + 4) (by omega) e) (mvX12_push _) kiX12_push kvX12_push km12_206 rfl rfl (by decide) ⟨rfl, rfl, by decide, by decide⟩ (by decide) dX12_feed_39 (fun v1 sh1 g1 z1 r1 hq => ?_)
    obtain ⟨⟨rfl, rfl⟩, rfl, rfl, rfl⟩ := hq
    refine R_aload_n dX12_feed_42 rfl ?_
    refine R_getI fd12_1 kf12_203 rfl dX12_feed_43 ?_
    refine R_ireturn rfl (by first | rfl | exact nar_b2i | exact nar_bi) (by decide) (by decide) dX12_feed_46 ?_
    rw [TQ_s]
    subst hg0
    exact ⟨Or.inl ⟨by omega, rfl, by rw [TQ_f, TQ_TQ]; rfl⟩, rfl, rfl, rfl⟩
  · refine R_iconst dX12_feed_13 rfl rfl ?_
    refine R_ireturn rfl (by first | rfl | exact nar_b2i | exact nar_bi) (by decide) (by decide) dX12_feed_14 ?_
    exact ⟨Or.inr ⟨by omega, rfl, rfl⟩, rfl, rfl, rfl⟩
theorem m_couple (hr : RS r) (hN : 0 ≤ g 74 2 ∧ g 74 2 ≤ 16) (hC : 0 ≤ g 74 3 ∧ g 74 3 ≤ 6) (a b w l : Int) : CT (mX12_couple (rmD 5 0 0)) 0 0 shW [vR (some 74), vI a, vI b, vI w, vI l] g z r (qG shW z r fun v g' => ((nmOK (vM g) a 0 ∧ nmOK (vM g) b 1 ∧ 0 ≤ w ∧ w ≤ l ∧ l ≤ 299 ∧ g 74 3 < 6) ∧ v = some (vI (g 74 3)) ∧ g' = up2 (up2 (up2 (up2 (up2 (up2 (up2 (up2 (up2 (up2 g 78 (g 74 3).toNat a) 79 (g 74 3).toNat b) 80 (g 74 3).toNat w) 81 (g 74 3).toNat l) 82 (4 * g 74 3 + 0).toNat (-1)) 82 (4 * g 74 3 + 1).toNat (-1)) 82 (4 * g 74 3 + 2).toNat (-1)) 82 (4 * g 74 3 + 3).toNat (-1)) 74 3 (g 74 3 + 1)) 74 23 0) ∨ (¬ (nmOK (vM g) a 0 ∧ nmOK (vM g) b 1 ∧ 0 ≤ w ∧ w ≤ l ∧ l ≤ 299 ∧ g 74 3 < 6) ∧ v = some (vI (-1)) ∧ g' = g)) := by
  refine CT.of 1 rfl rfl ?_
  refine R_aload_n dX12_couple_0 rfl ?_
  refine R_getI fd12_3 kf12_172 rfl dX12_couple_1 ?_
  refine R_bipush dX12_couple_4 rfl (by decide +kernel) ?_
  refine R_icmp_eq 48 dX12_couple_6 (by decide) (fun hc6 => ?_) (fun hc6 => ?_)
  · refine R_iconst dX12_couple_48 rfl rfl ?_
    refine R_ireturn rfl (by first | rfl | exact nar_b2i | exact nar_bi) (by decide) (by decide) dX12_couple_49 ?_
    exact ⟨Or.inr ⟨fun q => by have q1 := q.1; have q2 := q.2.1; unfold nmOK at q1 q2; simp only [vM] at q1 q2; omega, rfl, rfl⟩, rfl, rfl, rfl⟩
  · refine R_aload_n dX12_couple_9 rfl ?_
    refine R_iload_n dX12_couple_10 rfl ?_
    refine R_iconst dX12_couple_11 rfl rfl ?_
    refine R_callV (m_isOf hr hN _ _) (mvX12_isOf _) kiX12_isOf kvX12_isOf km12_186 rfl rfl (by decide) ⟨rfl, rfl, by decide, by decide⟩ (by decide) dX12_couple_12 (fun v1 sh1 g1 z1 r1 hq => ?_)
    obtain ⟨rfl, rfl, rfl, rfl, rfl⟩ := hq
    refine R_if_eq 48 dX12_couple_15 (by decide) (fun hc15 => ?_) (fun hc15 => ?_)
    · try simp only [b2i_z, bi_z, ne_eq, Classical.not_not] at hc15
      refine R_iconst dX12_couple_48 rfl rfl ?_
      refine R_ireturn rfl (by first | rfl | exact nar_b2i | exact nar_bi) (by decide) (by decide) dX12_couple_49 ?_
      exact ⟨Or.inr ⟨fun q => by have q1 := q.1; have q2 := q.2.1; unfold nmOK at q1 q2; simp only [vM] at q1 q2; omega, rfl, rfl⟩, rfl, rfl, rfl⟩
    · try simp only [b2i_z, bi_z, ne_eq, Classical.not_not] at hc15
      refine R_aload_n dX12_couple_18 rfl ?_
      refine R_iload_n dX12_couple_19 rfl ?_
      refine R_iconst dX12_couple_20 rfl rfl ?_
      refine R_callV (m_isOf hr hN _ _) (mvX12_isOf _) kiX12_isOf kvX12_isOf km12_186 rfl rfl (by decide) ⟨rfl, rfl, by decide, by decide⟩ (by decide) dX12_couple_21 (fun v1 sh1 g1 z1 r1 hq => ?_)
      obtain ⟨rfl, rfl, rfl, rfl, rfl⟩ := hq
      refine R_if_eq 48 dX12_couple_24 (by decide) (fun hc24 => ?_) (fun hc24 => ?_)
      · try simp only [b2i_z, bi_z, ne_eq, Classical.not_not] at hc24
        refine R_iconst dX12_couple_48 rfl rfl ?_
        refine R_ireturn rfl (by first | rfl | exact nar_b2i | exact nar_bi) (by decide) (by decide) dX12_couple_49 ?_
        exact ⟨Or.inr ⟨fun q => by have q1 := q.1; have q2 := q.2.1; unfold nmOK at q1 q2; simp only [vM] at q1 q2; omega, rfl, rfl⟩, rfl, rfl, rfl⟩
      · try simp only [b2i_z, bi_z, ne_eq, Classical.not_not] at hc24
        refine R_iload_n dX12_couple_27 rfl ?_
        refine R_callS (m_isYear _) (mvX12_isYear _) ksX12_isYear km12_190 ⟨rfl, rfl, by decide, by decide⟩ (by decide) dX12_couple_28 (fun v1 sh1 g1 z1 r1 hq => ?_)
        obtain ⟨rfl, rfl, rfl, rfl, rfl⟩ := hq
        refine R_if_eq 48 dX12_couple_31 (by decide) (fun hc31 => ?_) (fun hc31 => ?_)
        · try simp only [b2i_z, bi_z, ne_eq, Classical.not_not] at hc31
          refine R_iconst dX12_couple_48 rfl rfl ?_
          refine R_ireturn rfl (by first | rfl | exact nar_b2i | exact nar_bi) (by decide) (by decide) dX12_couple_49 ?_
          exact ⟨Or.inr ⟨fun q => by have q1 := q.1; have q2 := q.2.1; unfold nmOK at q1 q2; simp only [vM] at q1 q2; omega, rfl, rfl⟩, rfl, rfl, rfl⟩
        · try simp only [b2i_z, bi_z, ne_eq, Classical.not_not] at hc31
          refine R_iload dX12_couple_34 rfl ?_
          refine R_i2l dX12_couple_36 ?_
          refine R_iload_n dX12_couple_37 rfl ?_
          refine R_i2l dX12_couple_38 ?_
          refine R_ldc2_w (v := 299) kk12_178 dX12_couple_39 (by decide) ?_
          refine R_callS (m_lies _ _ _) (mvX12_lies _) ksX12_lies km12_164 ⟨rfl, rfl, by decide, by decide⟩ (by decide) dX12_couple_42 (fun v1 sh1 g1 z1 r1 hq => ?_)
          obtain ⟨rfl, rfl, rfl, rfl, rfl⟩ := hq
          refine R_if_ne 50 dX12_couple_45 (by decide) (fun hc45 => ?_) (fun hc45 => ?_)
          · try simp only [b2i_z, bi_z, ne_eq, Classical.not_not] at hc45
            refine R_aload_n dX12_couple_50 rfl ?_
            refine R_getR _ (hr _ _ _ rfl) fd12_12 kf12_36 rfl dX12_couple_51 ?_
            refine R_aload_n dX12_couple_54 rfl ?_
            refine R_getI fd12_3 kf12_172 rfl dX12_couple_55 ?_
            refine R_iload_n dX12_couple_58 rfl ?_
            refine R_iast rfl (by omega) (by omega) dX12_couple_59 ?_
            refine R_aload_n dX12_couple_60 rfl ?_
            refine R_getR _ (hr _ _ _ rfl) fd12_13 kf12_39 rfl dX12_couple_61 ?_
            try simp +decide only [up2_far, up2_s, up2_kk]
            refine R_aload_n dX12_couple_64 rfl ?_
            refine R_getI fd12_3 kf12_172 rfl dX12_couple_65 ?_
            try simp +decide only [up2_far, up2_s, up2_kk]
            refine R_iload_n dX12_couple_68 rfl ?_
            refine R_iast rfl (by omega) (by omega) dX12_couple_69 ?_
            refine R_aload_n dX12_couple_70 rfl ?_
            refine R_getR _ (hr _ _ _ rfl) fd12_14 kf12_42 rfl dX12_couple_71 ?_
            try simp +decide only [up2_far, up2_s, up2_kk]
            refine R_aload_n dX12_couple_74 rfl ?_
            refine R_getI fd12_3 kf12_172 rfl dX12_couple_75 ?_
            try simp +decide only [up2_far, up2_s, up2_kk]
            refine R_iload_n dX12_couple_78 rfl ?_
            refine R_iast rfl (by omega) (by omega) dX12_couple_79 ?_
            refine R_aload_n dX12_couple_80 rfl ?_
            refine R_getR _ (hr _ _ _ rfl) fd12_15 kf12_45 rfl dX12_couple_81 ?_
            try simp +decide only [up2_far, up2_s, up2_kk]
            refine R_aload_n dX12_couple_84 rfl ?_
            refine R_getI fd12_3 kf12_172 rfl dX12_couple_85 ?_
            try simp +decide only [up2_far, up2_s, up2_kk]
            refine R_iload dX12_couple_88 rfl ?_
            refine R_iast rfl (by omega) (by omega) dX12_couple_90 ?_
            refine R_iconst dX12_couple_91 rfl rfl ?_
            refine R_istore dX12_couple_92 (by decide) rfl [_, _, _, _, _, _] rfl ?_
            refine R_iload dX12_couple_94 rfl ?_
            refine R_iconst dX12_couple_96 rfl rfl ?_
            refine R_icmp_ge 121 dX12_couple_97 (by decide) (fun hc97 => ?_) (fun hc97 => ?_)
            · exact absurd hc97 (by omega)
            refine R_aload_n dX12_couple_100 rfl ?_
            refine R_getR _ (hr _ _ _ rfl) fd12_16 kf12_48 rfl dX12_couple_101 ?_
            try simp +decide only [up2_far, up2_s, up2_kk]
            refine R_iconst dX12_couple_104 rfl rfl ?_
            refine R_aload_n dX12_couple_105 rfl ?_
            refine R_getI fd12_3 kf12_172 rfl dX12_couple_106 ?_
            try simp +decide only [up2_far, up2_s, up2_kk]
            refine R_imulN dX12_couple_109 (by unfold inI; omega) ?_
            refine R_iload dX12_couple_110 rfl ?_
            refine R_iaddN dX12_couple_112 (by unfold inI; omega) ?_
            refine R_iconst dX12_couple_113 rfl rfl ?_
            refine R_iast rfl (by omega) (by omega) dX12_couple_114 ?_
            refine R_iincN dX12_couple_115 rfl (by decide) rfl (by unfold inI; omega) [_, _, _, _, _, _] rfl ?_
            refine R_goto 94 dX12_couple_118 (by decide) ?_
            refine R_iload dX12_couple_94 rfl ?_
            refine R_iconst dX12_couple_96 rfl rfl ?_
            refine R_icmp_ge 121 dX12_couple_97 (by decide) (fun hc97 => ?_) (fun hc97 => ?_)
            · exact absurd hc97 (by omega)
            refine R_aload_n dX12_couple_100 rfl ?_
            refine R_getR _ (hr _ _ _ rfl) fd12_16 kf12_48 rfl dX12_couple_101 ?_
            try simp +decide only [up2_far, up2_s, up2_kk]
            refine R_iconst dX12_couple_104 rfl rfl ?_
            refine R_aload_n dX12_couple_105 rfl ?_
            refine R_getI fd12_3 kf12_172 rfl dX12_couple_106 ?_
            try simp +decide only [up2_far, up2_s, up2_kk]
            refine R_imulN dX12_couple_109 (by unfold inI; omega) ?_
            refine R_iload dX12_couple_110 rfl ?_
            refine R_iaddN dX12_couple_112 (by unfold inI; omega) ?_
            refine R_iconst dX12_couple_113 rfl rfl ?_
            refine R_iast rfl (by omega) (by omega) dX12_couple_114 ?_
            refine R_iincN dX12_couple_115 rfl (by decide) rfl (by unfold inI; omega) [_, _, _, _, _, _] rfl ?_
            refine R_goto 94 dX12_couple_118 (by decide) ?_
            refine R_iload dX12_couple_94 rfl ?_
            refine R_iconst dX12_couple_96 rfl rfl ?_
            refine R_icmp_ge 121 dX12_couple_97 (by decide) (fun hc97 => ?_) (fun hc97 => ?_)
            · exact absurd hc97 (by omega)
            refine R_aload_n dX12_couple_100 rfl ?_
            refine R_getR _ (hr _ _ _ rfl) fd12_16 kf12_48 rfl dX12_couple_101 ?_
            try simp +decide only [up2_far, up2_s, up2_kk]
            refine R_iconst dX12_couple_104 rfl rfl ?_
            refine R_aload_n dX12_couple_105 rfl ?_
            refine R_getI fd12_3 kf12_172 rfl dX12_couple_106 ?_
            try simp +decide only [up2_far, up2_s, up2_kk]
            refine R_imulN dX12_couple_109 (by unfold inI; omega) ?_
            refine R_iload dX12_couple_110 rfl ?_
            refine R_iaddN dX12_couple_112 (by unfold inI; omega) ?_
            refine R_iconst dX12_couple_113 rfl rfl ?_
            refine R_iast rfl (by omega) (by omega) dX12_couple_114 ?_
            refine R_iincN dX12_couple_115 rfl (by decide) rfl (by unfold inI; omega) [_, _, _, _, _, _] rfl ?_
            refine R_goto 94 dX12_couple_118 (by decide) ?_
            refine R_iload dX12_couple_94 rfl ?_
            refine R_iconst dX12_couple_96 rfl rfl ?_
            refine R_icmp_ge 121 dX12_couple_97 (by decide) (fun hc97 => ?_) (fun hc97 => ?_)
            · exact absurd hc97 (by omega)
            refine R_aload_n dX12_couple_100 rfl ?_
            refine R_getR _ (hr _ _ _ rfl) fd12_16 kf12_48 rfl dX12_couple_101 ?_
            try simp +decide only [up2_far, up2_s, up2_kk]
            refine R_iconst dX12_couple_104 rfl rfl ?_
            refine R_aload_n dX12_couple_105 rfl ?_
            refine R_getI fd12_3 kf12_172 rfl dX12_couple_106 ?_
            try simp +decide only [up2_far, up2_s, up2_kk]
            refine R_imulN dX12_couple_109 (by unfold inI; omega) ?_
            refine R_iload dX12_couple_110 rfl ?_
            refine R_iaddN dX12_couple_112 (by unfold inI; omega) ?_
            refine R_iconst dX12_couple_113 rfl rfl ?_
            refine R_iast rfl (by omega) (by omega) dX12_couple_114 ?_
            refine R_iincN dX12_couple_115 rfl (by decide) rfl (by unfold inI; omega) [_, _, _, _, _, _] rfl ?_
            refine R_goto 94 dX12_couple_118 (by decide) ?_
            refine R_iload dX12_couple_94 rfl ?_
            refine R_iconst dX12_couple_96 rfl rfl ?_
            refine R_icmp_ge 121 dX12_couple_97 (by decide) (fun hc97 => ?_) (fun hc97 => ?_)
            · refine R_aload_n dX12_couple_121 rfl ?_
              refine R_dup dX12_couple_122 (fun _ h => by cases h) ?_
              refine R_getI fd12_3 kf12_172 rfl dX12_couple_123 ?_
              try simp +decide only [up2_far, up2_s, up2_kk]
              refine R_iconst dX12_couple_126 rfl rfl ?_
              refine R_iaddN dX12_couple_127 (by unfold inI; omega) ?_
              refine R_putI fd12_3 rfl kf12_172 rfl dX12_couple_128 ?_
              refine R_aload_n dX12_couple_131 rfl ?_
              refine R_iconst dX12_couple_132 rfl rfl ?_
              refine R_putZ (by first | exact Or.inl rfl | exact Or.inr rfl | omega) fd12_23 rfl kf12_182 rfl dX12_couple_133 ?_
              refine R_aload_n dX12_couple_136 rfl ?_
              refine R_getI fd12_3 kf12_172 rfl dX12_couple_137 ?_
              try simp +decide only [up2_far, up2_s, up2_kk]
              refine R_iconst dX12_couple_140 rfl rfl ?_
              refine R_isubN dX12_couple_141 (by unfold inI; omega) ?_
              refine R_ireturn rfl (by first | rfl | exact nar_b2i | exact nar_bi) (by decide) (by decide) dX12_couple_142 ?_
              exact ⟨Or.inl ⟨⟨by unfold nmOK; simp only [vM]; omega, by unfold nmOK; simp only [vM]; omega, by omega, by omega, by omega, by omega⟩, by congr 2; omega, rfl⟩, rfl, rfl, rfl⟩
            · exact absurd (by omega) hc97
          · try simp only [b2i_z, bi_z, ne_eq, Classical.not_not] at hc45
            refine R_iconst dX12_couple_48 rfl rfl ?_
            refine R_ireturn rfl (by first | rfl | exact nar_b2i | exact nar_bi) (by decide) (by decide) dX12_couple_49 ?_
            exact ⟨Or.inr ⟨fun q => by have q1 := q.1; have q2 := q.2.1; unfold nmOK at q1 q2; simp only [vM] at q1 q2; omega, rfl, rfl⟩, rfl, rfl, rfl⟩
theorem m_parent (hr : RS r) (hN : 0 ≤ g 74 2 ∧ g 74 2 ≤ 16) (hC : 0 ≤ g 74 3 ∧ g 74 3 ≤ 6) (c w v : Int) : CT (mX12_parent (rmD 5 0 0)) 0 0 shW [vR (some 74), vI c, vI w, vI v] g z r (qG shW z r fun x g' => ((0 ≤ c ∧ c < g 74 3 ∧ 0 ≤ w ∧ w < 4 ∧ (v = -1 ∨ nmOK (vM g) v (w % 2))) ∧ x = some (vI 1) ∧ g' = up2 (up2 g 82 (4 * c + w).toNat v) 74 23 0) ∨ (¬ (0 ≤ c ∧ c < g 74 3 ∧ 0 ≤ w ∧ w < 4 ∧ (v = -1 ∨ nmOK (vM g) v (w % 2))) ∧ x = some (vI 0) ∧ g' = g)) := by
  refine CT.of 0 rfl rfl ?_
  have hb : 0 ≤ w → w ≤ 3 → bRem w 2 = w % 2 := by
    intro h1 h2
    rcases (show w = 0 ∨ w = 1 ∨ w = 2 ∨ w = 3 by omega) with rfl | rfl | rfl | rfl <;> decide +kernel
  refine R_aload_n dX12_parent_0 rfl ?_
  refine R_iload_n dX12_parent_1 rfl ?_
  refine R_callV (m_isCouple hC _) (mvX12_isCouple _) kiX12_isCouple kvX12_isCouple km12_193 rfl rfl (by decide) ⟨rfl, rfl, by decide, by decide⟩ (by decide) dX12_parent_2 (fun v1 sh1 g1 z1 r1 hq => ?_)
  obtain ⟨rfl, rfl, rfl, rfl, rfl⟩ := hq
  refine R_if_eq 36 dX12_parent_5 (by decide) (fun hc5 => ?_) (fun hc5 => ?_)
  · try simp only [b2i_z, bi_z, ne_eq, Classical.not_not] at hc5
    refine R_iconst dX12_parent_36 rfl rfl ?_
    refine R_ireturn rfl (by first | rfl | exact nar_b2i | exact nar_bi) (by decide) (by decide) dX12_parent_37 ?_
    first | exact ⟨Or.inr ⟨fun q => by have q1 := q.2.2.2.2; have q2 := hb q.2.2.1 (by omega); unfold nmOK at q1; simp only [vM] at q1; omega, rfl, rfl⟩, rfl, rfl, rfl⟩ | exact ⟨Or.inl ⟨⟨by omega, by omega, by omega, by omega, by have q2 := hb (by omega) (by omega); unfold nmOK; simp only [vM]; omega⟩, rfl, rfl⟩, rfl, rfl, rfl⟩
  · try simp only [b2i_z, bi_z, ne_eq, Classical.not_not] at hc5
    refine R_iload_n dX12_parent_8 rfl ?_
    refine R_i2l dX12_parent_9 ?_
    refine R_lconst dX12_parent_10 ?_
    refine R_ldc2_w (v := 3) kk12_196 dX12_parent_11 (by decide) ?_
    refine R_callS (m_lies _ _ _) (mvX12_lies _) ksX12_lies km12_164 ⟨rfl, rfl, by decide, by decide⟩ (by decide) dX12_parent_14 (fun v1 sh1 g1 z1 r1 hq => ?_)
    obtain ⟨rfl, rfl, rfl, rfl, rfl⟩ := hq
    refine R_if_eq 36 dX12_parent_17 (by decide) (fun hc17 => ?_) (fun hc17 => ?_)
    · try simp only [b2i_z, bi_z, ne_eq, Classical.not_not] at hc17
      refine R_iconst dX12_parent_36 rfl rfl ?_
      refine R_ireturn rfl (by first | rfl | exact nar_b2i | exact nar_bi) (by decide) (by decide) dX12_parent_37 ?_
      first | exact ⟨Or.inr ⟨fun q => by have q1 := q.2.2.2.2; have q2 := hb q.2.2.1 (by omega); unfold nmOK at q1; simp only [vM] at q1; omega, rfl, rfl⟩, rfl, rfl, rfl⟩ | exact ⟨Or.inl ⟨⟨by omega, by omega, by omega, by omega, by have q2 := hb (by omega) (by omega); unfold nmOK; simp only [vM]; omega⟩, rfl, rfl⟩, rfl, rfl, rfl⟩
    · try simp only [b2i_z, bi_z, ne_eq, Classical.not_not] at hc17
      refine R_iload_n dX12_parent_20 rfl ?_
      refine R_iconst dX12_parent_21 rfl rfl ?_
      refine R_icmp_eq 38 dX12_parent_22 (by decide) (fun hc22 => ?_) (fun hc22 => ?_)
      · refine R_aload_n dX12_parent_38 rfl ?_
        refine R_getR _ (hr _ _ _ rfl) fd12_16 kf12_48 rfl dX12_parent_39 ?_
        refine R_iconst dX12_parent_42 rfl rfl ?_
        refine R_iload_n dX12_parent_43 rfl ?_
        refine R_imulN dX12_parent_44 (by unfold inI; omega) ?_
        refine R_iload_n dX12_parent_45 rfl ?_
        refine R_iaddN dX12_parent_46 (by unfold inI; omega) ?_
        refine R_iload_n dX12_parent_47 rfl ?_
        refine R_iast rfl (by first | omega | decide) (by first | omega | decide) dX12_parent_48 ?_
        refine R_aload_n dX12_parent_49 rfl ?_
        refine R_iconst dX12_parent_50 rfl rfl ?_
        refine R_putZ (by first | exact Or.inl rfl | exact Or.inr rfl | omega) fd12_23 rfl kf12_182 rfl dX12_parent_51 ?_
        refine R_iconst dX12_parent_54 rfl rfl ?_
        refine R_ireturn rfl (by first | rfl | exact nar_b2i | exact nar_bi) (by decide) (by decide) dX12_parent_55 ?_
        first | exact ⟨Or.inr ⟨fun q => by have q1 := q.2.2.2.2; have q2 := hb q.2.2.1 (by omega); unfold nmOK at q1; simp only [vM] at q1; omega, rfl, rfl⟩, rfl, rfl, rfl⟩ | exact ⟨Or.inl ⟨⟨by omega, by omega, by omega, by omega, by have q2 := hb (by omega) (by omega); unfold nmOK; simp only [vM]; omega⟩, rfl, rfl⟩, rfl, rfl, rfl⟩
      · refine R_aload_n dX12_parent_25 rfl ?_
        refine R_iload_n dX12_parent_26 rfl ?_
        refine R_iload_n dX12_parent_27 rfl ?_
        refine R_iconst dX12_parent_28 rfl rfl ?_
        refine R_irem dX12_parent_29 (by first | omega | decide) ?_
        refine R_callV (m_isOf hr hN _ _) (mvX12_isOf _) kiX12_isOf kvX12_isOf km12_186 rfl rfl (by decide) ⟨rfl, rfl, by decide, by decide⟩ (by decide) dX12_parent_30 (fun v1 sh1 g1 z1 r1 hq => ?_)
        obtain ⟨rfl, rfl, rfl, rfl, rfl⟩ := hq
        refine R_if_ne 38 dX12_parent_33 (by decide) (fun hc33 => ?_) (fun hc33 => ?_)
        · try simp only [b2i_z, bi_z, ne_eq, Classical.not_not] at hc33
          refine R_aload_n dX12_parent_38 rfl ?_
          refine R_getR _ (hr _ _ _ rfl) fd12_16 kf12_48 rfl dX12_parent_39 ?_
          refine R_iconst dX12_parent_42 rfl rfl ?_
          refine R_iload_n dX12_parent_43 rfl ?_
          refine R_imulN dX12_parent_44 (by unfold inI; omega) ?_
          refine R_iload_n dX12_parent_45 rfl ?_
          refine R_iaddN dX12_parent_46 (by unfold inI; omega) ?_
          refine R_iload_n dX12_parent_47 rfl ?_
          refine R_iast rfl (by first | omega | decide) (by first | omega | decide) dX12_parent_48 ?_
          refine R_aload_n dX12_parent_49 rfl ?_
          refine R_iconst dX12_parent_50 rfl rfl ?_
          refine R_putZ (by first | exact Or.inl rfl | exact Or.inr rfl | omega) fd12_23 rfl kf12_182 rfl dX12_parent_51 ?_
          refine R_iconst dX12_parent_54 rfl rfl ?_
          refine R_ireturn rfl (by first | rfl | exact nar_b2i | exact nar_bi) (by decide) (by decide) dX12_parent_55 ?_
          first | exact ⟨Or.inr ⟨fun q => by have q1 := q.2.2.2.2; have q2 := hb q.2.2.1 (by omega); unfold nmOK at q1; simp only [vM] at q1; omega, rfl, rfl⟩, rfl, rfl, rfl⟩ | exact ⟨Or.inl ⟨⟨by omega, by omega, by omega, by omega, by have q2 := hb (by omega) (by omega); unfold nmOK; simp only [vM]; omega⟩, rfl, rfl⟩, rfl, rfl, rfl⟩
        · try simp only [b2i_z, bi_z, ne_eq, Classical.not_not] at hc33
          refine R_iconst dX12_parent_36 rfl rfl ?_
          refine R_ireturn rfl (by first | rfl | exact nar_b2i | exact nar_bi) (by decide) (by decide) dX12_parent_37 ?_
          first | exact ⟨Or.inr ⟨fun q => by have q1 := q.2.2.2.2; have q2 := hb q.2.2.1 (by omega); unfold nmOK at q1; simp only [vM] at q1; omega, rfl, rfl⟩, rfl, rfl, rfl⟩ | exact ⟨Or.inl ⟨⟨by omega, by omega, by omega, by omega, by have q2 := hb (by omega) (by omega); unfold nmOK; simp only [vM]; omega⟩, rfl, rfl⟩, rfl, rfl, rfl⟩
theorem m_christening (hr : RS r) (hN : 0 ≤ g 74 2 ∧ g 74 2 ≤ 16) (n : Nat) (hsz : g 74 4 = (n : Int)) (hn : n ≤ 10) (v y f m p : Int) : CT (mX12_christening (rmD 5 0 0)) 0 0 shW [vR (some 74), vI v, vI y, vI f, vI m, vI p] g z r (qG shW z r fun x g' => ((0 ≤ v ∧ v < g 74 2 ∧ 0 ≤ y ∧ y ≤ 299 ∧ nmOK (vM g) f 0 ∧ (m = -1 ∨ nmOK (vM g) m 1) ∧ (p = -1 ∨ nmOK (vM g) p (g 76 v.toNat)) ∧ n < 10) ∧ x = some (vI (n : Int)) ∧ g' = up2 (up2 (up2 (up2 (up2 (up2 (up2 (up2 g 83 n v) 84 n y) 85 n f) 86 n m) 87 n p) 88 n (-1)) 74 4 ((n : Int) + 1)) 74 23 0) ∨ (¬ (0 ≤ v ∧ v < g 74 2 ∧ 0 ≤ y ∧ y ≤ 299 ∧ nmOK (vM g) f 0 ∧ (m = -1 ∨ nmOK (vM g) m 1) ∧ (p = -1 ∨ nmOK (vM g) p (g 76 v.toNat)) ∧ n < 10) ∧ x = some (vI (-1)) ∧ g' = g)) := by
  refine CT.of 0 rfl rfl ?_
  refine R_aload_n dX12_christening_0 rfl ?_
  refine R_getI fd12_4 kf12_175 rfl dX12_christening_1 ?_
  refine R_bipush dX12_christening_4 rfl (by decide +kernel) ?_
  refine R_icmp_eq 70 dX12_christening_6 (by decide) (fun hc6 => ?_) (fun hc6 => ?_)
  · refine R_iconst dX12_christening_70 rfl rfl ?_
    refine R_ireturn rfl (by first | rfl | exact nar_b2i | exact nar_bi) (by decide) (by decide) dX12_christening_71 ?_
    first | exact ⟨Or.inr ⟨fun q => by have q1 := q.2.2.2.2.1; have q2 := q.2.2.2.2.2.1; have q3 := q.2.2.2.2.2.2.1; unfold nmOK at q1 q2 q3; simp only [vM] at q1 q2 q3; omega, rfl, rfl⟩, rfl, rfl, rfl⟩ | exact ⟨Or.inl ⟨⟨by omega, by omega, by omega, by omega, by unfold nmOK; simp only [vM]; omega, by unfold nmOK; simp only [vM]; omega, by unfold nmOK; simp only [vM]; omega, by omega⟩, by congr 2; omega, by rw [hsz]; rfl⟩, rfl, rfl, rfl⟩
  · refine R_aload_n dX12_christening_9 rfl ?_
    refine R_iload_n dX12_christening_10 rfl ?_
    refine R_callV (m_isName hN _) (mvX12_isName _) kiX12_isName kvX12_isName km12_168 rfl rfl (by decide) ⟨rfl, rfl, by decide, by decide⟩ (by decide) dX12_christening_11 (fun v1 sh1 g1 z1 r1 hq => ?_)
    obtain ⟨rfl, rfl, rfl, rfl, rfl⟩ := hq
    refine R_if_eq 70 dX12_christening_14 (by decide) (fun hc14 => ?_) (fun hc14 => ?_)
    · try simp only [b2i_z, bi_z, ne_eq, Classical.not_not] at hc14
      refine R_iconst dX12_christening_70 rfl rfl ?_
      refine R_ireturn rfl (by first | rfl | exact nar_b2i | exact nar_bi) (by decide) (by decide) dX12_christening_71 ?_
      first | exact ⟨Or.inr ⟨fun q => by have q1 := q.2.2.2.2.1; have q2 := q.2.2.2.2.2.1; have q3 := q.2.2.2.2.2.2.1; unfold nmOK at q1 q2 q3; simp only [vM] at q1 q2 q3; omega, rfl, rfl⟩, rfl, rfl, rfl⟩ | exact ⟨Or.inl ⟨⟨by omega, by omega, by omega, by omega, by unfold nmOK; simp only [vM]; omega, by unfold nmOK; simp only [vM]; omega, by unfold nmOK; simp only [vM]; omega, by omega⟩, by congr 2; omega, by rw [hsz]; rfl⟩, rfl, rfl, rfl⟩
    · try simp only [b2i_z, bi_z, ne_eq, Classical.not_not] at hc14
      refine R_iload_n dX12_christening_17 rfl ?_
      refine R_callS (m_isYear _) (mvX12_isYear _) ksX12_isYear km12_190 ⟨rfl, rfl, by decide, by decide⟩ (by decide) dX12_christening_18 (fun v1 sh1 g1 z1 r1 hq => ?_)
      obtain ⟨rfl, rfl, rfl, rfl, rfl⟩ := hq
      refine R_if_eq 70 dX12_christening_21 (by decide) (fun hc21 => ?_) (fun hc21 => ?_)
      · try simp only [b2i_z, bi_z, ne_eq, Classical.not_not] at hc21
        refine R_iconst dX12_christening_70 rfl rfl ?_
        refine R_ireturn rfl (by first | rfl | exact nar_b2i | exact nar_bi) (by decide) (by decide) dX12_christening_71 ?_
        first | exact ⟨Or.inr ⟨fun q => by have q1 := q.2.2.2.2.1; have q2 := q.2.2.2.2.2.1; have q3 := q.2.2.2.2.2.2.1; unfold nmOK at q1 q2 q3; simp only [vM] at q1 q2 q3; omega, rfl, rfl⟩, rfl, rfl, rfl⟩ | exact ⟨Or.inl ⟨⟨by omega, by omega, by omega, by omega, by unfold nmOK; simp only [vM]; omega, by unfold nmOK; simp only [vM]; omega, by unfold nmOK; simp only [vM]; omega, by omega⟩, by congr 2; omega, by rw [hsz]; rfl⟩, rfl, rfl, rfl⟩
      · try simp only [b2i_z, bi_z, ne_eq, Classical.not_not] at hc21
        refine R_aload_n dX12_christening_24 rfl ?_
        refine R_iload_n dX12_christening_25 rfl ?_
        refine R_iconst dX12_christening_26 rfl rfl ?_
        refine R_callV (m_isOf hr hN _ _) (mvX12_isOf _) kiX12_isOf kvX12_isOf km12_186 rfl rfl (by decide) ⟨rfl, rfl, by decide, by decide⟩ (by decide) dX12_christening_27 (fun v1 sh1 g1 z1 r1 hq => ?_)
        obtain ⟨rfl, rfl, rfl, rfl, rfl⟩ := hq
        refine R_if_eq 70 dX12_christening_30 (by decide) (fun hc30 => ?_) (fun hc30 => ?_)
        · try simp only [b2i_z, bi_z, ne_eq, Classical.not_not] at hc30
          refine R_iconst dX12_christening_70 rfl rfl ?_
          refine R_ireturn rfl (by first | rfl | exact nar_b2i | exact nar_bi) (by decide) (by decide) dX12_christening_71 ?_
          first | exact ⟨Or.inr ⟨fun q => by have q1 := q.2.2.2.2.1; have q2 := q.2.2.2.2.2.1; have q3 := q.2.2.2.2.2.2.1; unfold nmOK at q1 q2 q3; simp only [vM] at q1 q2 q3; omega, rfl, rfl⟩, rfl, rfl, rfl⟩ | exact ⟨Or.inl ⟨⟨by omega, by omega, by omega, by omega, by unfold nmOK; simp only [vM]; omega, by unfold nmOK; simp only [vM]; omega, by unfold nmOK; simp only [vM]; omega, by omega⟩, by congr 2; omega, by rw [hsz]; rfl⟩, rfl, rfl, rfl⟩
        · try simp only [b2i_z, bi_z, ne_eq, Classical.not_not] at hc30
          refine R_iload dX12_christening_33 rfl ?_
          refine R_iconst dX12_christening_35 rfl rfl ?_
          refine R_icmp_eq 49 dX12_christening_36 (by decide) (fun hc36 => ?_) (fun hc36 => ?_)
          · refine R_iload dX12_christening_49 rfl ?_
            refine R_iconst dX12_christening_51 rfl rfl ?_
            refine R_icmp_eq 72 dX12_christening_52 (by decide) (fun hc52 => ?_) (fun hc52 => ?_)
            · refine R_aload_n dX12_christening_72 rfl ?_
              refine R_getR _ (hr _ _ _ rfl) fd12_17 kf12_51 rfl dX12_christening_73 ?_
              refine R_aload_n dX12_christening_76 rfl ?_
              refine R_getI fd12_4 kf12_175 rfl dX12_christening_77 ?_
              refine R_iload_n dX12_christening_80 rfl ?_
              refine R_iast rfl (by omega) (by omega) dX12_christening_81 ?_
              refine R_aload_n dX12_christening_82 rfl ?_
              refine R_getR _ (hr _ _ _ rfl) fd12_18 kf12_54 rfl dX12_christening_83 ?_
              try simp +decide only [up2_far, up2_s, up2_kk]
              refine R_aload_n dX12_christening_86 rfl ?_
              refine R_getI fd12_4 kf12_175 rfl dX12_christening_87 ?_
              try simp +decide only [up2_far, up2_s, up2_kk]
              refine R_iload_n dX12_christening_90 rfl ?_
              refine R_iast rfl (by omega) (by omega) dX12_christening_91 ?_
              refine R_aload_n dX12_christening_92 rfl ?_
              refine R_getR _ (hr _ _ _ rfl) fd12_19 kf12_57 rfl dX12_christening_93 ?_
              try simp +decide only [up2_far, up2_s, up2_kk]
              refine R_aload_n dX12_christening_96 rfl ?_
              refine R_getI fd12_4 kf12_175 rfl dX12_christening_97 ?_
              try simp +decide only [up2_far, up2_s, up2_kk]
              refine R_iload_n dX12_christening_100 rfl ?_
              refine R_iast rfl (by omega) (by omega) dX12_christening_101 ?_
              refine R_aload_n dX12_christening_102 rfl ?_
              refine R_getR _ (hr _ _ _ rfl) fd12_20 kf12_60 rfl dX12_christening_103 ?_
              try simp +decide only [up2_far, up2_s, up2_kk]
              refine R_aload_n dX12_christening_106 rfl ?_
              refine R_getI fd12_4 kf12_175 rfl dX12_christening_107 ?_
              try simp +decide only [up2_far, up2_s, up2_kk]
              refine R_iload dX12_christening_110 rfl ?_
              refine R_iast rfl (by omega) (by omega) dX12_christening_112 ?_
              refine R_aload_n dX12_christening_113 rfl ?_
              refine R_getR _ (hr _ _ _ rfl) fd12_21 kf12_63 rfl dX12_christening_114 ?_
              try simp +decide only [up2_far, up2_s, up2_kk]
              refine R_aload_n dX12_christening_117 rfl ?_
              refine R_getI fd12_4 kf12_175 rfl dX12_christening_118 ?_
              try simp +decide only [up2_far, up2_s, up2_kk]
              refine R_iload dX12_christening_121 rfl ?_
              refine R_iast rfl (by omega) (by omega) dX12_christening_123 ?_
              refine R_aload_n dX12_christening_124 rfl ?_
              refine R_getR _ (hr _ _ _ rfl) fd12_22 kf12_66 rfl dX12_christening_125 ?_
              try simp +decide only [up2_far, up2_s, up2_kk]
              refine R_aload_n dX12_christening_128 rfl ?_
              refine R_getI fd12_4 kf12_175 rfl dX12_christening_129 ?_
              try simp +decide only [up2_far, up2_s, up2_kk]
              refine R_iconst dX12_christening_132 rfl rfl ?_
              refine R_iast rfl (by omega) (by omega) dX12_christening_133 ?_
              refine R_aload_n dX12_christening_134 rfl ?_
              refine R_dup dX12_christening_135 (fun _ h => by cases h) ?_
              refine R_getI fd12_4 kf12_175 rfl dX12_christening_136 ?_
              try simp +decide only [up2_far, up2_s, up2_kk]
              refine R_iconst dX12_christening_139 rfl rfl ?_
              refine R_iaddN dX12_christening_140 (by unfold inI; omega) ?_
              refine R_putI fd12_4 rfl kf12_175 rfl dX12_christening_141 ?_
              refine R_aload_n dX12_christening_144 rfl ?_
              refine R_iconst dX12_christening_145 rfl rfl ?_
              refine R_putZ (by first | exact Or.inl rfl | exact Or.inr rfl | omega) fd12_23 rfl kf12_182 rfl dX12_christening_146 ?_
              refine R_aload_n dX12_christening_149 rfl ?_
              refine R_getI fd12_4 kf12_175 rfl dX12_christening_150 ?_
              try simp +decide only [up2_far, up2_s, up2_kk]
              refine R_iconst dX12_christening_153 rfl rfl ?_
              refine R_isubN dX12_christening_154 (by unfold inI; omega) ?_
              refine R_ireturn rfl (by first | rfl | exact nar_b2i | exact nar_bi) (by decide) (by decide) dX12_christening_155 ?_
              first | exact ⟨Or.inr ⟨fun q => by have q1 := q.2.2.2.2.1; have q2 := q.2.2.2.2.2.1; have q3 := q.2.2.2.2.2.2.1; unfold nmOK at q1 q2 q3; simp only [vM] at q1 q2 q3; omega, rfl, rfl⟩, rfl, rfl, rfl⟩ | exact ⟨Or.inl ⟨⟨by omega, by omega, by omega, by omega, by unfold nmOK; simp only [vM]; omega, by unfold nmOK; simp only [vM]; omega, by unfold nmOK; simp only [vM]; omega, by omega⟩, by congr 2; omega, by rw [hsz]; rfl⟩, rfl, rfl, rfl⟩
            · refine R_aload_n dX12_christening_55 rfl ?_
              refine R_iload dX12_christening_56 rfl ?_
              refine R_aload_n dX12_christening_58 rfl ?_
              refine R_getR _ (hr _ _ _ rfl) fd12_10 kf12_29 rfl dX12_christening_59 ?_
              refine R_iload_n dX12_christening_62 rfl ?_
              refine R_iald rfl (by omega) (by omega) dX12_christening_63 ?_
              refine R_callV (m_isOf hr hN _ _) (mvX12_isOf _) kiX12_isOf kvX12_isOf km12_186 rfl rfl (by decide) ⟨rfl, rfl, by decide, by decide⟩ (by decide) dX12_christening_64 (fun v1 sh1 g1 z1 r1 hq => ?_)
              obtain ⟨rfl, rfl, rfl, rfl, rfl⟩ := hq
              refine R_if_ne 72 dX12_christening_67 (by decide) (fun hc67 => ?_) (fun hc67 => ?_)
              · try simp only [b2i_z, bi_z, ne_eq, Classical.not_not] at hc67
                refine R_aload_n dX12_christening_72 rfl ?_
                refine R_getR _ (hr _ _ _ rfl) fd12_17 kf12_51 rfl dX12_christening_73 ?_
                refine R_aload_n dX12_christening_76 rfl ?_
                refine R_getI fd12_4 kf12_175 rfl dX12_christening_77 ?_
                refine R_iload_n dX12_christening_80 rfl ?_
                refine R_iast rfl (by omega) (by omega) dX12_christening_81 ?_
                refine R_aload_n dX12_christening_82 rfl ?_
                refine R_getR _ (hr _ _ _ rfl) fd12_18 kf12_54 rfl dX12_christening_83 ?_
                try simp +decide only [up2_far, up2_s, up2_kk]
                refine R_aload_n dX12_christening_86 rfl ?_
                refine R_getI fd12_4 kf12_175 rfl dX12_christening_87 ?_
                try simp +decide only [up2_far, up2_s, up2_kk]
                refine R_iload_n dX12_christening_90 rfl ?_
                refine R_iast rfl (by omega) (by omega) dX12_christening_91 ?_
                refine R_aload_n dX12_christening_92 rfl ?_
                refine R_getR _ (hr _ _ _ rfl) fd12_19 kf12_57 rfl dX12_christening_93 ?_
                try simp +decide only [up2_far, up2_s, up2_kk]
                refine R_aload_n dX12_christening_96 rfl ?_
                refine R_getI fd12_4 kf12_175 rfl dX12_christening_97 ?_
                try simp +decide only [up2_far, up2_s, up2_kk]
                refine R_iload_n dX12_christening_100 rfl ?_
                refine R_iast rfl (by omega) (by omega) dX12_christening_101 ?_
                refine R_aload_n dX12_christening_102 rfl ?_
                refine R_getR _ (hr _ _ _ rfl) fd12_20 kf12_60 rfl dX12_christening_103 ?_
                try simp +decide only [up2_far, up2_s, up2_kk]
                refine R_aload_n dX12_christening_106 rfl ?_
                refine R_getI fd12_4 kf12_175 rfl dX12_christening_107 ?_
                try simp +decide only [up2_far, up2_s, up2_kk]
                refine R_iload dX12_christening_110 rfl ?_
                refine R_iast rfl (by omega) (by omega) dX12_christening_112 ?_
                refine R_aload_n dX12_christening_113 rfl ?_
                refine R_getR _ (hr _ _ _ rfl) fd12_21 kf12_63 rfl dX12_christening_114 ?_
                try simp +decide only [up2_far, up2_s, up2_kk]
                refine R_aload_n dX12_christening_117 rfl ?_
                refine R_getI fd12_4 kf12_175 rfl dX12_christening_118 ?_
                try simp +decide only [up2_far, up2_s, up2_kk]
                refine R_iload dX12_christening_121 rfl ?_
                refine R_iast rfl (by omega) (by omega) dX12_christening_123 ?_
                refine R_aload_n dX12_christening_124 rfl ?_
                refine R_getR _ (hr _ _ _ rfl) fd12_22 kf12_66 rfl dX12_christening_125 ?_
                try simp +decide only [up2_far, up2_s, up2_kk]
                refine R_aload_n dX12_christening_128 rfl ?_
                refine R_getI fd12_4 kf12_175 rfl dX12_christening_129 ?_
                try simp +decide only [up2_far, up2_s, up2_kk]
                refine R_iconst dX12_christening_132 rfl rfl ?_
                refine R_iast rfl (by omega) (by omega) dX12_christening_133 ?_
                refine R_aload_n dX12_christening_134 rfl ?_
                refine R_dup dX12_christening_135 (fun _ h => by cases h) ?_
                refine R_getI fd12_4 kf12_175 rfl dX12_christening_136 ?_
                try simp +decide only [up2_far, up2_s, up2_kk]
                refine R_iconst dX12_christening_139 rfl rfl ?_
                refine R_iaddN dX12_christening_140 (by unfold inI; omega) ?_
                refine R_putI fd12_4 rfl kf12_175 rfl dX12_christening_141 ?_
                refine R_aload_n dX12_christening_144 rfl ?_
                refine R_iconst dX12_christening_145 rfl rfl ?_
                refine R_putZ (by first | exact Or.inl rfl | exact Or.inr rfl | omega) fd12_23 rfl kf12_182 rfl dX12_christening_146 ?_
                refine R_aload_n dX12_christening_149 rfl ?_
                refine R_getI fd12_4 kf12_175 rfl dX12_christening_150 ?_
                try simp +decide only [up2_far, up2_s, up2_kk]
                refine R_iconst dX12_christening_153 rfl rfl ?_
                refine R_isubN dX12_christening_154 (by unfold inI; omega) ?_
                refine R_ireturn rfl (by first | rfl | exact nar_b2i | exact nar_bi) (by decide) (by decide) dX12_christening_155 ?_
                first | exact ⟨Or.inr ⟨fun q => by have q1 := q.2.2.2.2.1; have q2 := q.2.2.2.2.2.1; have q3 := q.2.2.2.2.2.2.1; unfold nmOK at q1 q2 q3; simp only [vM] at q1 q2 q3; omega, rfl, rfl⟩, rfl, rfl, rfl⟩ | exact ⟨Or.inl ⟨⟨by omega, by omega, by omega, by omega, by unfold nmOK; simp only [vM]; omega, by unfold nmOK; simp only [vM]; omega, by unfold nmOK; simp only [vM]; omega, by omega⟩, by congr 2; omega, by rw [hsz]; rfl⟩, rfl, rfl, rfl⟩
              · try simp only [b2i_z, bi_z, ne_eq, Classical.not_not] at hc67
                refine R_iconst dX12_christening_70 rfl rfl ?_
                refine R_ireturn rfl (by first | rfl | exact nar_b2i | exact nar_bi) (by decide) (by decide) dX12_christening_71 ?_
                first | exact ⟨Or.inr ⟨fun q => by have q1 := q.2.2.2.2.1; have q2 := q.2.2.2.2.2.1; have q3 := q.2.2.2.2.2.2.1; unfold nmOK at q1 q2 q3; simp only [vM] at q1 q2 q3; omega, rfl, rfl⟩, rfl, rfl, rfl⟩ | exact ⟨Or.inl ⟨⟨by omega, by omega, by omega, by omega, by unfold nmOK; simp only [vM]; omega, by unfold nmOK; simp only [vM]; omega, by unfold nmOK; simp only [vM]; omega, by omega⟩, by congr 2; omega, by rw [hsz]; rfl⟩, rfl, rfl, rfl⟩
          · refine R_aload_n dX12_christening_39 rfl ?_
            refine R_iload dX12_christening_40 rfl ?_
            refine R_iconst dX12_christening_42 rfl rfl ?_
            refine R_callV (m_isOf hr hN _ _) (mvX12_isOf _) kiX12_isOf kvX12_isOf km12_186 rfl rfl (by decide) ⟨rfl, rfl, by decide, by decide⟩ (by decide) dX12_christening_43 (fun v1 sh1 g1 z1 r1 hq => ?_)
            obtain ⟨rfl, rfl, rfl, rfl, rfl⟩ := hq
            refine R_if_eq 70 dX12_christening_46 (by decide) (fun hc46 => ?_) (fun hc46 => ?_)
            · try simp only [b2i_z, bi_z, ne_eq, Classical.not_not] at hc46
              refine R_iconst dX12_christening_70 rfl rfl ?_
              refine R_ireturn rfl (by first | rfl | exact nar_b2i | exact nar_bi) (by decide) (by decide) dX12_christening_71 ?_
              first | exact ⟨Or.inr ⟨fun q => by have q1 := q.2.2.2.2.1; have q2 := q.2.2.2.2.2.1; have q3 := q.2.2.2.2.2.2.1; unfold nmOK at q1 q2 q3; simp only [vM] at q1 q2 q3; omega, rfl, rfl⟩, rfl, rfl, rfl⟩ | exact ⟨Or.inl ⟨⟨by omega, by omega, by omega, by omega, by unfold nmOK; simp only [vM]; omega, by unfold nmOK; simp only [vM]; omega, by unfold nmOK; simp only [vM]; omega, by omega⟩, by congr 2; omega, by rw [hsz]; rfl⟩, rfl, rfl, rfl⟩
            · try simp only [b2i_z, bi_z, ne_eq, Classical.not_not] at hc46
              refine R_iload dX12_christening_49 rfl ?_
              refine R_iconst dX12_christening_51 rfl rfl ?_
              refine R_icmp_eq 72 dX12_christening_52 (by decide) (fun hc52 => ?_) (fun hc52 => ?_)
              · refine R_aload_n dX12_christening_72 rfl ?_
                refine R_getR _ (hr _ _ _ rfl) fd12_17 kf12_51 rfl dX12_christening_73 ?_
                refine R_aload_n dX12_christening_76 rfl ?_
                refine R_getI fd12_4 kf12_175 rfl dX12_christening_77 ?_
                refine R_iload_n dX12_christening_80 rfl ?_
                refine R_iast rfl (by omega) (by omega) dX12_christening_81 ?_
                refine R_aload_n dX12_christening_82 rfl ?_
                refine R_getR _ (hr _ _ _ rfl) fd12_18 kf12_54 rfl dX12_christening_83 ?_
                try simp +decide only [up2_far, up2_s, up2_kk]
                refine R_aload_n dX12_christening_86 rfl ?_
                refine R_getI fd12_4 kf12_175 rfl dX12_christening_87 ?_
                try simp +decide only [up2_far, up2_s, up2_kk]
                refine R_iload_n dX12_christening_90 rfl ?_
                refine R_iast rfl (by omega) (by omega) dX12_christening_91 ?_
                refine R_aload_n dX12_christening_92 rfl ?_
                refine R_getR _ (hr _ _ _ rfl) fd12_19 kf12_57 rfl dX12_christening_93 ?_
                try simp +decide only [up2_far, up2_s, up2_kk]
                refine R_aload_n dX12_christening_96 rfl ?_
                refine R_getI fd12_4 kf12_175 rfl dX12_christening_97 ?_
                try simp +decide only [up2_far, up2_s, up2_kk]
                refine R_iload_n dX12_christening_100 rfl ?_
                refine R_iast rfl (by omega) (by omega) dX12_christening_101 ?_
                refine R_aload_n dX12_christening_102 rfl ?_
                refine R_getR _ (hr _ _ _ rfl) fd12_20 kf12_60 rfl dX12_christening_103 ?_
                try simp +decide only [up2_far, up2_s, up2_kk]
                refine R_aload_n dX12_christening_106 rfl ?_
                refine R_getI fd12_4 kf12_175 rfl dX12_christening_107 ?_
                try simp +decide only [up2_far, up2_s, up2_kk]
                refine R_iload dX12_christening_110 rfl ?_
                refine R_iast rfl (by omega) (by omega) dX12_christening_112 ?_
                refine R_aload_n dX12_christening_113 rfl ?_
                refine R_getR _ (hr _ _ _ rfl) fd12_21 kf12_63 rfl dX12_christening_114 ?_
                try simp +decide only [up2_far, up2_s, up2_kk]
                refine R_aload_n dX12_christening_117 rfl ?_
                refine R_getI fd12_4 kf12_175 rfl dX12_christening_118 ?_
                try simp +decide only [up2_far, up2_s, up2_kk]
                refine R_iload dX12_christening_121 rfl ?_
                refine R_iast rfl (by omega) (by omega) dX12_christening_123 ?_
                refine R_aload_n dX12_christening_124 rfl ?_
                refine R_getR _ (hr _ _ _ rfl) fd12_22 kf12_66 rfl dX12_christening_125 ?_
                try simp +decide only [up2_far, up2_s, up2_kk]
                refine R_aload_n dX12_christening_128 rfl ?_
                refine R_getI fd12_4 kf12_175 rfl dX12_christening_129 ?_
                try simp +decide only [up2_far, up2_s, up2_kk]
                refine R_iconst dX12_christening_132 rfl rfl ?_
                refine R_iast rfl (by omega) (by omega) dX12_christening_133 ?_
                refine R_aload_n dX12_christening_134 rfl ?_
                refine R_dup dX12_christening_135 (fun _ h => by cases h) ?_
                refine R_getI fd12_4 kf12_175 rfl dX12_christening_136 ?_
                try simp +decide only [up2_far, up2_s, up2_kk]
                refine R_iconst dX12_christening_139 rfl rfl ?_
                refine R_iaddN dX12_christening_140 (by unfold inI; omega) ?_
                refine R_putI fd12_4 rfl kf12_175 rfl dX12_christening_141 ?_
                refine R_aload_n dX12_christening_144 rfl ?_
                refine R_iconst dX12_christening_145 rfl rfl ?_
                refine R_putZ (by first | exact Or.inl rfl | exact Or.inr rfl | omega) fd12_23 rfl kf12_182 rfl dX12_christening_146 ?_
                refine R_aload_n dX12_christening_149 rfl ?_
                refine R_getI fd12_4 kf12_175 rfl dX12_christening_150 ?_
                try simp +decide only [up2_far, up2_s, up2_kk]
                refine R_iconst dX12_christening_153 rfl rfl ?_
                refine R_isubN dX12_christening_154 (by unfold inI; omega) ?_
                refine R_ireturn rfl (by first | rfl | exact nar_b2i | exact nar_bi) (by decide) (by decide) dX12_christening_155 ?_
                first | exact ⟨Or.inr ⟨fun q => by have q1 := q.2.2.2.2.1; have q2 := q.2.2.2.2.2.1; have q3 := q.2.2.2.2.2.2.1; unfold nmOK at q1 q2 q3; simp only [vM] at q1 q2 q3; omega, rfl, rfl⟩, rfl, rfl, rfl⟩ | exact ⟨Or.inl ⟨⟨by omega, by omega, by omega, by omega, by unfold nmOK; simp only [vM]; omega, by unfold nmOK; simp only [vM]; omega, by unfold nmOK; simp only [vM]; omega, by omega⟩, by congr 2; omega, by rw [hsz]; rfl⟩, rfl, rfl, rfl⟩
              · refine R_aload_n dX12_christening_55 rfl ?_
                refine R_iload dX12_christening_56 rfl ?_
                refine R_aload_n dX12_christening_58 rfl ?_
                refine R_getR _ (hr _ _ _ rfl) fd12_10 kf12_29 rfl dX12_christening_59 ?_
                refine R_iload_n dX12_christening_62 rfl ?_
                refine R_iald rfl (by omega) (by omega) dX12_christening_63 ?_
                refine R_callV (m_isOf hr hN _ _) (mvX12_isOf _) kiX12_isOf kvX12_isOf km12_186 rfl rfl (by decide) ⟨rfl, rfl, by decide, by decide⟩ (by decide) dX12_christening_64 (fun v1 sh1 g1 z1 r1 hq => ?_)
                obtain ⟨rfl, rfl, rfl, rfl, rfl⟩ := hq
                refine R_if_ne 72 dX12_christening_67 (by decide) (fun hc67 => ?_) (fun hc67 => ?_)
                · try simp only [b2i_z, bi_z, ne_eq, Classical.not_not] at hc67
                  refine R_aload_n dX12_christening_72 rfl ?_
                  refine R_getR _ (hr _ _ _ rfl) fd12_17 kf12_51 rfl dX12_christening_73 ?_
                  refine R_aload_n dX12_christening_76 rfl ?_
                  refine R_getI fd12_4 kf12_175 rfl dX12_christening_77 ?_
                  refine R_iload_n dX12_christening_80 rfl ?_
                  refine R_iast rfl (by omega) (by omega) dX12_christening_81 ?_
                  refine R_aload_n dX12_christening_82 rfl ?_
                  refine R_getR _ (hr _ _ _ rfl) fd12_18 kf12_54 rfl dX12_christening_83 ?_
                  try simp +decide only [up2_far, up2_s, up2_kk]
                  refine R_aload_n dX12_christening_86 rfl ?_
                  refine R_getI fd12_4 kf12_175 rfl dX12_christening_87 ?_
                  try simp +decide only [up2_far, up2_s, up2_kk]
                  refine R_iload_n dX12_christening_90 rfl ?_
                  refine R_iast rfl (by omega) (by omega) dX12_christening_91 ?_
                  refine R_aload_n dX12_christening_92 rfl ?_
                  refine R_getR _ (hr _ _ _ rfl) fd12_19 kf12_57 rfl dX12_christening_93 ?_
                  try simp +decide only [up2_far, up2_s, up2_kk]
                  refine R_aload_n dX12_christening_96 rfl ?_
                  refine R_getI fd12_4 kf12_175 rfl dX12_christening_97 ?_
                  try simp +decide only [up2_far, up2_s, up2_kk]
                  refine R_iload_n dX12_christening_100 rfl ?_
                  refine R_iast rfl (by omega) (by omega) dX12_christening_101 ?_
                  refine R_aload_n dX12_christening_102 rfl ?_
                  refine R_getR _ (hr _ _ _ rfl) fd12_20 kf12_60 rfl dX12_christening_103 ?_
                  try simp +decide only [up2_far, up2_s, up2_kk]
                  refine R_aload_n dX12_christening_106 rfl ?_
                  refine R_getI fd12_4 kf12_175 rfl dX12_christening_107 ?_
                  try simp +decide only [up2_far, up2_s, up2_kk]
                  refine R_iload dX12_christening_110 rfl ?_
                  refine R_iast rfl (by omega) (by omega) dX12_christening_112 ?_
                  refine R_aload_n dX12_christening_113 rfl ?_
                  refine R_getR _ (hr _ _ _ rfl) fd12_21 kf12_63 rfl dX12_christening_114 ?_
                  try simp +decide only [up2_far, up2_s, up2_kk]
                  refine R_aload_n dX12_christening_117 rfl ?_
                  refine R_getI fd12_4 kf12_175 rfl dX12_christening_118 ?_
                  try simp +decide only [up2_far, up2_s, up2_kk]
                  refine R_iload dX12_christening_121 rfl ?_
                  refine R_iast rfl (by omega) (by omega) dX12_christening_123 ?_
                  refine R_aload_n dX12_christening_124 rfl ?_
                  refine R_getR _ (hr _ _ _ rfl) fd12_22 kf12_66 rfl dX12_christening_125 ?_
                  try simp +decide only [up2_far, up2_s, up2_kk]
                  refine R_aload_n dX12_christening_128 rfl ?_
                  refine R_getI fd12_4 kf12_175 rfl dX12_christening_129 ?_
                  try simp +decide only [up2_far, up2_s, up2_kk]
                  refine R_iconst dX12_christening_132 rfl rfl ?_
                  refine R_iast rfl (by omega) (by omega) dX12_christening_133 ?_
                  refine R_aload_n dX12_christening_134 rfl ?_
                  refine R_dup dX12_christening_135 (fun _ h => by cases h) ?_
                  refine R_getI fd12_4 kf12_175 rfl dX12_christening_136 ?_
                  try simp +decide only [up2_far, up2_s, up2_kk]
                  refine R_iconst dX12_christening_139 rfl rfl ?_
                  refine R_iaddN dX12_christening_140 (by unfold inI; omega) ?_
                  refine R_putI fd12_4 rfl kf12_175 rfl dX12_christening_141 ?_
                  refine R_aload_n dX12_christening_144 rfl ?_
                  refine R_iconst dX12_christening_145 rfl rfl ?_
                  refine R_putZ (by first | exact Or.inl rfl | exact Or.inr rfl | omega) fd12_23 rfl kf12_182 rfl dX12_christening_146 ?_
                  refine R_aload_n dX12_christening_149 rfl ?_
                  refine R_getI fd12_4 kf12_175 rfl dX12_christening_150 ?_
                  try simp +decide only [up2_far, up2_s, up2_kk]
                  refine R_iconst dX12_christening_153 rfl rfl ?_
                  refine R_isubN dX12_christening_154 (by unfold inI; omega) ?_
                  refine R_ireturn rfl (by first | rfl | exact nar_b2i | exact nar_bi) (by decide) (by decide) dX12_christening_155 ?_
                  first | exact ⟨Or.inr ⟨fun q => by have q1 := q.2.2.2.2.1; have q2 := q.2.2.2.2.2.1; have q3 := q.2.2.2.2.2.2.1; unfold nmOK at q1 q2 q3; simp only [vM] at q1 q2 q3; omega, rfl, rfl⟩, rfl, rfl, rfl⟩ | exact ⟨Or.inl ⟨⟨by omega, by omega, by omega, by omega, by unfold nmOK; simp only [vM]; omega, by unfold nmOK; simp only [vM]; omega, by unfold nmOK; simp only [vM]; omega, by omega⟩, by congr 2; omega, by rw [hsz]; rfl⟩, rfl, rfl, rfl⟩
                · try simp only [b2i_z, bi_z, ne_eq, Classical.not_not] at hc67
                  refine R_iconst dX12_christening_70 rfl rfl ?_
                  refine R_ireturn rfl (by first | rfl | exact nar_b2i | exact nar_bi) (by decide) (by decide) dX12_christening_71 ?_
                  first | exact ⟨Or.inr ⟨fun q => by have q1 := q.2.2.2.2.1; have q2 := q.2.2.2.2.2.1; have q3 := q.2.2.2.2.2.2.1; unfold nmOK at q1 q2 q3; simp only [vM] at q1 q2 q3; omega, rfl, rfl⟩, rfl, rfl, rfl⟩ | exact ⟨Or.inl ⟨⟨by omega, by omega, by omega, by omega, by unfold nmOK; simp only [vM]; omega, by unfold nmOK; simp only [vM]; omega, by unfold nmOK; simp only [vM]; omega, by omega⟩, by congr 2; omega, by rw [hsz]; rfl⟩, rfl, rfl, rfl⟩
end M2
