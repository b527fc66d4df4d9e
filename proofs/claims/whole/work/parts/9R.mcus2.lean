def KmR (g : GG) (K : Nat → CUS) : Prop := ∀ k, k < 4 → ∀ j, j < (K k).length → ((160 * k : Nat) : Int) ≤ g 91 (12 * k + j) ∧ g 92 (12 * k + j) ≤ ((160 * k + 160 : Nat) : Int)
def MCl (g : GG) (acc : List (Nat × BN)) : Prop := g 74 38 = (acc.length : Int) ∧ acc.length ≤ 12 ∧ GL acc ∧ ∀ (j : Nat) (q : Nat × BN), acc[j]? = some q → g 95 j = chL (q.1 : Int) ∧ g 96 j = (ofs acc j : Int) ∧ g 97 j = (ofs acc (j + 1) : Int)
def FrU (g g' : GG) : Prop := (∀ c', c' ≠ 74 → c' ≤ 88 ∨ 101 ≤ c' → g' c' = g c') ∧ ∀ k, k ≠ 1 → k ≠ 23 → k < 35 ∨ 44 ≤ k → g' 74 k = g 74 k
def FrB (g g' : GG) : Prop := (∀ c', c' ≠ 74 → c' ≤ 94 ∨ 101 ≤ c' → g' c' = g c') ∧ g' 74 1 = 0 ∧ ∀ k, k ≠ 1 → k < 35 ∨ 44 ≤ k → g' 74 k = g 74 k
theorem FrB.k {g g1 g2 : GG} (h1 : FrB g g1) (h2 : FrK g1 g2) : FrB g g2 := ⟨fun c' a b => (h2.1 c' a b).trans (h1.1 c' a b), by rw [h2.2 1 (by omega)]; exact h1.2.1, fun k a b => (h2.2 k (by omega)).trans (h1.2.2 k a b)⟩
section MCUS2
variable {g z : GG} {r : RR}
theorem m_custom (hr : RS r) (K : Nat → CUS) (hK : kmK g K) (hR : KmR g K) (hT1 : 0 ≤ g 74 1 ∧ g 74 1 ≤ 200) (k n : Int) : CT (mX12_custom (rmD 7 0 0)) 0 0 shW [vR (some 74), vI k, vI n] g z r (qG shW z r fun v g' => (¬ ((0 ≤ k ∧ k < 4) ∧ (1 ≤ n ∧ n ≤ 160) ∧ n ≤ g 74 1) ∧ v = some (vI (-1)) ∧ g' = g) ∨ (((0 ≤ k ∧ k < 4) ∧ (1 ≤ n ∧ n ≤ 160) ∧ n ≤ g 74 1) ∧ g' 74 1 = 0 ∧ FrU g g' ∧ rstY (txtP (tX (g 75) n.toNat) n.toNat 13 0 []) (fun f => v = some (vI f) ∧ g' 74 23 = g 74 23 ∧ ∀ c, 89 ≤ c → c ≤ 94 → g' c = g c) (fun acc => v = some (vI (acc.length : Int)) ∧ g' 74 23 = 0 ∧ kmK g' (upK K k.toNat (cusK acc)) ∧ KmR g' (upK K k.toNat (cusK acc))))) := by
  refine CT.of 2 rfl rfl ?_
  generalize hQ : (qG shW z r fun v g' => (¬ ((0 ≤ k ∧ k < 4) ∧ (1 ≤ n ∧ n ≤ 160) ∧ n ≤ g 74 1) ∧ v = some (vI (-1)) ∧ g' = g) ∨ (((0 ≤ k ∧ k < 4) ∧ (1 ≤ n ∧ n ≤ 160) ∧ n ≤ g 74 1) ∧ g' 74 1 = 0 ∧ FrU g g' ∧ rstY (txtP (tX (g 75) n.toNat) n.toNat 13 0 []) (fun f => v = some (vI f) ∧ g' 74 23 = g 74 23 ∧ ∀ c, 89 ≤ c → c ≤ 94 → g' c = g c) (fun acc => v = some (vI (acc.length : Int)) ∧ g' 74 23 = 0 ∧ kmK g' (upK K k.toNat (cusK acc)) ∧ KmR g' (upK K k.toNat (cusK acc))))) = Q
  have bad : ∀ ls, ¬ ((0 ≤ k ∧ k < 4) ∧ (1 ≤ n ∧ n ≤ 160) ∧ n ≤ g 74 1) → RJ (mX12_custom (rmD 7 0 0)) 0 0 shW.length Q 0 0 shW 32 ls [] g z r := by
    intro ls hno
    refine R_iconst dX12_custom_32 rfl rfl ?_
    refine R_ireturn rfl (by first | rfl | exact nar_b2i | exact nar_bi) (by decide) (by decide) dX12_custom_33 ?_
    rw [← hQ]
    exact ⟨Or.inl ⟨hno, rfl, rfl⟩, rfl, rfl, rfl⟩
  refine R_iload_n dX12_custom_0 rfl ?_
  refine R_i2l dX12_custom_1 ?_
  refine R_lconst dX12_custom_2 ?_
  refine R_ldc2_w (v := 3) kk12_196 dX12_custom_3 (by decide) ?_
  refine R_callS (m_lies k 0 3) (mvX12_lies _) ksX12_lies km12_164 ⟨rfl, rfl, by decide, by decide⟩ (Nat.le_of_ble_eq_true rfl) dX12_custom_6 (fun v1 sh1 g1 z1 r1 hq => ?_)
  obtain ⟨rfl, rfl, rfl, rfl, rfl⟩ := hq
  by_cases hk : 0 ≤ k ∧ k ≤ 3
  rotate_left
  · rw [b2i_f hk]
    refine R_if_eq 32 dX12_custom_9 (by decide) (fun hc9 => ?_) (fun hc9 => ?_)
    · exact bad _ (by omega)
    · exact absurd rfl hc9
  rw [b2i_t hk]
  refine R_if_eq 32 dX12_custom_9 (by decide) (fun hc9 => ?_) (fun hc9 => ?_)
  · exact absurd hc9 (by decide)
  refine R_iload_n dX12_custom_12 rfl ?_
  refine R_i2l dX12_custom_13 ?_
  refine R_lconst dX12_custom_14 ?_
  refine R_ldc2_w (v := 160) kk12_311 dX12_custom_15 (by decide) ?_
  refine R_callS (m_lies n 1 160) (mvX12_lies _) ksX12_lies km12_164 ⟨rfl, rfl, by decide, by decide⟩ (Nat.le_of_ble_eq_true rfl) dX12_custom_18 (fun v1 sh1 g1 z1 r1 hq => ?_)
  obtain ⟨rfl, rfl, rfl, rfl, rfl⟩ := hq
  by_cases hn : 1 ≤ n ∧ n ≤ 160
  rotate_left
  · rw [b2i_f hn]
    refine R_if_eq 32 dX12_custom_21 (by decide) (fun hc21 => ?_) (fun hc21 => ?_)
    · exact bad _ (by omega)
    · exact absurd rfl hc21
  rw [b2i_t hn]
  refine R_if_eq 32 dX12_custom_21 (by decide) (fun hc21 => ?_) (fun hc21 => ?_)
  · exact absurd hc21 (by decide)
  refine R_iload_n dX12_custom_24 rfl ?_
  refine R_aload_n dX12_custom_25 rfl ?_
  refine R_getI fd12_1 kf12_203 rfl dX12_custom_26 ?_
  refine R_icmp_le 34 dX12_custom_29 (by decide) (fun hc29 => ?_) (fun hc29 => ?_)
  rotate_left
  · exact bad _ (by omega)
  have hok : (0 ≤ k ∧ k < 4) ∧ (1 ≤ n ∧ n ≤ 160) ∧ n ≤ g 74 1 := by omega
  obtain ⟨kn, rfl⟩ : ∃ kn : Nat, k = (kn : Int) := ⟨k.toNat, by omega⟩
  obtain ⟨N, rfl⟩ : ∃ nn : Nat, n = (nn : Int) := ⟨n.toNat, by omega⟩
  have hk4 : kn < 4 := by omega
  have hT := tX_ok (f := g 75) (N := N)
  rw [Int.toNat_natCast, Int.toNat_natCast] at hQ
  generalize hX : txtP (tX (g 75) N) N 13 0 [] = X at hQ
  have out : ∀ (f : Int) (g1 : GG) (a3 a4 : Option AV), X = .inl f → f < 0 → g1 74 37 = f → FrB g g1 → RJ (mX12_custom (rmD 7 0 0)) 0 0 shW.length Q 0 0 shW 140 [some (vR (some 74)), some (vI (kn : Int)), some (vI (N : Int)), a3, a4] [] g1 z r := by
    intro f g1 a3 a4 hx hf k1 f1
    refine R_aload_n dX12_custom_140 rfl ?_
    refine R_getI fd12_37 kf12_216 rfl dX12_custom_141 ?_
    rw [k1]
    refine R_if_ge 152 dX12_custom_144 (by decide) (fun hc144 => ?_) (fun hc144 => ?_)
    · exact absurd hc144 (by omega)
    refine R_aload_n dX12_custom_147 rfl ?_
    refine R_getI fd12_37 kf12_216 rfl dX12_custom_148 ?_
    rw [k1]
    refine R_ireturn rfl (by first | rfl | exact nar_b2i | exact nar_bi) (by decide) (by decide) dX12_custom_151 ?_
    rw [← hQ, hx]
    exact ⟨Or.inr ⟨hok, f1.2.1, ⟨fun c' a b => f1.1 c' a (by omega), fun k a _ b => f1.2.2 k a b⟩, rfl, f1.2.2 23 (by decide) (by decide), fun c a b => f1.1 c (by omega) (by omega)⟩, rfl, rfl, rfl⟩
  have fin : ∀ (acc : List (Nat × BN)) (g1 : GG) (p : Nat), X = .inr acc → FrB g g1 → g1 74 37 = 0 → MR (g 75) N g1 p (cdL acc) → MCl g1 acc → RJ (mX12_custom (rmD 7 0 0)) 0 0 shW.length Q 0 0 shW 140 [some (vR (some 74)), some (vI (kn : Int)), some (vI (N : Int)), some (vI 0), none] [] g1 z r := by
    intro acc g1 p hx f1 k1 h1 hM
    have hcl := cdL_len acc
    have h39 : g1 74 39 = ((cdL acc).length : Int) := h1.2.2.2.1.1
    have hcm : (cdL acc).length ≤ 160 := by have := h1.2.2.2.2; have := h1.2.1.2; omega
    have h38 := hM.1
    have h12 := hM.2.1
    have hofs : ∀ j, ofs acc j ≤ 160 := fun j => by have : ofs acc j ≤ ofs acc acc.length := ofs_le; omega
    have h9x : ∀ j, j < acc.length → g1 95 j = chL ((acc.getD j (0, bNum 0)).1 : Int) ∧ g1 96 j = (ofs acc j : Int) ∧ g1 97 j = (ofs acc (j + 1) : Int) := fun j hj => by
      have := hM.2.2.2 j acc[j] (List.getElem?_eq_getElem hj)
      rw [List.getD_eq_getElem?_getD, List.getElem?_eq_getElem hj]
      exact this
    have last : ∀ (g3 : GG) (a4 : Option AV), (∀ c', c' ≠ 90 → c' ≠ 91 → c' ≠ 92 → c' ≠ 93 → c' ≠ 94 → g3 c' = g1 c') → (∀ x, (x < 12 * kn ∨ 12 * kn + acc.length ≤ x) → g3 90 x = g1 90 x ∧ g3 91 x = g1 91 x ∧ g3 92 x = g1 92 x) → (∀ j, j < acc.length → g3 90 (12 * kn + j) = g1 95 j ∧ g3 91 (12 * kn + j) = ((160 * kn + ofs acc j : Nat) : Int) ∧ g3 92 (12 * kn + j) = ((160 * kn + ofs acc (j + 1) : Nat) : Int)) → (∀ x, (x < 160 * kn ∨ 160 * kn + (cdL acc).length ≤ x) → g3 93 x = g1 93 x ∧ g3 94 x = g1 94 x) → (∀ j, j < (cdL acc).length → g3 93 (160 * kn + j) = g1 98 j ∧ g3 94 (160 * kn + j) = g1 99 j) → RJ (mX12_custom (rmD 7 0 0)) 0 0 shW.length Q 0 0 shW 297 [some (vR (some 74)), some (vI (kn : Int)), some (vI (N : Int)), some (vI 0), a4] [] g3 z r := by
      intro g3 a4 e1 e2 e3 e4 e5
      have e38 : g3 74 38 = (acc.length : Int) := by rw [e1 74 (by decide) (by decide) (by decide) (by decide) (by decide)]; exact h38
      refine R_aload_n dX12_custom_297 rfl ?_
      refine R_getR _ (hr _ _ _ rfl) fd12_24 kf12_69 rfl dX12_custom_298 ?_
      refine R_iload_n dX12_custom_301 rfl ?_
      refine R_aload_n dX12_custom_302 rfl ?_
      refine R_getI fd12_38 kf12_305 rfl dX12_custom_303 ?_
      rw [e38]
      refine R_iast rfl (by omega) (by omega) dX12_custom_306 ?_
      try rw [Int.toNat_natCast]
      refine R_aload_n dX12_custom_307 rfl ?_
      refine R_iconst dX12_custom_308 rfl rfl ?_
      refine R_putZ (by first | exact Or.inl rfl | exact Or.inr rfl | omega) fd12_23 rfl kf12_182 rfl dX12_custom_309 ?_
      refine R_aload_n dX12_custom_312 rfl ?_
      refine R_getI fd12_38 kf12_305 rfl dX12_custom_313 ?_
      try simp +decide only [up2_far, up2_s, up2_kk]
      rw [e38]
      refine R_ireturn rfl (by first | rfl | exact nar_b2i | exact nar_bi) (by decide) (by decide) dX12_custom_316 ?_
      have ec : ∀ c', c' ≠ 74 → c' ≠ 89 → up2 (up2 g3 89 kn (acc.length : Int)) 74 23 0 c' = g3 c' := fun c' a b => by rw [up2_ne a, up2_ne b]
      have hg : ∀ c', c' ≠ 74 → c' ≤ 94 → g1 c' = g c' := fun c' a b => f1.1 c' a (by omega)
      rw [← hQ, hx]
      refine ⟨Or.inr ⟨hok, ?_, ⟨fun c' a b => ?_, fun k a b c => ?_⟩, rfl, up2_s, fun j hj => ?_, fun j hj i hi => ?_⟩, rfl, rfl, rfl⟩
      · rw [up2_k (by decide), up2_ne (by decide), e1 74 (by decide) (by decide) (by decide) (by decide) (by decide)]; exact f1.2.1
      · rw [ec c' a (by omega), e1 c' (by omega) (by omega) (by omega) (by omega) (by omega)]; exact f1.1 c' a (by omega)
      · rw [up2_k b, up2_ne (by decide), e1 74 (by decide) (by decide) (by decide) (by decide) (by decide)]; exact f1.2.2 k a c
      · have e89 : ∀ x, up2 (up2 g3 89 kn (acc.length : Int)) 74 23 0 89 x = if x = kn then (acc.length : Int) else g 89 x := fun x => by
          rw [up2_ne (by decide)]
          by_cases hxk : x = kn
          · rw [if_pos hxk, hxk, up2_s]
          · rw [if_neg hxk, up2_k hxk, e1 89 (by decide) (by decide) (by decide) (by decide) (by decide), hg 89 (by decide) (by decide)]
        unfold upK
        by_cases hjk : j = kn
        · subst hjk
          rw [if_pos rfl]
          unfold KmIs
          refine ⟨by rw [e89, if_pos rfl]; unfold cusK; rw [List.length_map], by unfold cusK; rw [List.length_map]; exact h12, fun i q hi => ?_⟩
          unfold cusK at hi
          rw [List.getElem?_map] at hi
          cases hx : acc[i]? with
          | none => rw [hx] at hi; cases hi
          | some w =>
            rw [hx] at hi
            cases hi
            have hil := (List.getElem?_eq_some_iff.mp hx).1
            obtain ⟨q1, q2, q3⟩ := hM.2.2.2 i w hx
            obtain ⟨g8, gB⟩ := hM.2.2.1 w (List.mem_of_getElem? hx)
            obtain ⟨t1, t2, t3⟩ := e3 i hil
            have hsu := ofs_succ hx
            have hle : ofs acc (i + 1) ≤ ofs acc acc.length := ofs_le
            rw [ec 90 (by decide) (by decide), ec 91 (by decide) (by decide), ec 92 (by decide) (by decide), ec 93 (by decide) (by decide), ec 94 (by decide) (by decide)]
            refine ⟨by rw [t1]; exact q1, g8, 160 * j + ofs acc i, 160 * j + ofs acc (i + 1), t2, t3, by omega, by omega, fun env => ?_⟩
            rw [show 160 * j + ofs acc (i + 1) - (160 * j + ofs acc i) = w.2.2.1.length by omega]
            refine gB.ref (fun x q hxq => ?_) (by have := hofs (i + 1); omega)
            have hs1 := cdL_seg h1.2.2.2.1.2 i w hx x q hxq
            have hxl := (List.getElem?_eq_some_iff.mp hxq).1
            obtain ⟨u1, u2⟩ := e5 (ofs acc i + x) (by omega)
            rw [show 160 * j + ofs acc i + x = 160 * j + (ofs acc i + x) by omega, u1, u2]
            rw [Nat.zero_add] at hs1
            exact hs1
        · rw [if_neg hjk]
          obtain ⟨m1, m2, m3⟩ := hK j hj
          unfold KmIs
          refine ⟨by rw [e89, if_neg hjk]; exact m1, m2, fun i q hi => ?_⟩
          have hil := (List.getElem?_eq_some_iff.mp hi).1
          obtain ⟨q1, q2, fr, to, q3, q4, q5, q6, q7⟩ := m3 i q hi
          obtain ⟨w1, w2⟩ := hR j hj i hil
          rw [ec 90 (by decide) (by decide), ec 91 (by decide) (by decide), ec 92 (by decide) (by decide), ec 93 (by decide) (by decide), ec 94 (by decide) (by decide)]
          obtain ⟨t1, t2, t3⟩ := e2 (12 * j + i) (by omega)
          rw [t1, t2, t3, hg 90 (by decide) (by decide), hg 91 (by decide) (by decide), hg 92 (by decide) (by decide)]
          refine ⟨q1, q2, fr, to, q3, q4, q5, q6, fun env => ?_⟩
          rw [← q7 env]
          refine hM_cong _ _ _ (fun x a b => ?_)
          rw [q3] at w1
          rw [q4] at w2
          obtain ⟨u1, u2⟩ := e4 x (by omega)
          rw [u1, u2, hg 93 (by decide) (by decide), hg 94 (by decide) (by decide)]
          exact ⟨rfl, rfl⟩
      · rw [ec 91 (by decide) (by decide), ec 92 (by decide) (by decide)]
        unfold upK at hi
        by_cases hjk : j = kn
        · subst hjk
          rw [if_pos rfl] at hi
          unfold cusK at hi
          rw [List.length_map] at hi
          obtain ⟨t1, t2, t3⟩ := e3 i hi
          have := hofs (i + 1)
          rw [t2, t3]
          omega
        · rw [if_neg hjk] at hi
          have m2 := (hK j hj).2.1
          obtain ⟨t1, t2, t3⟩ := e2 (12 * j + i) (by omega)
          rw [t2, t3, hg 91 (by decide) (by decide), hg 92 (by decide) (by decide)]
          exact hR j hj i hi
    have copy2 : ∀ (m i : Nat) (g3 : GG), i + m = (cdL acc).length → (∀ c', c' ≠ 90 → c' ≠ 91 → c' ≠ 92 → c' ≠ 93 → c' ≠ 94 → g3 c' = g1 c') → (∀ x, (x < 12 * kn ∨ 12 * kn + acc.length ≤ x) → g3 90 x = g1 90 x ∧ g3 91 x = g1 91 x ∧ g3 92 x = g1 92 x) → (∀ j, j < acc.length → g3 90 (12 * kn + j) = g1 95 j ∧ g3 91 (12 * kn + j) = ((160 * kn + ofs acc j : Nat) : Int) ∧ g3 92 (12 * kn + j) = ((160 * kn + ofs acc (j + 1) : Nat) : Int)) → (∀ x, (x < 160 * kn ∨ 160 * kn + i ≤ x) → g3 93 x = g1 93 x ∧ g3 94 x = g1 94 x) → (∀ j, j < i → g3 93 (160 * kn + j) = g1 98 j ∧ g3 94 (160 * kn + j) = g1 99 j) → RJ (mX12_custom (rmD 7 0 0)) 0 0 shW.length Q 0 0 shW 242 [some (vR (some 74)), some (vI (kn : Int)), some (vI (N : Int)), some (vI 0), some (vI (i : Int))] [] g3 z r := by
      intro m
      induction m with
      | zero =>
        intro i g3 hi e1 e2 e3 e4 e5
        have e39 : g3 74 39 = ((cdL acc).length : Int) := by rw [e1 74 (by decide) (by decide) (by decide) (by decide) (by decide)]; exact h39
        refine R_iload dX12_custom_242 rfl ?_
        refine R_aload_n dX12_custom_244 rfl ?_
        refine R_getI fd12_39 kf12_223 rfl dX12_custom_245 ?_
        rw [e39]
        refine R_icmp_ge 297 dX12_custom_248 (by decide) (fun hc248 => ?_) (fun hc248 => ?_)
        · exact last g3 _ e1 e2 e3 (fun x hx => e4 x (by omega)) (fun j hj => e5 j (by omega))
        · exact absurd (by omega) hc248
      | succ m ih =>
        intro i g3 hi e1 e2 e3 e4 e5
        have e39 : g3 74 39 = ((cdL acc).length : Int) := by rw [e1 74 (by decide) (by decide) (by decide) (by decide) (by decide)]; exact h39
        refine R_iload dX12_custom_242 rfl ?_
        refine R_aload_n dX12_custom_244 rfl ?_
        refine R_getI fd12_39 kf12_223 rfl dX12_custom_245 ?_
        rw [e39]
        refine R_icmp_ge 297 dX12_custom_248 (by decide) (fun hc248 => ?_) (fun hc248 => ?_)
        · exact absurd hc248 (by omega)
        refine R_aload_n dX12_custom_251 rfl ?_
        refine R_getR _ (hr _ _ _ rfl) fd12_28 kf12_81 rfl dX12_custom_252 ?_
        refine R_sipush dX12_custom_255 rfl (by decide +kernel) ?_
        refine R_iload_n dX12_custom_258 rfl ?_
        refine R_imulN dX12_custom_259 (by unfold inI; omega) ?_
        refine R_iload dX12_custom_260 rfl ?_
        refine R_iaddN dX12_custom_262 (by unfold inI; omega) ?_
        refine R_aload_n dX12_custom_263 rfl ?_
        refine R_getR _ (hr _ _ _ rfl) fd12_33 kf12_96 rfl dX12_custom_264 ?_
        refine R_iload dX12_custom_267 rfl ?_
        refine R_iald rfl (by omega) (by omega) dX12_custom_269 ?_
        rw [Int.toNat_natCast, e1 98 (by decide) (by decide) (by decide) (by decide) (by decide)]
        refine R_iast rfl (by omega) (by omega) dX12_custom_270 ?_
        rw [show ((160 : Int) * (kn : Int) + (i : Int)).toNat = 160 * kn + i by omega]
        refine R_aload_n dX12_custom_271 rfl ?_
        refine R_getR _ (hr _ _ _ rfl) fd12_29 kf12_84 rfl dX12_custom_272 ?_
        refine R_sipush dX12_custom_275 rfl (by decide +kernel) ?_
        refine R_iload_n dX12_custom_278 rfl ?_
        refine R_imulN dX12_custom_279 (by unfold inI; omega) ?_
        refine R_iload dX12_custom_280 rfl ?_
        refine R_iaddN dX12_custom_282 (by unfold inI; omega) ?_
        refine R_aload_n dX12_custom_283 rfl ?_
        refine R_getR _ (hr _ _ _ rfl) fd12_34 kf12_99 rfl dX12_custom_284 ?_
        refine R_iload dX12_custom_287 rfl ?_
        refine R_iald rfl (by omega) (by omega) dX12_custom_289 ?_
        rw [Int.toNat_natCast, up2_ne (by decide), e1 99 (by decide) (by decide) (by decide) (by decide) (by decide)]
        refine R_iast rfl (by omega) (by omega) dX12_custom_290 ?_
        rw [show ((160 : Int) * (kn : Int) + (i : Int)).toNat = 160 * kn + i by omega]
        refine R_iincN dX12_custom_291 rfl (by decide) rfl (by unfold inI; omega) [_, _, _, _, _] rfl ?_
        refine R_goto 242 dX12_custom_294 (by decide) ?_
        refine ih (i + 1) _ (by omega) (fun c' a b c d e => by rw [up2_ne e, up2_ne d]; exact e1 c' a b c d e) (fun x hx => by rw [up2_ne (by decide), up2_ne (by decide), up2_ne (by decide), up2_ne (by decide), up2_ne (by decide), up2_ne (by decide)]; exact e2 x hx) (fun j hj => by rw [up2_ne (by decide), up2_ne (by decide), up2_ne (by decide), up2_ne (by decide), up2_ne (by decide), up2_ne (by decide)]; exact e3 j hj) (fun x hx => ?_) (fun j hj => ?_)
        · rw [up2_ne (show (93 : Nat) ≠ 94 by decide), up2_k (by omega), up2_k (by omega), up2_ne (show (94 : Nat) ≠ 93 by decide)]
          exact e4 x (by omega)
        · by_cases hji : j = i
          · subst hji
            rw [up2_ne (show (93 : Nat) ≠ 94 by decide), up2_s, up2_s]
            exact ⟨rfl, rfl⟩
          · rw [up2_ne (show (93 : Nat) ≠ 94 by decide), up2_k (by omega), up2_k (by omega), up2_ne (show (94 : Nat) ≠ 93 by decide)]
            exact e5 j (by omega)
    have copy1 : ∀ (m i : Nat) (g2 : GG), i + m = acc.length → (∀ c', c' ≠ 90 → c' ≠ 91 → c' ≠ 92 → g2 c' = g1 c') → (∀ x, (x < 12 * kn ∨ 12 * kn + i ≤ x) → g2 90 x = g1 90 x ∧ g2 91 x = g1 91 x ∧ g2 92 x = g1 92 x) → (∀ j, j < i → g2 90 (12 * kn + j) = g1 95 j ∧ g2 91 (12 * kn + j) = ((160 * kn + ofs acc j : Nat) : Int) ∧ g2 92 (12 * kn + j) = ((160 * kn + ofs acc (j + 1) : Nat) : Int)) → RJ (mX12_custom (rmD 7 0 0)) 0 0 shW.length Q 0 0 shW 155 [some (vR (some 74)), some (vI (kn : Int)), some (vI (N : Int)), some (vI 0), some (vI (i : Int))] [] g2 z r := by
      intro m
      induction m with
      | zero =>
        intro i g2 hi e1 e2 e3
        have e38 : g2 74 38 = (acc.length : Int) := by rw [e1 74 (by decide) (by decide) (by decide)]; exact h38
        refine R_iload dX12_custom_155 rfl ?_
        refine R_aload_n dX12_custom_157 rfl ?_
        refine R_getI fd12_38 kf12_305 rfl dX12_custom_158 ?_
        rw [e38]
        refine R_icmp_ge 239 dX12_custom_161 (by decide) (fun hc161 => ?_) (fun hc161 => ?_)
        · refine R_iconst dX12_custom_239 rfl rfl ?_
          refine R_istore dX12_custom_240 (by decide) rfl [_, _, _, _, _] rfl ?_
          exact copy2 (cdL acc).length 0 g2 (by omega) (fun c' a b c _ _ => e1 c' a b c) (fun x hx => e2 x (by omega)) (fun j hj => e3 j (by omega)) (fun x _ => by rw [e1 93 (by decide) (by decide) (by decide), e1 94 (by decide) (by decide) (by decide)]; exact ⟨rfl, rfl⟩) (fun j hj => by omega)
        · exact absurd (by omega) hc161
      | succ m ih =>
        intro i g2 hi e1 e2 e3
        have e38 : g2 74 38 = (acc.length : Int) := by rw [e1 74 (by decide) (by decide) (by decide)]; exact h38
        obtain ⟨s1, s2, s3⟩ := h9x i (by omega)
        have o1 := hofs i
        have o2 := hofs (i + 1)
        have e95 : g2 95 = g1 95 := e1 95 (by decide) (by decide) (by decide)
        have e96 : g2 96 = g1 96 := e1 96 (by decide) (by decide) (by decide)
        have e97 : g2 97 = g1 97 := e1 97 (by decide) (by decide) (by decide)
        refine R_iload dX12_custom_155 rfl ?_
        refine R_aload_n dX12_custom_157 rfl ?_
        refine R_getI fd12_38 kf12_305 rfl dX12_custom_158 ?_
        rw [e38]
        refine R_icmp_ge 239 dX12_custom_161 (by decide) (fun hc161 => ?_) (fun hc161 => ?_)
        · exact absurd hc161 (by omega)
        refine R_aload_n dX12_custom_164 rfl ?_
        refine R_getR _ (hr _ _ _ rfl) fd12_25 kf12_72 rfl dX12_custom_165 ?_
        refine R_bipush dX12_custom_168 rfl (by decide +kernel) ?_
        refine R_iload_n dX12_custom_170 rfl ?_
        refine R_imulN dX12_custom_171 (by unfold inI; omega) ?_
        refine R_iload dX12_custom_172 rfl ?_
        refine R_iaddN dX12_custom_174 (by unfold inI; omega) ?_
        refine R_aload_n dX12_custom_175 rfl ?_
        refine R_getR _ (hr _ _ _ rfl) fd12_30 kf12_87 rfl dX12_custom_176 ?_
        refine R_iload dX12_custom_179 rfl ?_
        refine R_iald rfl (by omega) (by omega) dX12_custom_181 ?_
        rw [Int.toNat_natCast, e95]
        refine R_iast rfl (by omega) (by omega) dX12_custom_182 ?_
        rw [show ((12 : Int) * (kn : Int) + (i : Int)).toNat = 12 * kn + i by omega]
        refine R_aload_n dX12_custom_183 rfl ?_
        refine R_getR _ (hr _ _ _ rfl) fd12_26 kf12_75 rfl dX12_custom_184 ?_
        refine R_bipush dX12_custom_187 rfl (by decide +kernel) ?_
        refine R_iload_n dX12_custom_189 rfl ?_
        refine R_imulN dX12_custom_190 (by unfold inI; omega) ?_
        refine R_iload dX12_custom_191 rfl ?_
        refine R_iaddN dX12_custom_193 (by unfold inI; omega) ?_
        refine R_sipush dX12_custom_194 rfl (by decide +kernel) ?_
        refine R_iload_n dX12_custom_197 rfl ?_
        refine R_imulN dX12_custom_198 (by unfold inI; omega) ?_
        refine R_aload_n dX12_custom_199 rfl ?_
        refine R_getR _ (hr _ _ _ rfl) fd12_31 kf12_90 rfl dX12_custom_200 ?_
        refine R_iload dX12_custom_203 rfl ?_
        refine R_iald rfl (by omega) (by omega) dX12_custom_205 ?_
        rw [Int.toNat_natCast, up2_ne (by decide), e96, s2]
        refine R_iaddN dX12_custom_206 (by unfold inI; omega) ?_
        refine R_iast rfl (by omega) (by omega) dX12_custom_207 ?_
        rw [show ((12 : Int) * (kn : Int) + (i : Int)).toNat = 12 * kn + i by omega]
        refine R_aload_n dX12_custom_208 rfl ?_
        refine R_getR _ (hr _ _ _ rfl) fd12_27 kf12_78 rfl dX12_custom_209 ?_
        refine R_bipush dX12_custom_212 rfl (by decide +kernel) ?_
        refine R_iload_n dX12_custom_214 rfl ?_
        refine R_imulN dX12_custom_215 (by unfold inI; omega) ?_
        refine R_iload dX12_custom_216 rfl ?_
        refine R_iaddN dX12_custom_218 (by unfold inI; omega) ?_
        refine R_sipush dX12_custom_219 rfl (by decide +kernel) ?_
        refine R_iload_n dX12_custom_222 rfl ?_
        refine R_imulN dX12_custom_223 (by unfold inI; omega) ?_
        refine R_aload_n dX12_custom_224 rfl ?_
        refine R_getR _ (hr _ _ _ rfl) fd12_32 kf12_93 rfl dX12_custom_225 ?_
        refine R_iload dX12_custom_228 rfl ?_
        refine R_iald rfl (by omega) (by omega) dX12_custom_230 ?_
        rw [Int.toNat_natCast, up2_ne (by decide), up2_ne (by decide), e97, s3]
        refine R_iaddN dX12_custom_231 (by unfold inI; omega) ?_
        refine R_iast rfl (by omega) (by omega) dX12_custom_232 ?_
        rw [show ((12 : Int) * (kn : Int) + (i : Int)).toNat = 12 * kn + i by omega]
        refine R_iincN dX12_custom_233 rfl (by decide) rfl (by unfold inI; omega) [_, _, _, _, _] rfl ?_
        refine R_goto 155 dX12_custom_236 (by decide) ?_
        refine ih (i + 1) _ (by omega) (fun c' a b c => by rw [up2_ne c, up2_ne b, up2_ne a]; exact e1 c' a b c) (fun x hx => ?_) (fun j hj => ?_)
        · rw [up2_ne (show (90 : Nat) ≠ 92 by decide), up2_ne (show (90 : Nat) ≠ 91 by decide), up2_k (by omega), up2_ne (show (91 : Nat) ≠ 92 by decide), up2_k (by omega), up2_ne (show (91 : Nat) ≠ 90 by decide), up2_k (by omega), up2_ne (show (92 : Nat) ≠ 91 by decide), up2_ne (show (92 : Nat) ≠ 90 by decide)]
          exact e2 x (by omega)
        · by_cases hji : j = i
          · subst hji
            rw [up2_ne (show (90 : Nat) ≠ 92 by decide), up2_ne (show (90 : Nat) ≠ 91 by decide), up2_s, up2_ne (show (91 : Nat) ≠ 92 by decide), up2_s, up2_s]
            exact ⟨rfl, by omega, by omega⟩
          · rw [up2_ne (show (90 : Nat) ≠ 92 by decide), up2_ne (show (90 : Nat) ≠ 91 by decide), up2_k (by omega), up2_ne (show (91 : Nat) ≠ 92 by decide), up2_k (by omega), up2_ne (show (91 : Nat) ≠ 90 by decide), up2_k (by omega), up2_ne (show (92 : Nat) ≠ 91 by decide), up2_ne (show (92 : Nat) ≠ 90 by decide)]
            exact e3 j (by omega)
    refine R_aload_n dX12_custom_140 rfl ?_
    refine R_getI fd12_37 kf12_216 rfl dX12_custom_141 ?_
    rw [k1]
    refine R_if_ge 152 dX12_custom_144 (by decide) (fun hc144 => ?_) (fun hc144 => ?_)
    rotate_left
    · exact absurd (by decide) hc144
    refine R_iconst dX12_custom_152 rfl rfl ?_
    refine R_istore dX12_custom_153 (by decide) rfl [_, _, _, _, _] rfl ?_
    exact copy1 acc.length 0 g1 (by omega) (fun _ _ _ _ => rfl) (fun _ _ => ⟨rfl, rfl, rfl⟩) (fun j hj => by omega)
  have loop : ∀ (m p : Nat) (acc : List (Nat × BN)) (g1 : GG), m + acc.length = 13 → FrB g g1 → g1 74 37 = 0 → MR (g 75) N g1 p (cdL acc) → MCl g1 acc → txtP (tX (g 75) N) N m p acc = X → RJ (mX12_custom (rmD 7 0 0)) 0 0 shW.length Q 0 0 shW 66 [some (vR (some 74)), some (vI ((kn : Int))), some (vI ((N : Int))), some (vI (1)), none] [] g1 z r := by
    intro m
    induction m with
    | zero =>
      intro p acc g1 hm _ _ _ hM
      have := hM.2.1
      omega
    | succ m ih =>
      intro p acc g1 hm f1 k1 h1 hM hx
      rw [txtP] at hx
      have hpN := h1.2.2.2.2.2
      obtain ⟨co1, co2⟩ := claP_ok hT (by omega) (k := acc.length) hpN
      refine R_iload_n dX12_custom_66 rfl ?_
      refine R_if_eq 140 dX12_custom_67 (by decide) (fun hc67 => ?_) (fun hc67 => ?_)
      · exact absurd hc67 (by decide)
      refine R_aload_n dX12_custom_70 rfl ?_
      refine R_callV (m_isGood) (mvX12_isGood _) kiX12_isGood kvX12_isGood km12_219 rfl rfl (by decide) ⟨rfl, rfl, by decide, by decide⟩ (Nat.le_of_ble_eq_true rfl) dX12_custom_71 (fun v1 sh1 g2 z1 r1 hq => ?_)
      obtain ⟨rfl, rfl, rfl, rfl, rfl⟩ := hq
      rw [b2i_t k1]
      refine R_if_eq 140 dX12_custom_74 (by decide) (fun hc74 => ?_) (fun hc74 => ?_)
      · exact absurd hc74 (by decide)
      refine R_aload_n dX12_custom_77 rfl ?_
      refine R_callV (m_clause hr h1 k1 acc.length hM.2.1 hM.1) (mvX12_clause _) kiX12_clause kvX12_clause km12_313 rfl rfl (by decide) ⟨rfl, rfl, by decide, by decide⟩ (Nat.le_of_ble_eq_true rfl) dX12_custom_78 (fun v1 sh1 g2 z1 r1 hq => ?_)
      obtain ⟨⟨rfl, f2, o2⟩, rfl, rfl, rfl⟩ := hq
      have f12 := f1.k f2
      cases hcl : claP (tX (g 75) N) acc.length p with
      | inl f =>
        rw [hcl] at o2 hx
        obtain ⟨hf, k2⟩ := o2
        refine R_aload_n dX12_custom_81 rfl ?_
        refine R_callV (m_isGood) (mvX12_isGood _) kiX12_isGood kvX12_isGood km12_219 rfl rfl (by decide) ⟨rfl, rfl, by decide, by decide⟩ (Nat.le_of_ble_eq_true rfl) dX12_custom_82 (fun v1 sh1 g3 z1 r1 hq => ?_)
        obtain ⟨rfl, rfl, rfl, rfl, rfl⟩ := hq
        rw [b2i_f (by omega)]
        refine R_if_eq 103 dX12_custom_85 (by decide) (fun hc85 => ?_) (fun hc85 => ?_)
        rotate_left
        · exact absurd rfl hc85
        refine R_iconst dX12_custom_103 rfl rfl ?_
        refine R_istore_n dX12_custom_104 (by decide) rfl [_, _, _, _, _] rfl ?_
        refine R_iload_n dX12_custom_105 rfl ?_
        refine R_if_eq 66 dX12_custom_106 (by decide) (fun hc106 => ?_) (fun hc106 => ?_)
        rotate_left
        · exact absurd rfl hc106
        refine R_iload_n dX12_custom_66 rfl ?_
        refine R_if_eq 140 dX12_custom_67 (by decide) (fun hd67 => ?_) (fun hd67 => ?_)
        rotate_left
        · exact absurd rfl hd67
        exact out f _ _ _ hx.symm hf k2 f12
      | inr q =>
        obtain ⟨p', w⟩ := q
        rw [hcl] at o2 hx
        obtain ⟨k2, h2, e38, ⟨e95, e96, e97⟩, eold⟩ := o2
        have h2 : MR (g 75) N g2 p' (cdL acc ++ w.2.2.1) := h2
        rw [← cdL_app] at h2
        obtain ⟨c1, c2, c3, c4, c5⟩ := co2 p' w hcl
        have hx : (if p' < N then (if tX (g 75) N p' = 59 then txtP (tX (g 75) N) N m (p' + 1) (acc ++ [w]) else .inl (-1000 - (p' : Int))) else .inr (acc ++ [w])) = X := hx
        have hM2 : MCl g2 (acc ++ [w]) := by
          refine ⟨by rw [e38, List.length_append, List.length_singleton], by rw [List.length_append, List.length_singleton]; omega, fun q hq => ?_, fun j q hj => ?_⟩
          · rcases List.mem_append.mp hq with e | e
            · exact hM.2.2.1 q e
            · rw [List.mem_singleton.mp e]; exact ⟨c3, c4⟩
          · by_cases hjl : j < acc.length
            · rw [List.getElem?_append_left hjl] at hj
              rw [ofs_app (by omega), ofs_app (by omega), (eold j hjl).1, (eold j hjl).2.1, (eold j hjl).2.2]
              exact hM.2.2.2 j q hj
            · have hjn := (List.getElem?_eq_some_iff.mp hj).1
              rw [List.length_append, List.length_singleton] at hjn
              have hje : j = acc.length := by omega
              subst hje
              rw [List.getElem?_append_right (by omega)] at hj
              simp at hj
              subst hj
              rw [ofs_last, ofs_app (Nat.le_refl _), ← cdL_len]
              exact ⟨e95, e96, e97⟩
        have e35 : g2 74 35 = (p' : Int) := h2.2.2.1
        have e36 : g2 74 36 = (N : Int) := h2.2.1.1
        refine R_aload_n dX12_custom_81 rfl ?_
        refine R_callV (m_isGood) (mvX12_isGood _) kiX12_isGood kvX12_isGood km12_219 rfl rfl (by decide) ⟨rfl, rfl, by decide, by decide⟩ (Nat.le_of_ble_eq_true rfl) dX12_custom_82 (fun v1 sh1 g3 z1 r1 hq => ?_)
        obtain ⟨rfl, rfl, rfl, rfl, rfl⟩ := hq
        rw [b2i_t k2]
        refine R_if_eq 103 dX12_custom_85 (by decide) (fun hc85 => ?_) (fun hc85 => ?_)
        · exact absurd hc85 (by decide)
        refine R_aload_n dX12_custom_88 rfl ?_
        refine R_getI fd12_35 kf12_210 rfl dX12_custom_89 ?_
        refine R_aload_n dX12_custom_92 rfl ?_
        refine R_getI fd12_36 kf12_213 rfl dX12_custom_93 ?_
        rw [e35, e36]
        refine R_icmp_ge 103 dX12_custom_96 (by decide) (fun hc96 => ?_) (fun hc96 => ?_)
        · rw [if_neg (by omega)] at hx
          refine R_iconst dX12_custom_103 rfl rfl ?_
          refine R_istore_n dX12_custom_104 (by decide) rfl [_, _, _, _, _] rfl ?_
          refine R_iload_n dX12_custom_105 rfl ?_
          refine R_if_eq 66 dX12_custom_106 (by decide) (fun hc106 => ?_) (fun hc106 => ?_)
          rotate_left
          · exact absurd rfl hc106
          refine R_iload_n dX12_custom_66 rfl ?_
          refine R_if_eq 140 dX12_custom_67 (by decide) (fun hd67 => ?_) (fun hd67 => ?_)
          rotate_left
          · exact absurd rfl hd67
          exact fin _ _ p' hx.symm f12 k2 h2 hM2
        rw [if_pos (by omega)] at hx
        have hh := m_here (z := z) hr h2.2.1 h2.2.2.1
        rw [h2.1] at hh
        refine R_iconst dX12_custom_99 rfl rfl ?_
        refine R_goto 104 dX12_custom_100 (by decide) ?_
        refine R_istore_n dX12_custom_104 (by decide) rfl [_, _, _, _, _] rfl ?_
        refine R_iload_n dX12_custom_105 rfl ?_
        refine R_if_eq 66 dX12_custom_106 (by decide) (fun hc106 => ?_) (fun hc106 => ?_)
        · exact absurd hc106 (by decide)
        refine R_aload_n dX12_custom_109 rfl ?_
        refine R_callV (hh) (mvX12_here _) kiX12_here kvX12_here km12_236 rfl rfl (by decide) ⟨rfl, rfl, by decide, by decide⟩ (Nat.le_of_ble_eq_true rfl) dX12_custom_110 (fun v1 sh1 g3 z1 r1 hq => ?_)
        obtain ⟨rfl, rfl, rfl, rfl, rfl⟩ := hq
        refine R_bipush dX12_custom_113 rfl (by decide +kernel) ?_
        refine R_icmp_eq 127 dX12_custom_115 (by decide) (fun hc115 => ?_) (fun hc115 => ?_)
        · rw [if_pos hc115] at hx
          refine R_aload_n dX12_custom_127 rfl ?_
          refine R_dup dX12_custom_128 (fun _ h => by cases h) ?_
          refine R_getI fd12_35 kf12_210 rfl dX12_custom_129 ?_
          rw [e35]
          refine R_iconst dX12_custom_132 rfl rfl ?_
          refine R_iaddN dX12_custom_133 (by unfold inI; omega) ?_
          refine R_putI fd12_35 rfl kf12_210 rfl dX12_custom_134 ?_
          refine R_goto 66 dX12_custom_137 (by decide) ?_
          rw [show (p' : Int) + 1 = ((p' + 1 : Nat) : Int) by omega]
          refine ih (p' + 1) (acc ++ [w]) _ (by rw [List.length_append, List.length_singleton]; omega) (f12.k (FrK.up (by omega))) (by rw [up2_k (by decide)]; exact k2) ?_ ?_ hx
          · obtain ⟨q1, q2, q3, q4, q5⟩ := h2
            exact ⟨by rw [up2_ne (by decide)]; exact q1, ⟨by rw [up2_k (by decide)]; exact q2.1, q2.2⟩, up2_s, ⟨by rw [up2_k (by decide)]; exact q4.1, by rw [up2_ne (by decide), up2_ne (by decide)]; exact q4.2⟩, by omega, by omega⟩
          · obtain ⟨q1, q2, q3, q4⟩ := hM2
            exact ⟨by rw [up2_k (by decide)]; exact q1, q2, q3, by rw [up2_ne (by decide), up2_ne (by decide), up2_ne (by decide)]; exact q4⟩
        · rw [if_neg hc115] at hx
          refine R_aload_n dX12_custom_118 rfl ?_
          refine R_iconst dX12_custom_119 rfl rfl ?_
          refine R_aload_n dX12_custom_120 rfl ?_
          refine R_getI fd12_35 kf12_210 rfl dX12_custom_121 ?_
          rw [e35]
          refine R_callV (m_wrongs 1 p' (by decide) (by omega)) (mvX12_wrongs _) kiX12_wrongs kvX12_wrongs km12_232 rfl rfl (by decide) ⟨rfl, rfl, by decide, by decide⟩ (Nat.le_of_ble_eq_true rfl) dX12_custom_124 (fun v1 sh1 g3 z1 r1 hq => ?_)
          obtain ⟨⟨rfl, rfl⟩, rfl, rfl, rfl⟩ := hq
          rw [k2, if_neg (by decide)]
          have e35' : up2 g2 74 37 (-1000 * ((1 : Nat) : Int) - (p' : Int)) 74 35 = (p' : Int) := by rw [up2_k (by decide)]; exact e35
          refine R_aload_n dX12_custom_127 rfl ?_
          refine R_dup dX12_custom_128 (fun _ h => by cases h) ?_
          refine R_getI fd12_35 kf12_210 rfl dX12_custom_129 ?_
          rw [e35']
          refine R_iconst dX12_custom_132 rfl rfl ?_
          refine R_iaddN dX12_custom_133 (by unfold inI; omega) ?_
          refine R_putI fd12_35 rfl kf12_210 rfl dX12_custom_134 ?_
          refine R_goto 66 dX12_custom_137 (by decide) ?_
          refine R_iload_n dX12_custom_66 rfl ?_
          refine R_if_eq 140 dX12_custom_67 (by decide) (fun hd67 => ?_) (fun hd67 => ?_)
          · exact absurd hd67 (by decide)
          refine R_aload_n dX12_custom_70 rfl ?_
          refine R_callV (m_isGood) (mvX12_isGood _) kiX12_isGood kvX12_isGood km12_219 rfl rfl (by decide) ⟨rfl, rfl, by decide, by decide⟩ (Nat.le_of_ble_eq_true rfl) dX12_custom_71 (fun v1 sh1 g3 z1 r1 hq => ?_)
          obtain ⟨rfl, rfl, rfl, rfl, rfl⟩ := hq
          rw [b2i_f (by rw [up2_k (by decide), up2_s]; omega)]
          refine R_if_eq 140 dX12_custom_74 (by decide) (fun hd74 => ?_) (fun hd74 => ?_)
          rotate_left
          · exact absurd rfl hd74
          exact out (-1000 - (p' : Int)) _ _ _ hx.symm (by omega) (by rw [up2_k (by decide), up2_s]; omega) ((f12.k (FrK.up (by omega))).k (FrK.up (by omega)))
  refine R_aload_n dX12_custom_34 rfl ?_
  refine R_iconst dX12_custom_35 rfl rfl ?_
  refine R_putI fd12_1 rfl kf12_203 rfl dX12_custom_36 ?_
  refine R_aload_n dX12_custom_39 rfl ?_
  refine R_iconst dX12_custom_40 rfl rfl ?_
  refine R_putI fd12_35 rfl kf12_210 rfl dX12_custom_41 ?_
  refine R_aload_n dX12_custom_44 rfl ?_
  refine R_iload_n dX12_custom_45 rfl ?_
  refine R_putI fd12_36 rfl kf12_213 rfl dX12_custom_46 ?_
  refine R_aload_n dX12_custom_49 rfl ?_
  refine R_iconst dX12_custom_50 rfl rfl ?_
  refine R_putI fd12_37 rfl kf12_216 rfl dX12_custom_51 ?_
  refine R_aload_n dX12_custom_54 rfl ?_
  refine R_iconst dX12_custom_55 rfl rfl ?_
  refine R_putI fd12_38 rfl kf12_305 rfl dX12_custom_56 ?_
  refine R_aload_n dX12_custom_59 rfl ?_
  refine R_iconst dX12_custom_60 rfl rfl ?_
  refine R_putI fd12_39 rfl kf12_223 rfl dX12_custom_61 ?_
  refine R_iconst dX12_custom_64 rfl rfl ?_
  refine R_istore_n dX12_custom_65 (by decide) rfl [_, _, _, _, _] rfl ?_
  refine loop 13 0 [] _ rfl ⟨fun c' a b => by rw [up2_ne a, up2_ne a, up2_ne a, up2_ne a, up2_ne a, up2_ne a], by rw [up2_k (by decide), up2_k (by decide), up2_k (by decide), up2_k (by decide), up2_k (by decide), up2_s], fun k a b => by rw [up2_k (by omega), up2_k (by omega), up2_k (by omega), up2_k (by omega), up2_k (by omega), up2_k (by omega)]⟩ (by rw [up2_k (by decide), up2_k (by decide), up2_s]) ⟨by rw [up2_ne (by decide), up2_ne (by decide), up2_ne (by decide), up2_ne (by decide), up2_ne (by decide), up2_ne (by decide)], ⟨by rw [up2_k (by decide), up2_k (by decide), up2_k (by decide), up2_s], by omega⟩, by rw [up2_k (by decide), up2_k (by decide), up2_k (by decide), up2_k (by decide), up2_s]; rfl, ⟨by rw [up2_s]; rfl, fun i q hi => by cases hi⟩, by show (0 : Nat) ≤ 0; omega, by omega⟩ ⟨by rw [up2_k (by decide), up2_s]; rfl, by decide, fun q hq => (by cases hq), fun j q hj => by cases hj⟩ hX
end MCUS2
