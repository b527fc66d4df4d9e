def cdL (acc : List (Nat × BN)) : List (Int × Int) := acc.flatMap (fun q => q.2.2.1)
theorem cdL_len (acc : List (Nat × BN)) : (cdL acc).length = ofs acc acc.length := by
  unfold cdL ofs
  rw [List.take_of_length_le (Nat.le_refl _), List.length_flatMap]
theorem cdL_app {acc : List (Nat × BN)} {q : Nat × BN} : cdL (acc ++ [q]) = cdL acc ++ q.2.2.1 := by unfold cdL; simp
theorem cdL_seg {sg va : Nat → Int} {f : Nat} : ∀ {acc : List (Nat × BN)}, seg sg va f (cdL acc) → ∀ (j : Nat) (q : Nat × BN), acc[j]? = some q → seg sg va (f + ofs acc j) q.2.2.1 := by
  intro acc h j q hj
  have hl := (List.getElem?_eq_some_iff.mp hj).1
  have e : acc = acc.take j ++ (q :: acc.drop (j + 1)) := by
    have h1 := (List.take_append_drop j acc).symm
    rw [List.drop_eq_getElem_cons hl] at h1
    have h2 := (List.getElem?_eq_some_iff.mp hj).2
    rw [h2] at h1
    exact h1
  have e2 : cdL acc = cdL (acc.take j) ++ (q.2.2.1 ++ cdL (acc.drop (j + 1))) := by
    conv => lhs; rw [e]
    unfold cdL
    rw [List.flatMap_append, List.flatMap_cons]
  rw [e2] at h
  have h3 := (seg_app.mp (seg_app.mp h).2).1
  have e3 : (cdL (acc.take j)).length = ofs acc j := by
    unfold cdL ofs
    rw [List.length_flatMap]
  rw [e3] at h3
  exact h3
theorem hM_cong {cd ca cd' ca' env : Nat → Int} : ∀ (n i : Nat) (stk : List (Int × Bool)), (∀ j, i ≤ j → j < i + n → cd' j = cd j ∧ ca' j = ca j) → hM cd' ca' env n i stk = hM cd ca env n i stk := by
  intro n
  induction n with
  | zero => intro i stk _; rfl
  | succ n ih =>
    intro i stk h
    rw [hM_s, hM_s]
    have h0 := h i (Nat.le_refl _) (by omega)
    have hF : hM cd' ca' env n (i + 1) = hM cd ca env n (i + 1) := by
      funext stk'
      exact ih (i + 1) stk' (fun j a b => h j (by omega) (by omega))
    unfold hMb
    rw [h0.1, h0.2, hF]
theorem claP_con {T : Nat → Int} {k p : Nat} : claP T k p = if ltr (T p) < 0 then .inl (-1000 - (p : Int)) else if 12 ≤ k then .inl (-4000 - (p : Int)) else (match conP T (p + 1) with
    | .inl f => .inl f
    | .inr q => .inr (q.1, ((ltr (T p)).toNat, q.2))) := by
  unfold claP conP
  split
  · rfl
  · split
    · rfl
    · split
      · rfl
      · rw [show p + 1 + 1 = p + 2 from rfl]
        cases cndB T (PIE T 5) (p + 2) with
        | inl f => rfl
        | inr q =>
          show (if T q.1 = 41 then (.inr (q.1 + 1, ((ltr (T p)).toNat, q.2)) : Int ⊕ (Nat × (Nat × BN))) else .inl (-1000 - (q.1 : Int))) = match (if T q.1 = 41 then (.inr (q.1 + 1, q.2) : PX) else .inl (-1000 - (q.1 : Int))) with
            | .inl f => .inl f
            | .inr q => .inr (q.1, ((ltr (T p)).toNat, q.2))
          split <;> rfl
theorem ltr_is : ∀ c : Nat, c < 256 → (decide ((c : Int) = 70 ∨ (c : Int) = 102 ∨ (c : Int) = 77 ∨ (c : Int) = 109 ∨ (c : Int) = 80 ∨ (c : Int) = 81 ∨ (c : Int) = 83 ∨ (c : Int) = 68)) = decide (0 ≤ ltr (c : Int)) := by decide +kernel
theorem ltr_is' {c : Int} (hc : 0 ≤ c ∧ c ≤ 255) : (decide (c = 70 ∨ c = 102 ∨ c = 77 ∨ c = 109 ∨ c = 80 ∨ c = 81 ∨ c = 83 ∨ c = 68)) = decide (0 ≤ ltr c) := by
  obtain ⟨n, rfl⟩ : ∃ n : Nat, c = (n : Int) := ⟨c.toNat, by omega⟩
  exact ltr_is n (by omega)
def FrK (g g' : GG) : Prop := (∀ c', c' ≠ 74 → c' ≤ 94 ∨ 101 ≤ c' → g' c' = g c') ∧ ∀ k, k < 35 ∨ 44 ≤ k ∨ k = 36 → g' 74 k = g 74 k
theorem FrM.k {g g' : GG} (h : FrM g g') : FrK g g' := ⟨fun c' a b => h.1 c' a (by omega) (by omega) (by omega), fun k hk => h.2 k (by omega) (by omega) (by omega) (by omega) (by omega) (by omega) (by omega)⟩
theorem FrK.trans {g g1 g2 : GG} (h1 : FrK g g1) (h2 : FrK g1 g2) : FrK g g2 := ⟨fun c' a b => (h2.1 c' a b).trans (h1.1 c' a b), fun k a => (h2.2 k a).trans (h1.2 k a)⟩
theorem FrK.rfl {g : GG} : FrK g g := ⟨fun _ _ _ => Eq.refl _, fun _ _ => Eq.refl _⟩
theorem FrK.up {g : GG} {k : Nat} {v : Int} (h : 35 ≤ k ∧ k < 44 ∧ k ≠ 36) : FrK g (up2 g 74 k v) := ⟨fun c' a _ => up2_ne a, fun k' a => up2_k (by omega)⟩
theorem FrK.cel {g : GG} {c k : Nat} {v : Int} (h : 95 ≤ c ∧ c ≤ 100) : FrK g (up2 g c k v) := ⟨fun c' _ a => up2_ne (by omega), fun k' _ => by rw [up2_ne (by omega)]⟩
section MCUS
variable {g z : GG} {r : RR} {tp : Nat → Int} {N p : Nat} {C : List (Int × Int)}
theorem MR.cong {g' : GG} (h : MR tp N g p C) (e75 : g' 75 = g 75) (e98 : g' 98 = g 98) (e99 : g' 99 = g 99) (e : ∀ k, k = 35 ∨ k = 36 ∨ k = 39 → g' 74 k = g 74 k) : MR tp N g' p C := by
  obtain ⟨h1, h2, h3, h4, h5⟩ := h
  exact ⟨by rw [e75]; exact h1, ⟨by rw [e 36 (by omega)]; exact h2.1, h2.2⟩, by rw [e 35 (by omega)]; exact h3, ⟨by rw [e 39 (by omega)]; exact h4.1, by rw [e98, e99]; exact h4.2⟩, h5⟩
theorem m_clause (hr : RS r) (h : MR tp N g p C) (h37 : g 74 37 = 0) (k : Nat) (hk : k ≤ 12) (h38 : g 74 38 = (k : Int)) : CT (mX12_clause (rmD 6 0 0)) 0 0 shW [vR (some 74)] g z r (qG shW z r fun v g' => v = none ∧ FrK g g' ∧ rstY (claP (tX tp N) k p) (fun f => f < 0 ∧ g' 74 37 = f) (fun q => g' 74 37 = 0 ∧ MR tp N g' q.1 (C ++ q.2.2.2.1) ∧ g' 74 38 = ((k + 1 : Nat) : Int) ∧ (g' 95 k = chL (q.2.1 : Int) ∧ g' 96 k = (C.length : Int) ∧ g' 97 k = ((C.length + q.2.2.2.1.length : Nat) : Int)) ∧ ∀ j, j < k → g' 95 j = g 95 j ∧ g' 96 j = g 96 j ∧ g' 97 j = g 97 j)) := by
  have hT := tX_ok (f := tp) (N := N)
  obtain ⟨h1, h2, h3, h4, h5⟩ := id h
  have hN := h2.2
  have hTb := hT.2 p
  have hl8 := ltr_b hTb
  have his := ltr_is' hTb
  have hh := m_here (g := g) (z := z) hr h2 h3
  rw [h1] at hh
  refine CT.of 1 rfl rfl ?_
  have hok := (claP_ok hT hN (k := k) (p := p) h5.2)
  generalize hX : claP (tX tp N) k p = X at hok
  generalize hQ : (qG shW z r fun v g' => v = none ∧ FrK g g' ∧ rstY X (fun f => f < 0 ∧ g' 74 37 = f) (fun q => g' 74 37 = 0 ∧ MR tp N g' q.1 (C ++ q.2.2.2.1) ∧ g' 74 38 = ((k + 1 : Nat) : Int) ∧ (g' 95 k = chL (q.2.1 : Int) ∧ g' 96 k = (C.length : Int) ∧ g' 97 k = ((C.length + q.2.2.2.1.length : Nat) : Int)) ∧ ∀ j, j < k → g' 95 j = g 95 j ∧ g' 96 j = g 96 j ∧ g' 97 j = g 97 j)) = Q
  rw [claP_con] at hX
  generalize hc : tX tp N p = c at *
  have bad : ∀ (f : Int) (g1 : GG), f < 0 → g1 74 37 = f → FrK g g1 → X = .inl f → RJ (mX12_clause (rmD 6 0 0)) 0 0 shW.length Q 0 0 shW 42 [some (vR (some 74)), some (vI (c))] [] g1 z r := by
    intro f g1 hf k1 f1 hx
    refine R_aload_n dX12_clause_42 rfl ?_
    refine R_callV (m_isGood) (mvX12_isGood _) kiX12_isGood kvX12_isGood km12_219 rfl rfl (by decide) ⟨rfl, rfl, by decide, by decide⟩ (Nat.le_of_ble_eq_true rfl) dX12_clause_43 (fun v1 sh1 g2 z1 r1 hq => ?_)
    obtain ⟨rfl, rfl, rfl, rfl, rfl⟩ := hq
    rw [b2i_f (by omega)]
    refine R_if_ne 50 dX12_clause_46 (by decide) (fun hc46 => ?_) (fun hc46 => ?_)
    · exact absurd rfl hc46
    refine R_return rfl (by decide) (by decide) dX12_clause_49 ?_
    rw [← hQ, hx]
    exact ⟨⟨rfl, f1, hf, k1⟩, rfl, rfl, rfl⟩
  refine R_aload_n dX12_clause_0 rfl ?_
  refine R_callV (hh) (mvX12_here _) kiX12_here kvX12_here km12_236 rfl rfl (by decide) ⟨rfl, rfl, by decide, by decide⟩ (Nat.le_of_ble_eq_true rfl) dX12_clause_1 (fun v1 sh1 g1 z1 r1 hq => ?_)
  obtain ⟨rfl, rfl, rfl, rfl, rfl⟩ := hq
  refine R_istore_n dX12_clause_4 (by decide) rfl [_, _] rfl ?_
  refine R_iload_n dX12_clause_5 rfl ?_
  refine R_callS (m_isClause c) (mvX12_isClause _) ksX12_isClause km12_302 ⟨rfl, rfl, by decide, by decide⟩ (Nat.le_of_ble_eq_true rfl) dX12_clause_6 (fun v1 sh1 g1 z1 r1 hq => ?_)
  obtain ⟨rfl, rfl, rfl, rfl, rfl⟩ := hq
  rw [his]
  by_cases hlt0 : 0 ≤ ltr c
  rotate_left
  · rw [bi_f (by rw [decide_eq_true_eq]; exact hlt0)]
    rw [if_pos (by omega)] at hX
    refine R_if_ne 24 dX12_clause_9 (by decide) (fun hc9 => ?_) (fun hc9 => ?_)
    · exact absurd rfl hc9
    refine R_aload_n dX12_clause_12 rfl ?_
    refine R_iconst dX12_clause_13 rfl rfl ?_
    refine R_aload_n dX12_clause_14 rfl ?_
    refine R_getI fd12_35 kf12_210 rfl dX12_clause_15 ?_
    rw [h3]
    refine R_callV (m_wrongs 1 p (by decide) (by omega)) (mvX12_wrongs _) kiX12_wrongs kvX12_wrongs km12_232 rfl rfl (by decide) ⟨rfl, rfl, by decide, by decide⟩ (Nat.le_of_ble_eq_true rfl) dX12_clause_18 (fun v1 sh1 g1 z1 r1 hq => ?_)
    obtain ⟨⟨rfl, rfl⟩, rfl, rfl, rfl⟩ := hq
    rw [h37, if_neg (by decide)]
    refine R_goto 42 dX12_clause_21 (by decide) ?_
    exact bad _ _ (by omega) up2_s (FrK.up (by omega)) (by rw [← hX]; congr 1)
  rw [bi_t (by rw [decide_eq_true_eq]; exact hlt0)]
  rw [if_neg (by omega)] at hX
  have hlt : p < N := txt_lt hT.1 (fun e => by rw [hc] at e; rw [e] at hlt0; exact absurd hlt0 (by decide))
  refine R_if_ne 24 dX12_clause_9 (by decide) (fun hc9 => ?_) (fun hc9 => ?_)
  rotate_left
  · exact absurd hc9 (by decide)
  refine R_aload_n dX12_clause_24 rfl ?_
  refine R_getI fd12_38 kf12_305 rfl dX12_clause_25 ?_
  rw [h38]
  refine R_bipush dX12_clause_28 rfl (by decide +kernel) ?_
  refine R_icmp_ne 42 dX12_clause_30 (by decide) (fun hc30 => ?_) (fun hc30 => ?_)
  rotate_left
  · rw [if_pos (by omega)] at hX
    refine R_aload_n dX12_clause_33 rfl ?_
    refine R_iconst dX12_clause_34 rfl rfl ?_
    refine R_aload_n dX12_clause_35 rfl ?_
    refine R_getI fd12_35 kf12_210 rfl dX12_clause_36 ?_
    rw [h3]
    refine R_callV (m_wrongs 4 p (by decide) (by omega)) (mvX12_wrongs _) kiX12_wrongs kvX12_wrongs km12_232 rfl rfl (by decide) ⟨rfl, rfl, by decide, by decide⟩ (Nat.le_of_ble_eq_true rfl) dX12_clause_39 (fun v1 sh1 g1 z1 r1 hq => ?_)
    obtain ⟨⟨rfl, rfl⟩, rfl, rfl, rfl⟩ := hq
    rw [h37, if_neg (by decide)]
    exact bad _ _ (by omega) up2_s (FrK.up (by omega)) (by rw [← hX]; congr 1)
  have hk12 : k < 12 := by omega
  rw [if_neg (by omega)] at hX
  refine R_aload_n dX12_clause_42 rfl ?_
  refine R_callV (m_isGood) (mvX12_isGood _) kiX12_isGood kvX12_isGood km12_219 rfl rfl (by decide) ⟨rfl, rfl, by decide, by decide⟩ (Nat.le_of_ble_eq_true rfl) dX12_clause_43 (fun v1 sh1 g1 z1 r1 hq => ?_)
  obtain ⟨rfl, rfl, rfl, rfl, rfl⟩ := hq
  rw [b2i_t h37]
  refine R_if_ne 50 dX12_clause_46 (by decide) (fun hc46 => ?_) (fun hc46 => ?_)
  rotate_left
  · exact absurd hc46 (by decide)
  refine R_aload_n dX12_clause_50 rfl ?_
  refine R_getR _ (hr _ _ _ rfl) fd12_30 kf12_87 rfl dX12_clause_51 ?_
  refine R_aload_n dX12_clause_54 rfl ?_
  refine R_getI fd12_38 kf12_305 rfl dX12_clause_55 ?_
  rw [h38]
  refine R_iload_n dX12_clause_58 rfl ?_
  refine R_iast rfl (by omega) (by omega) dX12_clause_59 ?_
  try rw [Int.toNat_natCast]
  refine R_aload_n dX12_clause_60 rfl ?_
  refine R_getR _ (hr _ _ _ rfl) fd12_31 kf12_90 rfl dX12_clause_61 ?_
  try simp +decide only [up2_far, up2_s, up2_kk]
  refine R_aload_n dX12_clause_64 rfl ?_
  refine R_getI fd12_38 kf12_305 rfl dX12_clause_65 ?_
  try simp +decide only [up2_far, up2_s, up2_kk]
  rw [h38]
  refine R_aload_n dX12_clause_68 rfl ?_
  refine R_getI fd12_39 kf12_223 rfl dX12_clause_69 ?_
  try simp +decide only [up2_far, up2_s, up2_kk]
  rw [h4.1]
  refine R_iast rfl (by omega) (by omega) dX12_clause_72 ?_
  try rw [Int.toNat_natCast]
  refine R_aload_n dX12_clause_73 rfl ?_
  refine R_dup dX12_clause_74 (fun _ h => by cases h) ?_
  refine R_getI fd12_35 kf12_210 rfl dX12_clause_75 ?_
  try simp +decide only [up2_far, up2_s, up2_kk]
  rw [h3]
  refine R_iconst dX12_clause_78 rfl rfl ?_
  refine R_iaddN dX12_clause_79 (by unfold inI; omega) ?_
  refine R_putI fd12_35 rfl kf12_210 rfl dX12_clause_80 ?_
  rw [show (p : Int) + 1 = ((p + 1 : Nat) : Int) by omega]
  have hm1 : MR tp N (up2 (up2 (up2 g 95 k c) 96 k (C.length : Int)) 74 35 ((p + 1 : Nat) : Int)) (p + 1) C := by
    refine ⟨by rw [up2_ne (by decide), up2_ne (by decide), up2_ne (by decide)]; exact h1, ⟨by rw [up2_k (by decide), up2_ne (by decide), up2_ne (by decide)]; exact h2.1, hN⟩, up2_s, ⟨by rw [up2_k (by decide), up2_ne (by decide), up2_ne (by decide)]; exact h4.1, by rw [up2_ne (by decide), up2_ne (by decide), up2_ne (by decide), up2_ne (by decide), up2_ne (by decide), up2_ne (by decide)]; exact h4.2⟩, by omega, by omega⟩
  have f1 : FrK g (up2 (up2 (up2 g 95 k c) 96 k (C.length : Int)) 74 35 ((p + 1 : Nat) : Int)) := ((FrK.cel (by omega)).trans (FrK.cel (by omega))).trans (FrK.up (by omega))
  have k1 : up2 (up2 (up2 g 95 k c) 96 k (C.length : Int)) 74 35 ((p + 1 : Nat) : Int) 74 37 = 0 := by rw [up2_k (by decide), up2_ne (by decide), up2_ne (by decide)]; exact h37
  have e38 : up2 (up2 (up2 g 95 k c) 96 k (C.length : Int)) 74 35 ((p + 1 : Nat) : Int) 74 38 = (k : Int) := by rw [up2_k (by decide), up2_ne (by decide), up2_ne (by decide)]; exact h38
  have e95 : ∀ j, up2 (up2 (up2 g 95 k c) 96 k (C.length : Int)) 74 35 ((p + 1 : Nat) : Int) 95 j = if j = k then c else g 95 j := fun j => by
    rw [up2_ne (by decide), up2_ne (by decide)]
    by_cases e : j = k
    · rw [if_pos e, e, up2_s]
    · rw [if_neg e, up2_k e]
  have e96 : ∀ j, up2 (up2 (up2 g 95 k c) 96 k (C.length : Int)) 74 35 ((p + 1 : Nat) : Int) 96 j = if j = k then (C.length : Int) else g 96 j := fun j => by
    rw [up2_ne (by decide)]
    by_cases e : j = k
    · rw [if_pos e, e, up2_s]
    · rw [if_neg e, up2_k e, up2_ne (by decide)]
  have e97 : up2 (up2 (up2 g 95 k c) 96 k (C.length : Int)) 74 35 ((p + 1 : Nat) : Int) 97 = g 97 := by rw [up2_ne (by decide), up2_ne (by decide), up2_ne (by decide)]
  generalize up2 (up2 (up2 g 95 k c) 96 k (C.length : Int)) 74 35 ((p + 1 : Nat) : Int) = g1 at *
  refine R_aload_n dX12_clause_83 rfl ?_
  refine R_callV (m_condition hr hm1 k1) (mvX12_condition _) kiX12_condition kvX12_condition km12_308 rfl rfl (by decide) ⟨rfl, rfl, by decide, by decide⟩ (Nat.le_of_ble_eq_true rfl) dX12_clause_84 (fun v1 sh1 g2 z1 r1 hq => ?_)
  obtain ⟨⟨rfl, f2, o2⟩, rfl, rfl, rfl⟩ := hq
  have e38' : g2 74 38 = (k : Int) := by rw [f2.2 38 (by decide) (by decide) (by decide) (by decide) (by decide) (by decide) (by decide)]; exact e38
  have f12 := f1.trans f2.k
  refine R_aload_n dX12_clause_87 rfl ?_
  refine R_getR _ (hr _ _ _ rfl) fd12_32 kf12_93 rfl dX12_clause_88 ?_
  refine R_aload_n dX12_clause_91 rfl ?_
  refine R_getI fd12_38 kf12_305 rfl dX12_clause_92 ?_
  rw [e38']
  refine R_aload_n dX12_clause_95 rfl ?_
  refine R_getI fd12_39 kf12_223 rfl dX12_clause_96 ?_
  refine R_iast rfl (by omega) (by omega) dX12_clause_99 ?_
  try rw [Int.toNat_natCast]
  refine R_aload_n dX12_clause_100 rfl ?_
  refine R_dup dX12_clause_101 (fun _ h => by cases h) ?_
  refine R_getI fd12_38 kf12_305 rfl dX12_clause_102 ?_
  try simp +decide only [up2_far, up2_s, up2_kk]
  rw [e38']
  refine R_iconst dX12_clause_105 rfl rfl ?_
  refine R_iaddN dX12_clause_106 (by unfold inI; omega) ?_
  refine R_putI fd12_38 rfl kf12_305 rfl dX12_clause_107 ?_
  refine R_return rfl (by decide) (by decide) dX12_clause_110 ?_
  rw [show (k : Int) + 1 = ((k + 1 : Nat) : Int) by omega]
  cases hx : conP (tX tp N) (p + 1) with
  | inl f =>
    rw [hx] at o2 hX
    obtain ⟨hf, k2⟩ := o2
    rw [← hQ, ← hX]
    exact ⟨⟨rfl, (f12.trans (FrK.cel (by omega))).trans (FrK.up (by omega)), hf, by rw [up2_k (by decide), up2_ne (by decide)]; exact k2⟩, rfl, rfl, rfl⟩
  | inr q =>
    obtain ⟨p', b⟩ := q
    rw [hx] at o2 hX
    obtain ⟨k2, h2'⟩ := o2
    have h2' : MR tp N g2 p' (C ++ b.2.1) := h2'
    have e39 : g2 74 39 = ((C.length + b.2.1.length : Nat) : Int) := by rw [h2'.2.2.2.1.1, List.length_append]
    rw [← hQ, ← hX]
    refine ⟨⟨rfl, (f12.trans (FrK.cel (by omega))).trans (FrK.up (by omega)), by rw [up2_k (by decide), up2_ne (by decide)]; exact k2, h2'.cong (by rw [up2_ne (by decide), up2_ne (by decide)]) (by rw [up2_ne (by decide), up2_ne (by decide)]) (by rw [up2_ne (by decide), up2_ne (by decide)]) (fun k' hk' => by rw [up2_k (by omega), up2_ne (by decide)]), up2_s, ⟨?_, ?_, ?_⟩, fun j hj => ⟨?_, ?_, ?_⟩⟩, rfl, rfl, rfl⟩
    · rw [up2_ne (by decide), up2_ne (by decide), f2.1 95 (by decide) (by decide) (by decide) (by decide), e95, if_pos rfl]
      show c = chL (((ltr c).toNat : Nat) : Int)
      rw [Int.toNat_of_nonneg hlt0]
      exact (hl8.2.2 hlt0).symm
    · rw [up2_ne (by decide), up2_ne (by decide), f2.1 96 (by decide) (by decide) (by decide) (by decide), e96, if_pos rfl]
    · rw [up2_ne (by decide), up2_s]
      exact e39
    · rw [up2_ne (by decide), up2_ne (by decide), f2.1 95 (by decide) (by decide) (by decide) (by decide), e95, if_neg (by omega)]
    · rw [up2_ne (by decide), up2_ne (by decide), f2.1 96 (by decide) (by decide) (by decide) (by decide), e96, if_neg (by omega)]
    · rw [up2_ne (by decide), up2_k (by omega), f2.1 97 (by decide) (by decide) (by decide) (by decide), e97]
end MCUS
