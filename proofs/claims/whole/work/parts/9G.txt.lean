/-! CLAUSES and TEXTS -/
def rstY {α : Type} (x : Int ⊕ α) (Fl : Int → Prop) (k : α → Prop) : Prop := match x with
  | .inl f => Fl f
  | .inr q => k q
def ltr (c : Int) : Int := ixF c (txL 1) 0
def claP (T : Nat → Int) (k p : Nat) : Int ⊕ (Nat × (Nat × BN)) := if ltr (T p) < 0 then .inl (-1000 - (p : Int)) else if 12 ≤ k then .inl (-4000 - (p : Int)) else if T (p + 1) ≠ 40 then .inl (-1000 - ((p + 1 : Nat) : Int)) else (match cndB T (PIE T 5) (p + 2) with
  | .inl f => .inl f
  | .inr q => if T q.1 = 41 then .inr (q.1 + 1, ((ltr (T p)).toNat, q.2)) else .inl (-1000 - (q.1 : Int)))
def txtP (T : Nat → Int) (N : Nat) : Nat → Nat → List (Nat × BN) → Int ⊕ List (Nat × BN)
  | 0, _, acc => .inr acc
  | n + 1, p, acc => (match claP T acc.length p with
    | .inl f => .inl f
    | .inr q => if q.1 < N then (if T q.1 = 59 then txtP T N n (q.1 + 1) (acc ++ [q.2]) else .inl (-1000 - (q.1 : Int))) else .inr (acc ++ [q.2]))
def ofs (acc : List (Nat × BN)) (j : Nat) : Nat := ((acc.take j).map (fun q => q.2.2.1.length)).sum
def cusK (acc : List (Nat × BN)) : CUS := acc.map (fun q => (q.1, hldB q.2))
def GL (acc : List (Nat × BN)) : Prop := ∀ q ∈ acc, q.1 < 8 ∧ GB q.2
theorem ofs_app {acc : List (Nat × BN)} {q : Nat × BN} {j : Nat} (hj : j ≤ acc.length) : ofs (acc ++ [q]) j = ofs acc j := by
  unfold ofs
  rw [List.take_append_of_le_length hj]
theorem ofs_last {acc : List (Nat × BN)} {q : Nat × BN} : ofs (acc ++ [q]) (acc.length + 1) = ofs acc acc.length + q.2.2.1.length := by
  unfold ofs
  rw [List.take_of_length_le (by simp), List.take_of_length_le (Nat.le_refl _)]
  simp
theorem ofs_succ {acc : List (Nat × BN)} {q : Nat × BN} {j : Nat} (hj : acc[j]? = some q) : ofs acc (j + 1) = ofs acc j + q.2.2.1.length := by
  unfold ofs
  have hl := (List.getElem?_eq_some_iff.mp hj).1
  rw [List.take_succ, hj]
  simp
theorem ofs_le {acc : List (Nat × BN)} {j : Nat} : ofs acc j ≤ ofs acc acc.length := by
  unfold ofs
  rw [List.take_of_length_le (Nat.le_refl _)]
  have e : acc = acc.take j ++ acc.drop j := (List.take_append_drop j acc).symm
  have : (acc.map (fun q => q.2.2.1.length)).sum = ((acc.take j).map (fun q => q.2.2.1.length)).sum + ((acc.drop j).map (fun q => q.2.2.1.length)).sum := by
    rw [← List.sum_append, ← List.map_append, ← e]
  omega
theorem ltr_8 : ∀ c : Nat, c < 256 → -1 ≤ ltr (c : Int) ∧ ltr (c : Int) < 8 ∧ (0 ≤ ltr (c : Int) → chL (ltr (c : Int)) = (c : Int)) := by decide +kernel
theorem ltr_b {c : Int} (hc : 0 ≤ c ∧ c ≤ 255) : -1 ≤ ltr c ∧ ltr c < 8 ∧ (0 ≤ ltr c → chL (ltr c) = c) := by
  obtain ⟨n, rfl⟩ : ∃ n : Nat, c = (n : Int) := ⟨c.toNat, by omega⟩
  exact ltr_8 n (by omega)
theorem claP_ok {T : Nat → Int} {N : Nat} (hT : TXT T N) (hN : N ≤ 160) {k p : Nat} (hp : p ≤ N) : (∀ f, claP T k p = .inl f → -6000 ≤ f ∧ f < 0) ∧ ∀ p' q, claP T k p = .inr (p', q) → p + q.2.2.1.length + 2 ≤ p' ∧ p' ≤ N ∧ q.1 < 8 ∧ GB q.2 ∧ k < 12 := by
  unfold claP
  have hl := ltr_b (hT.2 p)
  by_cases h1 : ltr (T p) < 0
  · rw [if_pos h1]
    exact ⟨fun f hf => by cases hf; omega, fun p' q hq => by cases hq⟩
  rw [if_neg h1]
  have hlt : p < N := txt_lt hT.1 (fun e => by rw [e] at h1; exact h1 (by decide))
  by_cases h2 : 12 ≤ k
  · rw [if_pos h2]
    exact ⟨fun f hf => by cases hf; omega, fun p' q hq => by cases hq⟩
  rw [if_neg h2]
  by_cases h3 : T (p + 1) ≠ 40
  · rw [if_pos h3]
    exact ⟨fun f hf => by cases hf; omega, fun p' q hq => by cases hq⟩
  rw [if_neg h3]
  have h3 : T (p + 1) = 40 := Classical.not_not.mp h3
  have hlt1 : p + 1 < N := txt_lt hT.1 (by omega)
  obtain ⟨o1, o2⟩ := cnd_PG hT.1 hN (PIE_PG hT.1 hN 5 (by decide)) (p + 2) (by omega)
  cases hx : cndB T (PIE T 5) (p + 2) with
  | inl f => exact ⟨fun f' hf => by cases hf; exact o1 f hx, fun p' q hq => by cases hq⟩
  | inr w =>
    obtain ⟨p1, b⟩ := w
    obtain ⟨r1, r2, r3, r4⟩ := o2 p1 b hx
    simp only
    by_cases h41 : T p1 = 41
    · rw [if_pos h41]
      have := txt_lt hT.1 (p := p1) (by omega)
      refine ⟨fun f hf => (by cases hf), fun p' q hq => ?_⟩
      cases hq
      exact ⟨(by show p + b.2.1.length + 2 ≤ p1 + 1; omega), by omega, by simp only; omega, r4, by omega⟩
    · rw [if_neg h41]
      exact ⟨fun f hf => by cases hf; omega, fun p' q hq => by cases hq⟩
section RDC5
variable {r : RR} {dc N : Nat} {T : Nat → Int}
/-- the draft holds these CLAUSES -/
def CL (g : GG) (dc : Nat) (acc : List (Nat × BN)) : Prop := g dc 6 = (acc.length : Int) ∧ acc.length ≤ 12 ∧ GL acc ∧ ∀ (j : Nat) (q : Nat × BN), acc[j]? = some q → g (dc + 1) j = (q.1 : Int) ∧ g (dc + 2) j = (ofs acc (j + 1) : Int) ∧ seg (g (dc + 3)) (g (dc + 4)) (ofs acc j) (q.2.1 (ofs acc j))
/-- the reader and its draft alone -/
def FrD (dc : Nat) (g g' : GG) : Prop := (∀ c', c' ≠ 22 → c' ≠ dc → c' ≠ dc + 1 → c' ≠ dc + 2 → c' ≠ dc + 3 → c' ≠ dc + 4 → g' c' = g c') ∧ (∀ k, k ≠ 3 → k ≠ 4 → g' 22 k = g 22 k) ∧ (VBd dc g → VBd dc g')
theorem FrC.d {g g' : GG} (h : FrC dc g g') : FrD dc g g' := ⟨fun c' a b _ _ c d => h.1 c' a b c d, h.2.1, h.2.2.2⟩
theorem FrD.trans {g g1 g2 : GG} (h1 : FrD dc g g1) (h2 : FrD dc g1 g2) : FrD dc g g2 := ⟨fun c' a b c d e f => (h2.1 c' a b c d e f).trans (h1.1 c' a b c d e f), fun k a b => (h2.2.1 k a b).trans (h1.2.1 k a b), fun h => h2.2.2 (h1.2.2 h)⟩
theorem CL.cong {g g' : GG} {acc : List (Nat × BN)} (h : CL g dc acc) (hf : FrC dc g g') (hc : isCu dc) (hl : lowSame dc (ofs acc acc.length) g g') : CL g' dc acc := by
  obtain ⟨h1, h2, h3, h4⟩ := h
  have hn := isCu_ne hc
  have n1 : dc + 1 ≠ 22 := by unfold isCu at hc; omega
  have n2 : dc + 2 ≠ 22 := by unfold isCu at hc; omega
  refine ⟨by rw [hf.2.2.1 6 (by decide)]; exact h1, h2, h3, fun j q hj => ?_⟩
  obtain ⟨q1, q2, q3⟩ := h4 j q hj
  have hle : ofs acc (j + 1) ≤ ofs acc acc.length := ofs_le
  refine ⟨by rw [hf.1 (dc + 1) n1 (by omega) (by omega) (by omega)]; exact q1, by rw [hf.1 (dc + 2) n2 (by omega) (by omega) (by omega)]; exact q2, seg_low q3 hl ?_⟩
  rw [(h3 q (List.mem_of_getElem? hj)).2.1.1]
  rw [ofs_succ hj] at hle
  exact hle
theorem c_clause (hr : RS r) (hT : TXT T N) {g z : GG} {p : Nat} (acc : List (Nat × BN)) (H : CR g r dc T N p (ofs acc acc.length)) (hL : CL g dc acc) : CT (mX6_clause (rmD 40 0 0)) 0 0 shW [vR (some 22)] g z r (qG shW z r fun v g' => FrD dc g g' ∧ rstY (claP T acc.length p) (fun f => v = some (vI 0) ∧ g' 22 4 = f) (fun q => v = some (vI 1) ∧ CR g' r dc T N q.1 (ofs (acc ++ [q.2]) (acc ++ [q.2]).length) ∧ CL g' dc (acc ++ [q.2]))) := by
  have hc := H.1.2
  have hd := H.1.1
  have hN := H.2.1.2
  have h4 := H.2.2.2.1
  have h56 := H.2.2.2.2.2.1
  have hTb := hT.2 p
  have hn := isCu_ne hc
  refine CT.of 1 rfl rfl ?_
  have hok := (claP_ok hT hN (k := acc.length) (p := p) h4.2).2
  generalize hX : claP T acc.length p = Xr at hok
  generalize hQ : (qG shW z r fun v g' => FrD dc g g' ∧ rstY Xr (fun f => v = some (vI 0) ∧ g' 22 4 = f) (fun q => v = some (vI 1) ∧ CR g' r dc T N q.1 (ofs (acc ++ [q.2]) (acc ++ [q.2]).length) ∧ CL g' dc (acc ++ [q.2]))) = Q
  unfold claP at hX
  refine R_ldcS (i := 1) (by decide) (fun _ _ h => h.1.2.2.2.1) dX6_clause_0 ?_
  refine R_aload_n dX6_clause_2 rfl ?_
  refine R_callV (H.peek hr hT) (mvX6_peek _) kiX6_peek kvX6_peek km6_54 rfl rfl (by decide) (rmOKk rfl rfl (by omega) (of_decide_eq_true rfl)) (Nat.le_of_ble_eq_true rfl) dX6_clause_3 (fun v1 sh1 g1 z1 r1 hq => ?_)
  obtain ⟨rfl, rfl, rfl, rfl, rfl⟩ := hq
  refine R_callT (as := [vI (T p)]) (i := 1) (by decide) (j_indexOf 1 (by decide) (T p) hTb) rfl (mvJ0_indexOf_0f7a4 _) kiJ0_indexOf_0f7a4 kvJ0_indexOf_0f7a4 km6_64 (rmOKk rfl rfl (by omega) (of_decide_eq_true rfl)) (Nat.le_of_ble_eq_true rfl) dX6_clause_6 (fun v1 sh1 g2 z1 r1 hq => ?_)
  obtain ⟨rfl, rfl, rfl, rfl, rfl⟩ := hq
  have hlt8 := ltr_b hTb
  rw [show ixF (T p) (txL 1) 0 = ltr (T p) from rfl]
  refine R_istore_n dX6_clause_9 (of_decide_eq_true rfl) rfl [_, _] rfl ?_
  refine R_iload_n dX6_clause_10 rfl ?_
  refine R_if_ge 20 dX6_clause_11 (by decide) (fun hc11 => ?_) (fun hc11 => ?_)
  rotate_left
  · rw [if_pos (by omega)] at hX
    refine R_aload_n dX6_clause_14 rfl ?_
    refine R_iconst dX6_clause_15 rfl rfl ?_
    refine R_callV (c_refuse 1 p (by decide) (by omega) h4.1) (mvX6_refuse _) kiX6_refuse kvX6_refuse km6_58 rfl rfl (by decide) (rmOKk rfl rfl (by omega) (of_decide_eq_true rfl)) (Nat.le_of_ble_eq_true rfl) dX6_clause_16 (fun v1 sh1 g2 z1 r1 hq => ?_)
    obtain ⟨⟨rfl, rfl⟩, rfl, rfl, rfl⟩ := hq
    refine R_ireturn rfl (by first | rfl | exact nar_b2i | exact nar_bi) (by decide) (by decide) dX6_clause_19 ?_
    rw [← hQ, ← hX]
    exact ⟨⟨(FrC.at (Or.inr rfl) hc).d, rfl, by rw [up2_s]; omega⟩, rfl, rfl, rfl⟩
  rw [if_neg (by omega)] at hX
  have hlt : p < N := txt_lt hT.1 (fun e => by rw [e] at hc11; exact absurd hc11 (by decide))
  refine R_aload_n dX6_clause_20 rfl ?_
  refine R_getR _ (hd) fd6_1 kf6_18 rfl dX6_clause_21 ?_
  refine R_getI fd2_6 kf6_69 (isCu_sh hc) dX6_clause_24 ?_
  rw [hL.1]
  refine R_bipush dX6_clause_27 rfl (by decide +kernel) ?_
  refine R_icmp_lt 38 dX6_clause_29 (by decide) (fun hc29 => ?_) (fun hc29 => ?_)
  rotate_left
  · rw [if_pos (by omega)] at hX
    refine R_aload_n dX6_clause_32 rfl ?_
    refine R_iconst dX6_clause_33 rfl rfl ?_
    refine R_callV (c_refuse 4 p (by decide) (by omega) h4.1) (mvX6_refuse _) kiX6_refuse kvX6_refuse km6_58 rfl rfl (by decide) (rmOKk rfl rfl (by omega) (of_decide_eq_true rfl)) (Nat.le_of_ble_eq_true rfl) dX6_clause_34 (fun v1 sh1 g2 z1 r1 hq => ?_)
    obtain ⟨⟨rfl, rfl⟩, rfl, rfl, rfl⟩ := hq
    refine R_ireturn rfl (by first | rfl | exact nar_b2i | exact nar_bi) (by decide) (by decide) dX6_clause_37 ?_
    rw [← hQ, ← hX]
    exact ⟨⟨(FrC.at (Or.inr rfl) hc).d, rfl, by rw [up2_s]; omega⟩, rfl, rfl, rfl⟩
  rw [if_neg (by omega)] at hX
  refine R_aload_n dX6_clause_38 rfl ?_
  refine R_dup dX6_clause_39 (fun _ h => by cases h) ?_
  refine R_getI fd6_3 kf6_38 rfl dX6_clause_40 ?_
  rw [h4.1]
  refine R_iconst dX6_clause_43 rfl rfl ?_
  refine R_iaddN dX6_clause_44 (by unfold inI; omega) ?_
  refine R_putI fd6_3 rfl kf6_38 rfl dX6_clause_45 ?_
  rw [show (p : Int) + 1 = ((p + 1 : Nat) : Int) by omega]
  have H1 := H.at (show p + 1 ≤ N by omega)
  have f1 := FrC.at (dc := dc) (g := g) (v := ((p + 1 : Nat) : Int)) (Or.inl rfl) hc
  refine R_aload_n dX6_clause_48 rfl ?_
  refine R_bipush dX6_clause_49 rfl (by decide +kernel) ?_
  refine R_callV (c_take hr hT H1 40) (mvX6_take _) kiX6_take kvX6_take km6_50 rfl rfl (by decide) (rmOKk rfl rfl (by omega) (of_decide_eq_true rfl)) (Nat.le_of_ble_eq_true rfl) dX6_clause_51 (fun v1 sh1 g2 z1 r1 hq => ?_)
  obtain ⟨o2, rfl, rfl, rfl⟩ := hq
  rcases o2 with ⟨h40, rfl, rfl⟩ | ⟨h40, rfl, rfl⟩
  rotate_left
  · rw [if_pos h40] at hX
    refine R_if_eq 75 dX6_clause_54 (by decide) (fun hc54 => ?_) (fun hc54 => ?_)
    rotate_left
    · exact absurd rfl hc54
    refine R_iconst dX6_clause_75 rfl rfl ?_
    refine R_ireturn rfl (by first | rfl | exact nar_b2i | exact nar_bi) (by decide) (by decide) dX6_clause_76 ?_
    rw [← hQ, ← hX]
    exact ⟨⟨(f1.trans (FrC.at (Or.inr rfl) hc)).d, rfl, up2_s⟩, rfl, rfl, rfl⟩
  rw [if_neg (fun q => q h40)] at hX
  have hlt1 : p + 1 < N := txt_lt hT.1 (by omega)
  have H2 := H1.at (show p + 1 + 1 ≤ N by omega)
  have f2 := f1.trans (FrC.at (dc := dc) (v := ((p + 1 + 1 : Nat) : Int)) (Or.inl rfl) hc)
  refine R_if_eq 75 dX6_clause_54 (by decide) (fun hc54 => ?_) (fun hc54 => ?_)
  · exact absurd hc54 (by decide)
  refine R_aload_n dX6_clause_57 rfl ?_
  refine R_iconst dX6_clause_58 rfl rfl ?_
  refine R_iconst dX6_clause_59 rfl rfl ?_
  refine R_callV ((c_pie_cnd (dc := dc) hr hT hN 5 1 rfl (by decide)).2 _ _ (p + 1 + 1) (ofs acc acc.length) H2) (mvX6_chain _) kiX6_chain kvX6_chain km6_72 rfl rfl (by decide) (rmOKk rfl rfl (by omega) (of_decide_eq_true rfl)) (Nat.le_of_ble_eq_true rfl) dX6_clause_60 (fun v1 sh1 g3 z1 r1 hq => ?_)
  obtain ⟨⟨f3, o3⟩, rfl, rfl, rfl⟩ := hq
  have f23 := f2.trans f3
  cases hx3 : cndB T (PIE T 5) (p + 2) with
  | inl f =>
    rw [show p + 1 + 1 = p + 2 from rfl, hx3] at o3
    rw [hx3] at hX
    obtain ⟨rfl, h34⟩ := o3
    refine R_if_eq 75 dX6_clause_63 (by decide) (fun hc63 => ?_) (fun hc63 => ?_)
    rotate_left
    · exact absurd rfl hc63
    refine R_iconst dX6_clause_75 rfl rfl ?_
    refine R_ireturn rfl (by first | rfl | exact nar_b2i | exact nar_bi) (by decide) (by decide) dX6_clause_76 ?_
    rw [← hQ, ← hX]
    exact ⟨⟨f23.d, rfl, h34⟩, rfl, rfl, rfl⟩
  | inr q =>
    obtain ⟨p1, b⟩ := q
    rw [show p + 1 + 1 = p + 2 from rfl, hx3] at o3
    rw [hx3] at hX
    obtain ⟨rfl, h3, s3, l3⟩ := o3
    have h3 : CR g3 r dc T N p1 (ofs acc acc.length + b.2.1.length) := h3
    have s3 : seg (g3 (dc + 3)) (g3 (dc + 4)) (ofs acc acc.length) (b.1 (ofs acc acc.length)) := s3
    have hX : (if T p1 = 41 then .inr (p1 + 1, ((ltr (T p)).toNat, b)) else .inl (-1000 - (p1 : Int))) = Xr := hX
    refine R_if_eq 75 dX6_clause_63 (by decide) (fun hc63 => ?_) (fun hc63 => ?_)
    · exact absurd hc63 (by decide)
    refine R_aload_n dX6_clause_66 rfl ?_
    refine R_bipush dX6_clause_67 rfl (by decide +kernel) ?_
    refine R_callV (c_take hr hT h3 41) (mvX6_take _) kiX6_take kvX6_take km6_50 rfl rfl (by decide) (rmOKk rfl rfl (by omega) (of_decide_eq_true rfl)) (Nat.le_of_ble_eq_true rfl) dX6_clause_69 (fun v1 sh1 g4 z1 r1 hq => ?_)
    obtain ⟨o4, rfl, rfl, rfl⟩ := hq
    rcases o4 with ⟨h41, rfl, rfl⟩ | ⟨h41, rfl, rfl⟩
    rotate_left
    · rw [if_neg h41] at hX
      refine R_if_ne 77 dX6_clause_72 (by decide) (fun hc72 => ?_) (fun hc72 => ?_)
      · exact absurd rfl hc72
      refine R_iconst dX6_clause_75 rfl rfl ?_
      refine R_ireturn rfl (by first | rfl | exact nar_b2i | exact nar_bi) (by decide) (by decide) dX6_clause_76 ?_
      rw [← hQ, ← hX]
      exact ⟨⟨(f23.trans (FrC.at (Or.inr rfl) hc)).d, rfl, up2_s⟩, rfl, rfl, rfl⟩
    rw [if_pos h41] at hX
    have hlt2 : p1 < N := txt_lt hT.1 (by omega)
    obtain ⟨k1, k2, k3, k4, k5⟩ := hok _ _ hX.symm
    have H4 := h3.at (show p1 + 1 ≤ N by omega)
    have f4 := f23.trans (FrC.at (dc := dc) (g := g3) (v := ((p1 + 1 : Nat) : Int)) (Or.inl rfl) hc)
    have l4 : lowSame dc (ofs acc acc.length) g (up2 g3 22 3 ((p1 + 1 : Nat) : Int)) := (((lowAt (m := ofs acc acc.length) (k := 3) (g := g) (v := ((p + 1 : Nat) : Int)) hc).trans (lowAt (m := ofs acc acc.length) (k := 3) (v := ((p + 1 + 1 : Nat) : Int)) hc) (Nat.le_refl _)).trans l3 (Nat.le_refl _)).trans (lowAt hc) (Nat.le_refl _)
    have s4 := seg_at (k := 3) (v := ((p1 + 1 : Nat) : Int)) hc s3
    have hL4 := hL.cong f4 hc l4
    generalize up2 g3 22 3 ((p1 + 1 : Nat) : Int) = g4 at *
    have h65 := H4.2.2.2.2.2.1
    refine R_if_ne 77 dX6_clause_72 (by decide) (fun hc72 => ?_) (fun hc72 => ?_)
    rotate_left
    · exact absurd hc72 (by decide)
    refine R_aload_n dX6_clause_77 rfl ?_
    refine R_getR _ (hd) fd6_1 kf6_18 rfl dX6_clause_78 ?_
    refine R_iload_n dX6_clause_81 rfl ?_
    refine R_callV (c_endClause hr hc acc.length (ofs acc acc.length + b.2.1.length) k5 h65.1 hL4.1 (ltr (T p))) (mvX2_endClause _) kiX2_endClause kvX2_endClause km6_76 (isCu_sh hc) rfl (by decide) (rmOKk rfl rfl (by omega) (of_decide_eq_true rfl)) (Nat.le_of_ble_eq_true rfl) dX6_clause_82 (fun v1 sh1 g5 z1 r1 hq => ?_)
    obtain ⟨⟨rfl, rfl⟩, rfl, rfl, rfl⟩ := hq
    refine R_iconst dX6_clause_85 rfl rfl ?_
    refine R_ireturn rfl (by first | rfl | exact nar_b2i | exact nar_bi) (by decide) (by decide) dX6_clause_86 ?_
    have m1 : dc + 1 ≠ 22 := by unfold isCu at hc; omega
    have m2 : dc + 2 ≠ 22 := by unfold isCu at hc; omega
    have m3 : dc + 1 ≠ 23 := by unfold isCu at hc; omega
    have m4 : dc + 2 ≠ 23 := by unfold isCu at hc; omega
    have e22 : ∀ c', c' ≠ dc → c' ≠ dc + 1 → c' ≠ dc + 2 → up2 (up2 (up2 g4 (dc + 1) acc.length (ltr (T p))) (dc + 2) acc.length ((ofs acc acc.length + b.2.1.length : Nat) : Int)) dc 6 ((acc.length + 1 : Nat) : Int) c' = g4 c' := fun c' a b c => by rw [up2_ne a, up2_ne c, up2_ne b]
    have hlb : ofs (acc ++ [((ltr (T p)).toNat, b)]) (acc.length + 1) = ofs acc acc.length + b.2.1.length := ofs_last
    rw [← hQ, ← hX]
    refine ⟨⟨f4.d.trans ⟨fun c' _ a b c _ _ => e22 c' a b c, fun k _ _ => by rw [e22 22 hn.1.symm m1.symm m2.symm], fun h j hj => by rw [e22 (dc + 4) (by omega) (by omega) (by omega)]; exact h j hj⟩, rfl, ?_, ?_, ?_, ?_, ?_⟩, rfl, rfl, rfl⟩
    · rw [List.length_append, List.length_singleton, hlb]
      obtain ⟨q1, q2, q3, q4, q5, q6, q7⟩ := H4
      refine ⟨q1, ⟨by rw [e22 22 hn.1.symm m1.symm m2.symm]; exact q2.1, q2.2⟩, fun i hi => by rw [e22 23 hn.2.1.symm m3.symm m4.symm]; exact q3 i hi, ⟨by rw [e22 22 hn.1.symm m1.symm m2.symm]; exact q4.1, q4.2⟩, by rw [e22 22 hn.1.symm m1.symm m2.symm]; exact q5, ⟨by rw [up2_k (by decide), up2_ne (by omega), up2_ne (by omega)]; exact q6.1, q6.2⟩, fun j hj => by rw [e22 (dc + 4) (by omega) (by omega) (by omega)]; exact q7 j hj⟩
    · rw [up2_s, List.length_append, List.length_singleton]
    · rw [List.length_append, List.length_singleton]; omega
    · intro q hq
      rcases List.mem_append.mp hq with e | e
      · exact hL.2.2.1 q e
      · rw [List.mem_singleton.mp e]; exact ⟨k3, k4⟩
    · intro j q hj
      rw [e22 (dc + 3) (by omega) (by omega) (by omega), e22 (dc + 4) (by omega) (by omega) (by omega), up2_ne (show dc + 1 ≠ dc by omega), up2_ne (show dc + 1 ≠ dc + 2 by omega), up2_ne (show dc + 2 ≠ dc by omega)]
      by_cases hjl : j < acc.length
      · rw [List.getElem?_append_left hjl] at hj
        obtain ⟨q1, q2, q3⟩ := hL4.2.2.2 j q hj
        rw [ofs_app (by omega), ofs_app (by omega)]
        exact ⟨by rw [up2_k (by omega)]; exact q1, by rw [up2_k (by omega), up2_ne (by omega)]; exact q2, q3⟩
      · have hjn := (List.getElem?_eq_some_iff.mp hj).1
        rw [List.length_append, List.length_singleton] at hjn
        have hje : j = acc.length := by omega
        subst hje
        rw [List.getElem?_append_right (by omega)] at hj
        simp at hj
        subst hj
        rw [hlb, ofs_app (Nat.le_refl _), up2_s, up2_s]
        exact ⟨by simp only; omega, rfl, s4⟩
end RDC5
