def lenP (b : BN) : Prop := ∀ f, (b.1 f).length = b.2.1.length
theorem PG.mono {N : Nat} {G G' : BN → Prop} {op : Nat → PX} (h : PG N G op) (hG : ∀ b, G b → G' b) : PG N G' op := fun p hp => ⟨(h p hp).1, fun p' b hb => by obtain ⟨a1, a2, a3, a4⟩ := (h p hp).2 p' b hb; exact ⟨a1, a2, a3, hG b a4⟩⟩
section RDC3
variable {r : RR} {dc N : Nat} {T : Nat → Int}
theorem seg_at {g : GG} {k m : Nat} {v : Int} {L : List (Int × Int)} (hc : isCu dc) (h : seg (g (dc + 3)) (g (dc + 4)) m L) : seg (up2 g 22 k v (dc + 3)) (up2 g 22 k v (dc + 4)) m L := by
  rw [up2_ne (isCu_ne hc).2.2.1, up2_ne (isCu_ne hc).2.2.2.2.1]; exact h
theorem c_operand0 {o : Int} {k : Nat} {op : Nat → PX} (h : CtR (mX6_chain (rmD k 0 0)) [vI ((1 : Nat) : Int), vI o] op r dc T N) : CtR (mX6_operand (rmD (k + 1) 0 0)) [vI ((0 : Nat) : Int), vI o] op r dc T N := by
  intro g z p m H
  refine CT.of 0 rfl rfl ?_
  refine R_iload_n dX6_operand_0 rfl ?_
  refine R_tsIn 28 dX6_operand_1 (by decide) (by decide) rfl (by decide) ?_
  refine R_aload_n dX6_operand_28 rfl ?_
  refine R_iconst dX6_operand_29 rfl rfl ?_
  refine R_iload_n dX6_operand_30 rfl ?_
  refine R_callV (h g z p m H) (mvX6_chain _) kiX6_chain kvX6_chain km6_72 rfl rfl (by decide) (rmOKk rfl rfl (by omega) (of_decide_eq_true rfl)) (Nat.le_of_ble_eq_true rfl) dX6_operand_31 (fun v1 sh1 g1 z1 r1 hq => ?_)
  obtain ⟨⟨f1, o1⟩, rfl, rfl, rfl⟩ := hq
  have ⟨x, hx, hx01⟩ : ∃ x : Int, v1 = some (vI x) ∧ (x = 0 ∨ x = 1) := by
    cases hop : op p with
    | inl f => rw [hop] at o1; exact ⟨0, o1.1, Or.inl rfl⟩
    | inr q => rw [hop] at o1; exact ⟨1, o1.1, Or.inr rfl⟩
  subst hx
  refine R_ireturn rfl (by rcases hx01 with rfl | rfl <;> rfl) (by decide) (by decide) dX6_operand_34 ?_
  exact ⟨⟨f1, o1⟩, rfl, rfl, rfl⟩
theorem c_operand1 {o : Int} {k : Nat} {op : Nat → PX} (h : CtR (mX6_piece (rmD k 0 0)) [vI o] op r dc T N) : CtR (mX6_operand (rmD (k + 1) 0 0)) [vI ((1 : Nat) : Int), vI o] op r dc T N := by
  intro g z p m H
  refine CT.of 0 rfl rfl ?_
  refine R_iload_n dX6_operand_0 rfl ?_
  refine R_tsIn 35 dX6_operand_1 (by decide) (by decide) rfl (by decide) ?_
  refine R_aload_n dX6_operand_35 rfl ?_
  refine R_iload_n dX6_operand_36 rfl ?_
  refine R_callV (h g z p m H) (mvX6_piece _) kiX6_piece kvX6_piece km6_101 rfl rfl (by decide) (rmOKk rfl rfl (by omega) (of_decide_eq_true rfl)) (Nat.le_of_ble_eq_true rfl) dX6_operand_37 (fun v1 sh1 g1 z1 r1 hq => ?_)
  obtain ⟨⟨f1, o1⟩, rfl, rfl, rfl⟩ := hq
  have ⟨x, hx, hx01⟩ : ∃ x : Int, v1 = some (vI x) ∧ (x = 0 ∨ x = 1) := by
    cases hop : op p with
    | inl f => rw [hop] at o1; exact ⟨0, o1.1, Or.inl rfl⟩
    | inr q => rw [hop] at o1; exact ⟨1, o1.1, Or.inr rfl⟩
  subst hx
  refine R_ireturn rfl (by rcases hx01 with rfl | rfl <;> rfl) (by decide) (by decide) dX6_operand_40 ?_
  exact ⟨⟨f1, o1⟩, rfl, rfl, rfl⟩
theorem c_operand2 {o : Int} {k : Nat} {op : Nat → PX} (h : CtR (mX6_chain (rmD k 0 0)) [vI ((3 : Nat) : Int), vI o] op r dc T N) : CtR (mX6_operand (rmD (k + 1) 0 0)) [vI ((2 : Nat) : Int), vI o] op r dc T N := by
  intro g z p m H
  refine CT.of 0 rfl rfl ?_
  refine R_iload_n dX6_operand_0 rfl ?_
  refine R_tsIn 41 dX6_operand_1 (by decide) (by decide) rfl (by decide) ?_
  refine R_aload_n dX6_operand_41 rfl ?_
  refine R_iconst dX6_operand_42 rfl rfl ?_
  refine R_iload_n dX6_operand_43 rfl ?_
  refine R_callV (h g z p m H) (mvX6_chain _) kiX6_chain kvX6_chain km6_72 rfl rfl (by decide) (rmOKk rfl rfl (by omega) (of_decide_eq_true rfl)) (Nat.le_of_ble_eq_true rfl) dX6_operand_44 (fun v1 sh1 g1 z1 r1 hq => ?_)
  obtain ⟨⟨f1, o1⟩, rfl, rfl, rfl⟩ := hq
  have ⟨x, hx, hx01⟩ : ∃ x : Int, v1 = some (vI x) ∧ (x = 0 ∨ x = 1) := by
    cases hop : op p with
    | inl f => rw [hop] at o1; exact ⟨0, o1.1, Or.inl rfl⟩
    | inr q => rw [hop] at o1; exact ⟨1, o1.1, Or.inr rfl⟩
  subst hx
  refine R_ireturn rfl (by rcases hx01 with rfl | rfl <;> rfl) (by decide) (by decide) dX6_operand_47 ?_
  exact ⟨⟨f1, o1⟩, rfl, rfl, rfl⟩
theorem c_operand3 {o : Int} {k : Nat} {op : Nat → PX} (h : CtR (mX6_factor (rmD k 0 0)) [vI o] op r dc T N) : CtR (mX6_operand (rmD (k + 1) 0 0)) [vI ((3 : Nat) : Int), vI o] op r dc T N := by
  intro g z p m H
  refine CT.of 0 rfl rfl ?_
  refine R_iload_n dX6_operand_0 rfl ?_
  refine R_tsOut 48 dX6_operand_1 (Or.inr (by decide)) (by decide) ?_
  refine R_aload_n dX6_operand_48 rfl ?_
  refine R_iload_n dX6_operand_49 rfl ?_
  refine R_callV (h g z p m H) (mvX6_factor _) kiX6_factor kvX6_factor km6_104 rfl rfl (by decide) (rmOKk rfl rfl (by omega) (of_decide_eq_true rfl)) (Nat.le_of_ble_eq_true rfl) dX6_operand_50 (fun v1 sh1 g1 z1 r1 hq => ?_)
  obtain ⟨⟨f1, o1⟩, rfl, rfl, rfl⟩ := hq
  have ⟨x, hx, hx01⟩ : ∃ x : Int, v1 = some (vI x) ∧ (x = 0 ∨ x = 1) := by
    cases hop : op p with
    | inl f => rw [hop] at o1; exact ⟨0, o1.1, Or.inl rfl⟩
    | inr q => rw [hop] at o1; exact ⟨1, o1.1, Or.inr rfl⟩
  subst hx
  refine R_ireturn rfl (by rcases hx01 with rfl | rfl <;> rfl) (by decide) (by decide) dX6_operand_53 ?_
  exact ⟨⟨f1, o1⟩, rfl, rfl, rfl⟩
theorem fidx_ix : ∀ c : Nat, c < 256 → (if isVl (c : Int) = true then ixF (c : Int) (txL 0) 0 = (fidx (c : Int) : Int) else ixF (c : Int) (txL 0) 0 = -1) := by decide +kernel
theorem fidx_ix' {c : Int} (hc : 0 ≤ c ∧ c ≤ 255) : (if isVl c = true then ixF c (txL 0) 0 = (fidx c : Int) else ixF c (txL 0) 0 = -1) := by
  obtain ⟨n, rfl⟩ : ∃ n : Nat, c = (n : Int) := ⟨c.toNat, by omega⟩
  exact fidx_ix n (by omega)
theorem fidx_9 (c : Int) : fidx c < 9 := by unfold fidx; repeat (first | (split; omega) | omega)
theorem c_factor (hr : RS r) (hT : TXT T N) {o : Nat} (ho : o ≤ 6) {k : Nat} (hk : 3 ≤ k) {sub : Option (Nat → PX)} (h6 : o = 6 → sub = none) (hs : o < 6 → ∃ e, sub = some e ∧ PG N lenP e ∧ CtR (mX6_chain (rmD k 0 0)) [vI ((2 : Nat) : Int), vI ((o : Int) + 1)] e r dc T N) : CtR (mX6_factor (rmD (k + 1) 0 0)) [vI (o : Int)] (facB T sub) r dc T N := by
  intro g z p m H
  have hc := H.1.2
  have hd := H.1.1
  have hN := H.2.1.2
  have h4 := H.2.2.2.1
  have h56 := H.2.2.2.2.2.1
  have hTb := hT.2 p
  refine CT.of 2 rfl rfl ?_
  generalize hX : facB T sub p = Xr
  generalize hQ : (qG shW z r fun v g' => CPst g g' r dc T N m Xr v) = Q
  unfold facB at hX
  refine R_aload_n dX6_factor_0 rfl ?_
  refine R_callV (H.peek hr hT) (mvX6_peek _) kiX6_peek kvX6_peek km6_54 rfl rfl (by decide) (rmOKk rfl rfl (by omega) (of_decide_eq_true rfl)) (Nat.le_of_ble_eq_true rfl) dX6_factor_1 (fun v1 sh1 g1 z1 r1 hq => ?_)
  obtain ⟨rfl, rfl, rfl, rfl, rfl⟩ := hq
  refine R_istore_n dX6_factor_4 (of_decide_eq_true rfl) rfl [_, _, _, _] rfl ?_
  refine R_iload_n dX6_factor_5 rfl ?_
  refine R_callS (c_isDigit (T p)) (mvX6_isDigit _) ksX6_isDigit km6_110 (rmOKk rfl rfl (by omega) (of_decide_eq_true rfl)) (Nat.le_of_ble_eq_true rfl) dX6_factor_6 (fun v1 sh1 g1 z1 r1 hq => ?_)
  obtain ⟨rfl, rfl, rfl, rfl, rfl⟩ := hq
  by_cases hdg : dig (T p) = true
  · rw [bi_t hdg]
    rw [if_pos hdg] at hX
    have hlt : p < N := txt_lt hT.1 (fun e => by rw [e] at hdg; cases hdg)
    refine R_if_eq 17 dX6_factor_9 (by decide) (fun hc9 => ?_) (fun hc9 => ?_)
    · exact absurd hc9 (by decide)
    refine R_aload_n dX6_factor_12 rfl ?_
    refine R_callV (c_number hr hT H (by omega) hdg) (mvX6_number _) kiX6_number kvX6_number km6_113 rfl rfl (by decide) (rmOKk rfl rfl (by omega) (of_decide_eq_true rfl)) (Nat.le_of_ble_eq_true rfl) dX6_factor_13 (fun v1 sh1 g1 z1 r1 hq => ?_)
    obtain ⟨⟨f1, o1⟩, rfl, rfl, rfl⟩ := hq
    have ⟨x, hx, hx01⟩ : ∃ x : Int, v1 = some (vI x) ∧ (x = 0 ∨ x = 1) := by
      cases hop : nmbP T p with
      | inl f => rw [hop] at o1; exact ⟨0, o1.1, Or.inl rfl⟩
      | inr q => rw [hop] at o1; exact ⟨1, o1.1, Or.inr rfl⟩
    subst hx
    refine R_ireturn rfl (by rcases hx01 with rfl | rfl <;> rfl) (by decide) (by decide) dX6_factor_16 ?_
    rw [← hQ, ← hX]
    exact ⟨⟨f1, o1⟩, rfl, rfl, rfl⟩
  rw [bi_f hdg]
  rw [if_neg hdg] at hX
  refine R_if_eq 17 dX6_factor_9 (by decide) (fun hc9 => ?_) (fun hc9 => ?_)
  rotate_left
  · exact absurd rfl hc9
  refine R_iload_n dX6_factor_17 rfl ?_
  refine R_bipush dX6_factor_18 rfl (by decide +kernel) ?_
  refine R_icmp_ne 71 dX6_factor_20 (by decide) (fun hc20 => ?_) (fun hc20 => ?_)
  · have h91 : T p ≠ 91 := hc20
    rw [if_neg h91] at hX
    refine R_ldcS (i := 0) (by decide) (fun _ _ h => h.1.2.1) dX6_factor_71 ?_
    refine R_iload_n dX6_factor_73 rfl ?_
    refine R_callT (as := [vI (T p)]) (i := 0) (by decide) (j_indexOf 0 (by decide) (T p) hTb) rfl (mvJ0_indexOf_0f7a4 _) kiJ0_indexOf_0f7a4 kvJ0_indexOf_0f7a4 km6_64 (rmOKk rfl rfl (by omega) (of_decide_eq_true rfl)) (Nat.le_of_ble_eq_true rfl) dX6_factor_74 (fun v1 sh1 g2 z1 r1 hq => ?_)
    obtain ⟨rfl, rfl, rfl, rfl, rfl⟩ := hq
    have hfx := fidx_ix' hTb
    have h9 := fidx_9 (T p)
    by_cases hv : isVl (T p) = true
    · rw [if_pos hv] at hfx hX
      have hlt : p < N := txt_lt hT.1 (fun e => by rw [e] at hv; cases hv)
      rw [hfx]
      refine R_istore_n dX6_factor_77 (of_decide_eq_true rfl) rfl [_, _, _, _] rfl ?_
      refine R_iload_n dX6_factor_78 rfl ?_
      refine R_if_ge 88 dX6_factor_79 (by decide) (fun hc79 => ?_) (fun hc79 => ?_)
      rotate_left
      · exact absurd (by omega) hc79
      refine R_aload_n dX6_factor_88 rfl ?_
      refine R_dup dX6_factor_89 (fun _ h => by cases h) ?_
      refine R_getI fd6_3 kf6_38 rfl dX6_factor_90 ?_
      rw [h4.1]
      refine R_iconst dX6_factor_93 rfl rfl ?_
      refine R_iaddN dX6_factor_94 (by unfold inI; omega) ?_
      refine R_putI fd6_3 rfl kf6_38 rfl dX6_factor_95 ?_
      rw [show (p : Int) + 1 = ((p + 1 : Nat) : Int) by omega]
      have H1 := H.at (show p + 1 ≤ N by omega)
      have e5 := H1.2.2.2.2.2.1.1
      refine R_aload_n dX6_factor_98 rfl ?_
      refine R_getR _ (hd) fd6_1 kf6_18 rfl dX6_factor_99 ?_
      refine R_bipush dX6_factor_102 rfl (by decide +kernel) ?_
      refine R_iload_n dX6_factor_104 rfl ?_
      refine R_callV (c_addStep hr hc m (by omega) e5 110 (fidx (T p) : Int)) (mvX2_addStep _) kiX2_addStep kvX2_addStep km6_95 (isCu_sh hc) rfl (by decide) (rmOKk rfl rfl (by omega) (of_decide_eq_true rfl)) (Nat.le_of_ble_eq_true rfl) dX6_factor_105 (fun v1 sh1 g2 z1 r1 hq => ?_)
      obtain ⟨⟨rfl, rfl⟩, rfl, rfl, rfl⟩ := hq
      refine R_pop dX6_factor_108 (fun _ h => by cases h) ?_
      refine R_iconst dX6_factor_109 rfl rfl ?_
      refine R_ireturn rfl (by first | rfl | exact nar_b2i | exact nar_bi) (by decide) (by decide) dX6_factor_110 ?_
      rw [← hQ, ← hX]
      refine ⟨⟨(FrC.at (Or.inl rfl) hc).trans (stp_Fr hc (by omega)), rfl, CR_stp H1 (by omega) (by omega), ?_, (lowAt hc).trans stp_low (Nat.le_refl _)⟩, rfl, rfl, rfl⟩
      intro i q hi
      match i, hi with
      | 0, hi => cases hi; exact stp_at
    · rw [if_neg hv] at hfx hX
      rw [hfx]
      refine R_istore_n dX6_factor_77 (of_decide_eq_true rfl) rfl [_, _, _, _] rfl ?_
      refine R_iload_n dX6_factor_78 rfl ?_
      refine R_if_ge 88 dX6_factor_79 (by decide) (fun hc79 => ?_) (fun hc79 => ?_)
      · exact absurd hc79 (by decide)
      refine R_aload_n dX6_factor_82 rfl ?_
      refine R_iconst dX6_factor_83 rfl rfl ?_
      refine R_callV (c_refuse 1 p (by decide) (by omega) h4.1) (mvX6_refuse _) kiX6_refuse kvX6_refuse km6_58 rfl rfl (by decide) (rmOKk rfl rfl (by omega) (of_decide_eq_true rfl)) (Nat.le_of_ble_eq_true rfl) dX6_factor_84 (fun v1 sh1 g2 z1 r1 hq => ?_)
      obtain ⟨⟨rfl, rfl⟩, rfl, rfl, rfl⟩ := hq
      refine R_ireturn rfl (by first | rfl | exact nar_b2i | exact nar_bi) (by decide) (by decide) dX6_factor_87 ?_
      rw [← hQ, ← hX]
      exact ⟨⟨FrC.at (Or.inr rfl) hc, rfl, by rw [up2_s]; omega⟩, rfl, rfl, rfl⟩
  have h91 : T p = 91 := hc20
  have hlt : p < N := txt_lt hT.1 (by omega)
  rw [if_pos h91] at hX
  refine R_iload_n dX6_factor_23 rfl ?_
  refine R_bipush dX6_factor_24 rfl (by decide +kernel) ?_
  refine R_icmp_lt 35 dX6_factor_26 (by decide) (fun hc26 => ?_) (fun hc26 => ?_)
  rotate_left
  · have ho6 : o = 6 := by omega
    rw [h6 ho6] at hX
    refine R_aload_n dX6_factor_29 rfl ?_
    refine R_iconst dX6_factor_30 rfl rfl ?_
    refine R_callV (c_refuse 5 p (by decide) (by omega) h4.1) (mvX6_refuse _) kiX6_refuse kvX6_refuse km6_58 rfl rfl (by decide) (rmOKk rfl rfl (by omega) (of_decide_eq_true rfl)) (Nat.le_of_ble_eq_true rfl) dX6_factor_31 (fun v1 sh1 g2 z1 r1 hq => ?_)
    obtain ⟨⟨rfl, rfl⟩, rfl, rfl, rfl⟩ := hq
    refine R_ireturn rfl (by first | rfl | exact nar_b2i | exact nar_bi) (by decide) (by decide) dX6_factor_34 ?_
    rw [← hQ, ← hX]
    exact ⟨⟨FrC.at (Or.inr rfl) hc, rfl, by rw [up2_s]; omega⟩, rfl, rfl, rfl⟩
  obtain ⟨e, he, hpe, hce⟩ := hs (by omega)
  rw [he] at hX
  simp only at hX
  refine R_aload_n dX6_factor_35 rfl ?_
  refine R_dup dX6_factor_36 (fun _ h => by cases h) ?_
  refine R_getI fd6_3 kf6_38 rfl dX6_factor_37 ?_
  rw [h4.1]
  refine R_iconst dX6_factor_40 rfl rfl ?_
  refine R_iaddN dX6_factor_41 (by unfold inI; omega) ?_
  refine R_putI fd6_3 rfl kf6_38 rfl dX6_factor_42 ?_
  rw [show (p : Int) + 1 = ((p + 1 : Nat) : Int) by omega]
  have H1 := H.at (show p + 1 ≤ N by omega)
  refine R_aload_n dX6_factor_45 rfl ?_
  refine R_iconst dX6_factor_46 rfl rfl ?_
  refine R_iload_n dX6_factor_47 rfl ?_
  refine R_iconst dX6_factor_48 rfl rfl ?_
  refine R_iaddN dX6_factor_49 (by unfold inI; omega) ?_
  refine R_callV (hce _ _ (p + 1) m H1) (mvX6_chain _) kiX6_chain kvX6_chain km6_72 rfl rfl (by decide) (rmOKk rfl rfl (by omega) (of_decide_eq_true rfl)) (Nat.le_of_ble_eq_true rfl) dX6_factor_50 (fun v1 sh1 g2 z1 r1 hq => ?_)
  obtain ⟨⟨f2, o2⟩, rfl, rfl, rfl⟩ := hq
  have f12 := (FrC.at (g := g) (v := ((p + 1 : Nat) : Int)) (Or.inl rfl) hc).trans f2
  cases hx2 : e (p + 1) with
  | inl f =>
    rw [hx2] at o2 hX
    obtain ⟨rfl, h34⟩ := o2
    refine R_if_eq 69 dX6_factor_53 (by decide) (fun hc53 => ?_) (fun hc53 => ?_)
    rotate_left
    · exact absurd rfl hc53
    refine R_iconst dX6_factor_69 rfl rfl ?_
    refine R_ireturn rfl (by first | rfl | exact nar_b2i | exact nar_bi) (by decide) (by decide) dX6_factor_70 ?_
    rw [← hQ, ← hX]
    exact ⟨⟨f12, rfl, h34⟩, rfl, rfl, rfl⟩
  | inr q =>
    obtain ⟨p1, b⟩ := q
    rw [hx2] at o2 hX
    obtain ⟨rfl, h3, s3, l3⟩ := o2
    have h3 : CR g2 r dc T N p1 (m + b.2.1.length) := h3
    have hX : (if T p1 = 93 then (.inr (p1 + 1, b) : PX) else .inl (-1000 - (p1 : Int))) = Xr := hX
    have l13 := (lowAt (m := m) (k := 3) (g := g) (v := ((p + 1 : Nat) : Int)) hc).trans l3 (Nat.le_refl _)
    refine R_if_eq 69 dX6_factor_53 (by decide) (fun hc53 => ?_) (fun hc53 => ?_)
    · exact absurd hc53 (by decide)
    refine R_aload_n dX6_factor_56 rfl ?_
    refine R_bipush dX6_factor_57 rfl (by decide +kernel) ?_
    refine R_callV (c_take hr hT h3 93) (mvX6_take _) kiX6_take kvX6_take km6_50 rfl rfl (by decide) (rmOKk rfl rfl (by omega) (of_decide_eq_true rfl)) (Nat.le_of_ble_eq_true rfl) dX6_factor_59 (fun v1 sh1 g3 z1 r1 hq => ?_)
    obtain ⟨o3, rfl, rfl, rfl⟩ := hq
    rcases o3 with ⟨h93, rfl, rfl⟩ | ⟨h93, rfl, rfl⟩
    · rw [if_pos h93] at hX
      have hlt1 : p1 < N := txt_lt hT.1 (by omega)
      refine R_if_eq 69 dX6_factor_62 (by decide) (fun hc62 => ?_) (fun hc62 => ?_)
      · exact absurd hc62 (by decide)
      refine R_iconst dX6_factor_65 rfl rfl ?_
      refine R_goto 70 dX6_factor_66 (by decide) ?_
      refine R_ireturn rfl (by first | rfl | exact nar_b2i | exact nar_bi) (by decide) (by decide) dX6_factor_70 ?_
      rw [← hQ, ← hX]
      exact ⟨⟨f12.trans (FrC.at (Or.inl rfl) hc), rfl, h3.at (by omega), seg_at hc s3, l13.trans (lowAt hc) (Nat.le_refl _)⟩, rfl, rfl, rfl⟩
    · rw [if_neg h93] at hX
      refine R_if_eq 69 dX6_factor_62 (by decide) (fun hc62 => ?_) (fun hc62 => ?_)
      rotate_left
      · exact absurd rfl hc62
      refine R_iconst dX6_factor_69 rfl rfl ?_
      refine R_ireturn rfl (by first | rfl | exact nar_b2i | exact nar_bi) (by decide) (by decide) dX6_factor_70 ?_
      rw [← hQ, ← hX]
      exact ⟨⟨f12.trans (FrC.at (Or.inr rfl) hc), rfl, up2_s⟩, rfl, rfl, rfl⟩
theorem c_comparison (hr : RS r) (hT : TXT T N) {o : Int} {k : Nat} (hk : 3 ≤ k) {f : Nat → PX} (hpe : PG N lenP (expB T f)) (he : CtR (mX6_chain (rmD k 0 0)) [vI ((2 : Nat) : Int), vI o] (expB T f) r dc T N) : CtR (mX6_comparison (rmD (k + 1) 0 0)) [vI o] (cmpB T f) r dc T N := by
  intro g z p m H
  have hc := H.1.2
  have hd := H.1.1
  have hN := H.2.1.2
  have hp := H.2.2.2.1.2
  refine CT.of 1 rfl rfl ?_
  generalize hX : cmpB T f p = Xr
  generalize hQ : (qG shW z r fun v g' => CPst g g' r dc T N m Xr v) = Q
  unfold cmpB at hX
  refine R_aload_n dX6_comparison_0 rfl ?_
  refine R_iconst dX6_comparison_1 rfl rfl ?_
  refine R_iload_n dX6_comparison_2 rfl ?_
  refine R_callV (he g z p m H) (mvX6_chain _) kiX6_chain kvX6_chain km6_72 rfl rfl (by decide) (rmOKk rfl rfl (by omega) (of_decide_eq_true rfl)) (Nat.le_of_ble_eq_true rfl) dX6_comparison_3 (fun v1 sh1 g1 z1 r1 hq => ?_)
  obtain ⟨⟨f1, o1⟩, rfl, rfl, rfl⟩ := hq
  cases hx1 : expB T f p with
  | inl e =>
    rw [hx1] at o1 hX
    obtain ⟨rfl, h34⟩ := o1
    refine R_if_ne 11 dX6_comparison_6 (by decide) (fun hc6 => ?_) (fun hc6 => ?_)
    · exact absurd rfl hc6
    refine R_iconst dX6_comparison_9 rfl rfl ?_
    refine R_ireturn rfl (by first | rfl | exact nar_b2i | exact nar_bi) (by decide) (by decide) dX6_comparison_10 ?_
    rw [← hQ, ← hX]
    exact ⟨⟨f1, rfl, h34⟩, rfl, rfl, rfl⟩
  | inr q =>
    obtain ⟨p1, a⟩ := q
    rw [hx1] at o1 hX
    obtain ⟨rfl, h1, s1, l1⟩ := o1
    have h1 : CR g1 r dc T N p1 (m + a.2.1.length) := h1
    obtain ⟨r1, r2, r3, r4⟩ := (hpe p hp).2 p1 a hx1
    have hX : (if isSg (T p1) then bdX (expB T f (p1 + 1)) (fun p2 b => .inr (p2, bBin (T p1) a b)) else .inl (-1000 - (p1 : Int))) = Xr := hX
    have h14 := h1.2.2.2.1
    have h16 := h1.2.2.2.2.2.1
    refine R_if_ne 11 dX6_comparison_6 (by decide) (fun hc6 => ?_) (fun hc6 => ?_)
    rotate_left
    · exact absurd hc6 (by decide)
    refine R_aload_n dX6_comparison_11 rfl ?_
    refine R_callV (h1.peek hr hT) (mvX6_peek _) kiX6_peek kvX6_peek km6_54 rfl rfl (by decide) (rmOKk rfl rfl (by omega) (of_decide_eq_true rfl)) (Nat.le_of_ble_eq_true rfl) dX6_comparison_12 (fun v1 sh1 g2 z1 r1 hq => ?_)
    obtain ⟨rfl, rfl, rfl, rfl, rfl⟩ := hq
    have at40 : isSg (T p1) = true → RJ (mX6_comparison (rmD (k + 1) 0 0)) 0 0 shW.length Q 0 0 shW 40 [some (vR (some 22)), some (vI o), some (vI (T p1))] [] g1 z r := by
      intro hs
      have hlt : p1 < N := txt_lt hT.1 (fun e => by rw [e] at hs; cases hs)
      rw [if_pos hs] at hX
      have hcs := isSg_c hs
      refine R_aload_n dX6_comparison_40 rfl ?_
      refine R_dup dX6_comparison_41 (fun _ h => by cases h) ?_
      refine R_getI fd6_3 kf6_38 rfl dX6_comparison_42 ?_
      rw [h14.1]
      refine R_iconst dX6_comparison_45 rfl rfl ?_
      refine R_iaddN dX6_comparison_46 (by unfold inI; omega) ?_
      refine R_putI fd6_3 rfl kf6_38 rfl dX6_comparison_47 ?_
      rw [show (p1 : Int) + 1 = ((p1 + 1 : Nat) : Int) by omega]
      have H1 := h1.at (show p1 + 1 ≤ N by omega)
      refine R_aload_n dX6_comparison_50 rfl ?_
      refine R_iconst dX6_comparison_51 rfl rfl ?_
      refine R_iload_n dX6_comparison_52 rfl ?_
      refine R_callV (he _ _ (p1 + 1) (m + a.2.1.length) H1) (mvX6_chain _) kiX6_chain kvX6_chain km6_72 rfl rfl (by decide) (rmOKk rfl rfl (by omega) (of_decide_eq_true rfl)) (Nat.le_of_ble_eq_true rfl) dX6_comparison_53 (fun v1 sh1 g2 z1 r1 hq => ?_)
      obtain ⟨⟨f2, o2⟩, rfl, rfl, rfl⟩ := hq
      have f12 := (f1.trans (FrC.at (g := g1) (v := ((p1 + 1 : Nat) : Int)) (Or.inl rfl) hc)).trans f2
      cases hx2 : expB T f (p1 + 1) with
      | inl e =>
        rw [hx2] at o2 hX
        obtain ⟨rfl, h34⟩ := o2
        refine R_if_ne 61 dX6_comparison_56 (by decide) (fun hc56 => ?_) (fun hc56 => ?_)
        · exact absurd rfl hc56
        refine R_iconst dX6_comparison_59 rfl rfl ?_
        refine R_ireturn rfl (by first | rfl | exact nar_b2i | exact nar_bi) (by decide) (by decide) dX6_comparison_60 ?_
        rw [← hQ, ← hX]
        exact ⟨⟨f12, rfl, h34⟩, rfl, rfl, rfl⟩
      | inr q =>
        obtain ⟨p2, b⟩ := q
        rw [hx2] at o2 hX
        obtain ⟨rfl, h3, s3, l3⟩ := o2
        have h3 : CR g2 r dc T N p2 (m + a.2.1.length + b.2.1.length) := h3
        have s3 : seg (g2 (dc + 3)) (g2 (dc + 4)) (m + a.2.1.length) (b.1 (m + a.2.1.length)) := s3
        obtain ⟨t1, t2, t3, t4⟩ := (hpe (p1 + 1) (by omega)).2 p2 b hx2
        have h36 := h3.2.2.2.2.2.1
        refine R_if_ne 61 dX6_comparison_56 (by decide) (fun hc56 => ?_) (fun hc56 => ?_)
        rotate_left
        · exact absurd hc56 (by decide)
        refine R_aload_n dX6_comparison_61 rfl ?_
        refine R_getR _ (hd) fd6_1 kf6_18 rfl dX6_comparison_62 ?_
        refine R_iload_n dX6_comparison_65 rfl ?_
        refine R_iconst dX6_comparison_66 rfl rfl ?_
        refine R_callV (c_addStep hr hc (m + a.2.1.length + b.2.1.length) (by omega) h36.1 (T p1) 0) (mvX2_addStep _) kiX2_addStep kvX2_addStep km6_95 (isCu_sh hc) rfl (by decide) (rmOKk rfl rfl (by omega) (of_decide_eq_true rfl)) (Nat.le_of_ble_eq_true rfl) dX6_comparison_67 (fun v1 sh1 g4 z1 r1 hq => ?_)
        obtain ⟨⟨rfl, rfl⟩, rfl, rfl, rfl⟩ := hq
        refine R_pop dX6_comparison_70 (fun _ h => by cases h) ?_
        refine R_iconst dX6_comparison_71 rfl rfl ?_
        refine R_ireturn rfl (by first | rfl | exact nar_b2i | exact nar_bi) (by decide) (by decide) dX6_comparison_72 ?_
        have l4 := stp_low (dc := dc) (g := g2) (m := m + a.2.1.length + b.2.1.length) (s := T p1) (v := 0)
        have at4 := stp_at (dc := dc) (g := g2) (m := m + a.2.1.length + b.2.1.length) (s := T p1) (v := 0)
        have l1' := l1.trans (lowAt (m := m) (k := 3) (g := g1) (v := ((p1 + 1 : Nat) : Int)) hc) (Nat.le_refl _)
        have hlen : (bBin (T p1) a b).2.1.length = a.2.1.length + (b.2.1.length + 1) := by simp [bBin]
        rw [← hQ, ← hX]
        refine ⟨⟨f12.trans (stp_Fr hc (by decide)), rfl, ?_, ?_, (l1'.trans l3 (by omega)).trans l4 (by omega)⟩, rfl, rfl, rfl⟩
        · rw [hlen, show m + (a.2.1.length + (b.2.1.length + 1)) = m + a.2.1.length + b.2.1.length + 1 by omega]
          exact CR_stp h3 (by omega) (by decide)
        · show seg _ _ m (a.1 m ++ (b.1 (m + a.2.1.length) ++ [(T p1, 0)]))
          rw [seg_app, seg_app, seg_cons, r4, t4]
          exact ⟨seg_low (seg_low (seg_at hc s1) l3 (by show m + (a.1 m).length ≤ _; rw [r4]; omega)) l4 (by show m + (a.1 m).length ≤ _; rw [r4]; omega), seg_low s3 l4 (by rw [t4]; omega), at4, fun i q hi => by cases hi⟩
    refine R_istore_n dX6_comparison_15 (of_decide_eq_true rfl) rfl [_, _, _] rfl ?_
    refine R_iload_n dX6_comparison_16 rfl ?_
    refine R_bipush dX6_comparison_17 rfl (by decide +kernel) ?_
    refine R_icmp_eq 40 dX6_comparison_19 (by decide) (fun hc19 => ?_) (fun hc19 => ?_)
    · exact at40 (by rw [hc19]; rfl)
    refine R_iload_n dX6_comparison_22 rfl ?_
    refine R_bipush dX6_comparison_23 rfl (by decide +kernel) ?_
    refine R_icmp_eq 40 dX6_comparison_25 (by decide) (fun hc25 => ?_) (fun hc25 => ?_)
    · exact at40 (by rw [hc25]; rfl)
    refine R_iload_n dX6_comparison_28 rfl ?_
    refine R_bipush dX6_comparison_29 rfl (by decide +kernel) ?_
    refine R_icmp_eq 40 dX6_comparison_31 (by decide) (fun hc31 => ?_) (fun hc31 => ?_)
    · exact at40 (by rw [hc31]; rfl)
    refine R_aload_n dX6_comparison_34 rfl ?_
    refine R_iconst dX6_comparison_35 rfl rfl ?_
    refine R_callV (c_refuse 1 p1 (by decide) (by omega) h14.1) (mvX6_refuse _) kiX6_refuse kvX6_refuse km6_58 rfl rfl (by decide) (rmOKk rfl rfl (by omega) (of_decide_eq_true rfl)) (Nat.le_of_ble_eq_true rfl) dX6_comparison_36 (fun v1 sh1 g2 z1 r1 hq => ?_)
    obtain ⟨⟨rfl, rfl⟩, rfl, rfl, rfl⟩ := hq
    refine R_ireturn rfl (by first | rfl | exact nar_b2i | exact nar_bi) (by decide) (by decide) dX6_comparison_39 ?_
    rw [if_neg (fun q => by have := isSg_c q; omega)] at hX
    rw [← hQ, ← hX]
    exact ⟨⟨f1.trans (FrC.at (Or.inr rfl) hc), rfl, by rw [up2_s]; omega⟩, rfl, rfl, rfl⟩
end RDC3
