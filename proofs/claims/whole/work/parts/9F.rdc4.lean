section RDC4
variable {r : RR} {dc N : Nat} {T : Nat → Int}
theorem c_piece (hr : RS r) (hT : TXT T N) {o : Nat} (ho : o ≤ 6) {k : Nat} (hk : 3 ≤ k) {cmp : Nat → PX} {sub : Option (Nat → PX)} (hcm : CtR (mX6_comparison (rmD k 0 0)) [vI (o : Int)] cmp r dc T N) (h6 : o = 6 → sub = none) (hs : o < 6 → ∃ e k', sub = some e ∧ k' ≤ k ∧ PG N lenP e ∧ PG N lenP (cndB T e) ∧ CtR (mX6_piece (rmD k' 0 0)) [vI ((o : Int) + 1)] e r dc T N ∧ CtR (mX6_chain (rmD k 0 0)) [vI ((0 : Nat) : Int), vI ((o : Int) + 1)] (cndB T e) r dc T N) : CtR (mX6_piece (rmD (k + 1) 0 0)) [vI (o : Int)] (pieB T cmp sub) r dc T N := by
  intro g z p m H
  have hc := H.1.2
  have hd := H.1.1
  have hN := H.2.1.2
  have h4 := H.2.2.2.1
  have h56 := H.2.2.2.2.2.1
  refine CT.of 1 rfl rfl ?_
  generalize hX : pieB T cmp sub p = Xr
  generalize hQ : (qG shW z r fun v g' => CPst g g' r dc T N m Xr v) = Q
  unfold pieB at hX
  have at23 : (T p = 33 ∨ T p = 40) → RJ (mX6_piece (rmD (k + 1) 0 0)) 0 0 shW.length Q 0 0 shW 23 [some (vR (some 22)), some (vI (o : Int)), some (vI (T p))] [] g z r := by
    intro hi
    rw [if_pos hi] at hX
    have hlt : p < N := txt_lt hT.1 (by omega)
    refine R_iload_n dX6_piece_23 rfl ?_
    refine R_bipush dX6_piece_24 rfl (by decide +kernel) ?_
    refine R_icmp_lt 35 dX6_piece_26 (by decide) (fun hc26 => ?_) (fun hc26 => ?_)
    rotate_left
    · have ho6 : o = 6 := by omega
      rw [h6 ho6] at hX
      refine R_aload_n dX6_piece_29 rfl ?_
      refine R_iconst dX6_piece_30 rfl rfl ?_
      refine R_callV (c_refuse 5 p (by decide) (by omega) h4.1) (mvX6_refuse _) kiX6_refuse kvX6_refuse km6_58 rfl rfl (by decide) (rmOKk rfl rfl (by omega) (of_decide_eq_true rfl)) (Nat.le_of_ble_eq_true rfl) dX6_piece_31 (fun v1 sh1 g2 z1 r1 hq => ?_)
      obtain ⟨⟨rfl, rfl⟩, rfl, rfl, rfl⟩ := hq
      refine R_ireturn rfl (by first | rfl | exact nar_b2i | exact nar_bi) (by decide) (by decide) dX6_piece_34 ?_
      rw [← hQ, ← hX]
      exact ⟨⟨FrC.at (Or.inr rfl) hc, rfl, by rw [up2_s]; omega⟩, rfl, rfl, rfl⟩
    obtain ⟨e, k', he, hkk, hpe, hpc, hce, hcc⟩ := hs (by omega)
    rw [he] at hX
    simp only at hX
    refine R_aload_n dX6_piece_35 rfl ?_
    refine R_dup dX6_piece_36 (fun _ h => by cases h) ?_
    refine R_getI fd6_3 kf6_38 rfl dX6_piece_37 ?_
    rw [h4.1]
    refine R_iconst dX6_piece_40 rfl rfl ?_
    refine R_iaddN dX6_piece_41 (by unfold inI; omega) ?_
    refine R_putI fd6_3 rfl kf6_38 rfl dX6_piece_42 ?_
    rw [show (p : Int) + 1 = ((p + 1 : Nat) : Int) by omega]
    have H1 := H.at (show p + 1 ≤ N by omega)
    refine R_iload_n dX6_piece_45 rfl ?_
    refine R_bipush dX6_piece_46 rfl (by decide +kernel) ?_
    refine R_icmp_ne 77 dX6_piece_48 (by decide) (fun hc48 => ?_) (fun hc48 => ?_)
    · have h33 : T p = 33 := by omega
      rw [if_neg hc48] at hX
      refine R_aload_n dX6_piece_77 rfl ?_
      refine R_iload_n dX6_piece_78 rfl ?_
      refine R_iconst dX6_piece_79 rfl rfl ?_
      refine R_iaddN dX6_piece_80 (by unfold inI; omega) ?_
      refine R_callV (hce _ _ (p + 1) m H1) (mvX6_piece _) kiX6_piece kvX6_piece km6_101 rfl rfl (by decide) (rmOKk rfl rfl (by omega) (of_decide_eq_true rfl)) (Nat.le_of_ble_eq_true rfl) dX6_piece_81 (fun v1 sh1 g2 z1 r1 hq => ?_)
      obtain ⟨⟨f2, o2⟩, rfl, rfl, rfl⟩ := hq
      have f12 := (FrC.at (g := g) (v := ((p + 1 : Nat) : Int)) (Or.inl rfl) hc).trans f2
      cases hx2 : e (p + 1) with
      | inl f =>
        rw [hx2] at o2 hX
        obtain ⟨rfl, h34⟩ := o2
        refine R_if_ne 89 dX6_piece_84 (by decide) (fun hc84 => ?_) (fun hc84 => ?_)
        · exact absurd rfl hc84
        refine R_iconst dX6_piece_87 rfl rfl ?_
        refine R_ireturn rfl (by first | rfl | exact nar_b2i | exact nar_bi) (by decide) (by decide) dX6_piece_88 ?_
        rw [← hQ, ← hX]
        exact ⟨⟨f12, rfl, h34⟩, rfl, rfl, rfl⟩
      | inr q =>
        obtain ⟨p1, b⟩ := q
        rw [hx2] at o2 hX
        obtain ⟨rfl, h3, s3, l3⟩ := o2
        have h3 : CR g2 r dc T N p1 (m + b.2.1.length) := h3
        have s3 : seg (g2 (dc + 3)) (g2 (dc + 4)) m (b.1 m) := s3
        obtain ⟨t1, t2, t3, t4⟩ := (hpe (p + 1) (by omega)).2 p1 b hx2
        have h36 := h3.2.2.2.2.2.1
        refine R_if_ne 89 dX6_piece_84 (by decide) (fun hc84 => ?_) (fun hc84 => ?_)
        rotate_left
        · exact absurd hc84 (by decide)
        refine R_aload_n dX6_piece_89 rfl ?_
        refine R_getR _ (hd) fd6_1 kf6_18 rfl dX6_piece_90 ?_
        refine R_bipush dX6_piece_93 rfl (by decide +kernel) ?_
        refine R_iconst dX6_piece_95 rfl rfl ?_
        refine R_callV (c_addStep hr hc (m + b.2.1.length) (by omega) h36.1 33 0) (mvX2_addStep _) kiX2_addStep kvX2_addStep km6_95 (isCu_sh hc) rfl (by decide) (rmOKk rfl rfl (by omega) (of_decide_eq_true rfl)) (Nat.le_of_ble_eq_true rfl) dX6_piece_96 (fun v1 sh1 g4 z1 r1 hq => ?_)
        obtain ⟨⟨rfl, rfl⟩, rfl, rfl, rfl⟩ := hq
        refine R_pop dX6_piece_99 (fun _ h => by cases h) ?_
        refine R_iconst dX6_piece_100 rfl rfl ?_
        refine R_ireturn rfl (by first | rfl | exact nar_b2i | exact nar_bi) (by decide) (by decide) dX6_piece_101 ?_
        have l4 := stp_low (dc := dc) (g := g2) (m := m + b.2.1.length) (s := 33) (v := 0)
        have at4 := stp_at (dc := dc) (g := g2) (m := m + b.2.1.length) (s := 33) (v := 0)
        have l13 := (lowAt (m := m) (k := 3) (g := g) (v := ((p + 1 : Nat) : Int)) hc).trans l3 (Nat.le_refl _)
        have hlen : (bNot b).2.1.length = b.2.1.length + 1 := by simp [bNot]
        rw [← hQ, ← hX]
        refine ⟨⟨f12.trans (stp_Fr hc (by decide)), rfl, ?_, ?_, l13.trans l4 (by omega)⟩, rfl, rfl, rfl⟩
        · show CR _ r dc T N p1 (m + (bNot b).2.1.length)
          rw [hlen, ← Nat.add_assoc]
          exact CR_stp h3 (by omega) (by decide)
        · show seg _ _ m (b.1 m ++ [(33, 0)])
          rw [seg_app, seg_cons, t4]
          exact ⟨seg_low s3 l4 (by rw [t4]; omega), at4, fun i q hi => by cases hi⟩
    · have h40 : T p = 40 := hc48
      rw [if_pos h40] at hX
      refine R_aload_n dX6_piece_51 rfl ?_
      refine R_iconst dX6_piece_52 rfl rfl ?_
      refine R_iload_n dX6_piece_53 rfl ?_
      refine R_iconst dX6_piece_54 rfl rfl ?_
      refine R_iaddN dX6_piece_55 (by unfold inI; omega) ?_
      refine R_callV (hcc _ _ (p + 1) m H1) (mvX6_chain _) kiX6_chain kvX6_chain km6_72 rfl rfl (by decide) (rmOKk rfl rfl (by omega) (of_decide_eq_true rfl)) (Nat.le_of_ble_eq_true rfl) dX6_piece_56 (fun v1 sh1 g2 z1 r1 hq => ?_)
      obtain ⟨⟨f2, o2⟩, rfl, rfl, rfl⟩ := hq
      have f12 := (FrC.at (g := g) (v := ((p + 1 : Nat) : Int)) (Or.inl rfl) hc).trans f2
      cases hx2 : cndB T e (p + 1) with
      | inl f =>
        rw [hx2] at o2 hX
        obtain ⟨rfl, h34⟩ := o2
        refine R_if_eq 75 dX6_piece_59 (by decide) (fun hc59 => ?_) (fun hc59 => ?_)
        rotate_left
        · exact absurd rfl hc59
        refine R_iconst dX6_piece_75 rfl rfl ?_
        refine R_ireturn rfl (by first | rfl | exact nar_b2i | exact nar_bi) (by decide) (by decide) dX6_piece_76 ?_
        rw [← hQ, ← hX]
        exact ⟨⟨f12, rfl, h34⟩, rfl, rfl, rfl⟩
      | inr q =>
        obtain ⟨p1, b⟩ := q
        rw [hx2] at o2 hX
        obtain ⟨rfl, h3, s3, l3⟩ := o2
        have h3 : CR g2 r dc T N p1 (m + b.2.1.length) := h3
        have hX : (if T p1 = 41 then (.inr (p1 + 1, b) : PX) else .inl (-1000 - (p1 : Int))) = Xr := hX
        have l13 := (lowAt (m := m) (k := 3) (g := g) (v := ((p + 1 : Nat) : Int)) hc).trans l3 (Nat.le_refl _)
        refine R_if_eq 75 dX6_piece_59 (by decide) (fun hc59 => ?_) (fun hc59 => ?_)
        · exact absurd hc59 (by decide)
        refine R_aload_n dX6_piece_62 rfl ?_
        refine R_bipush dX6_piece_63 rfl (by decide +kernel) ?_
        refine R_callV (c_take hr hT h3 41) (mvX6_take _) kiX6_take kvX6_take km6_50 rfl rfl (by decide) (rmOKk rfl rfl (by omega) (of_decide_eq_true rfl)) (Nat.le_of_ble_eq_true rfl) dX6_piece_65 (fun v1 sh1 g3 z1 r1 hq => ?_)
        obtain ⟨o3, rfl, rfl, rfl⟩ := hq
        rcases o3 with ⟨h41, rfl, rfl⟩ | ⟨h41, rfl, rfl⟩
        · rw [if_pos h41] at hX
          have hlt1 : p1 < N := txt_lt hT.1 (by omega)
          refine R_if_eq 75 dX6_piece_68 (by decide) (fun hc68 => ?_) (fun hc68 => ?_)
          · exact absurd hc68 (by decide)
          refine R_iconst dX6_piece_71 rfl rfl ?_
          refine R_goto 76 dX6_piece_72 (by decide) ?_
          refine R_ireturn rfl (by first | rfl | exact nar_b2i | exact nar_bi) (by decide) (by decide) dX6_piece_76 ?_
          rw [← hQ, ← hX]
          exact ⟨⟨f12.trans (FrC.at (Or.inl rfl) hc), rfl, h3.at (by omega), seg_at hc s3, l13.trans (lowAt hc) (Nat.le_refl _)⟩, rfl, rfl, rfl⟩
        · rw [if_neg h41] at hX
          refine R_if_eq 75 dX6_piece_68 (by decide) (fun hc68 => ?_) (fun hc68 => ?_)
          rotate_left
          · exact absurd rfl hc68
          refine R_iconst dX6_piece_75 rfl rfl ?_
          refine R_ireturn rfl (by first | rfl | exact nar_b2i | exact nar_bi) (by decide) (by decide) dX6_piece_76 ?_
          rw [← hQ, ← hX]
          exact ⟨⟨f12.trans (FrC.at (Or.inr rfl) hc), rfl, up2_s⟩, rfl, rfl, rfl⟩
  refine R_aload_n dX6_piece_0 rfl ?_
  refine R_callV (H.peek hr hT) (mvX6_peek _) kiX6_peek kvX6_peek km6_54 rfl rfl (by decide) (rmOKk rfl rfl (by omega) (of_decide_eq_true rfl)) (Nat.le_of_ble_eq_true rfl) dX6_piece_1 (fun v1 sh1 g1 z1 r1 hq => ?_)
  obtain ⟨rfl, rfl, rfl, rfl, rfl⟩ := hq
  refine R_istore_n dX6_piece_4 (of_decide_eq_true rfl) rfl [_, _, _] rfl ?_
  refine R_iload_n dX6_piece_5 rfl ?_
  refine R_bipush dX6_piece_6 rfl (by decide +kernel) ?_
  refine R_icmp_eq 23 dX6_piece_8 (by decide) (fun hc8 => ?_) (fun hc8 => ?_)
  · exact at23 (Or.inl hc8)
  refine R_iload_n dX6_piece_11 rfl ?_
  refine R_bipush dX6_piece_12 rfl (by decide +kernel) ?_
  refine R_icmp_eq 23 dX6_piece_14 (by decide) (fun hc14 => ?_) (fun hc14 => ?_)
  · exact at23 (Or.inr hc14)
  rw [if_neg (by rintro (q | q); exact hc8 q; exact hc14 q)] at hX
  refine R_aload_n dX6_piece_17 rfl ?_
  refine R_iload_n dX6_piece_18 rfl ?_
  refine R_callV (hcm g z p m H) (mvX6_comparison _) kiX6_comparison kvX6_comparison km6_107 rfl rfl (by decide) (rmOKk rfl rfl (by omega) (of_decide_eq_true rfl)) (Nat.le_of_ble_eq_true rfl) dX6_piece_19 (fun v1 sh1 g1 z1 r1 hq => ?_)
  obtain ⟨⟨f1, o1⟩, rfl, rfl, rfl⟩ := hq
  have ⟨x, hx, hx01⟩ : ∃ x : Int, v1 = some (vI x) ∧ (x = 0 ∨ x = 1) := by
    cases hop : cmp p with
    | inl f => rw [hop] at o1; exact ⟨0, o1.1, Or.inl rfl⟩
    | inr q => rw [hop] at o1; exact ⟨1, o1.1, Or.inr rfl⟩
  subst hx
  refine R_ireturn rfl (by rcases hx01 with rfl | rfl <;> rfl) (by decide) (by decide) dX6_piece_22 ?_
  rw [← hQ, ← hX]
  exact ⟨⟨f1, o1⟩, rfl, rfl, rfl⟩
theorem term_PGl (hT : TXT T N) (hN : N ≤ 160) (d : Nat) : PG N lenP (chn T (okS 3) bBin (FAC T d)) := ((chn_PG (G := GA (1 + 2 * d)) (G' := GA (1 + 2 * d + 1)) hT.1 hN (ok := okS 3) okS0 bBin_c (fun c a b hc ha hb => GA_bin (okS_op (Or.inr rfl) hc) ha hb (Nat.le_refl _) (Nat.le_refl _)) (fun a ha => ha.mono (by omega)) (FAC_PG hT.1 hN d)).1).mono (fun b h => h.1)
theorem exp_PGl (hT : TXT T N) (hN : N ≤ 160) (d : Nat) : PG N lenP (expB T (FAC T d)) := (exp_PG hT.1 hN (FAC_PG hT.1 hN d)).mono (fun b h => h.1)
theorem part_PGl (hT : TXT T N) (hN : N ≤ 160) (d : Nat) (hd : d ≤ 5) : PG N lenP (chn T (okS 1) bJmp (PIE T d)) := ((chn_PG (G := GB) (G' := GB) hT.1 hN (ok := okS 1) okS0 bJmp_c (fun c a b hc ha hb => GB_jmp (Or.inl (okS_1 hc)) ha hb) (fun _ h => h) (PIE_PG hT.1 hN d hd)).1).mono (fun b h => h.1.1)
theorem c_fac_exp (hr : RS r) (hT : TXT T N) (hN : N ≤ 160) : ∀ (d o : Nat), o + d = 6 → CtR (mX6_factor (rmD (4 + 5 * d) 0 0)) [vI (o : Int)] (FAC T d) r dc T N ∧ CtR (mX6_chain (rmD (8 + 5 * d) 0 0)) [vI ((2 : Nat) : Int), vI (o : Int)] (expB T (FAC T d)) r dc T N := by
  have ex : ∀ (d o : Nat), CtR (mX6_factor (rmD (4 + 5 * d) 0 0)) [vI (o : Int)] (FAC T d) r dc T N → CtR (mX6_chain (rmD (8 + 5 * d) 0 0)) [vI ((2 : Nat) : Int), vI (o : Int)] (expB T (FAC T d)) r dc T N := by
    intro d o h
    have h3 := c_chain hr hT (kind := 3) (by decide) (k := 4 + 5 * d + 1) (by omega) (mk := bBin) rfl hN ((FAC_PG hT.1 hN d).mono (fun b h => h.1)) (c_operand3 h)
    have h2 := c_chain hr hT (kind := 2) (by decide) (k := 4 + 5 * d + 1 + 1 + 1) (by omega) (mk := bBin) rfl hN (term_PGl hT hN d) (c_operand2 h3)
    rw [show 8 + 5 * d = 4 + 5 * d + 1 + 1 + 1 + 1 by omega]
    exact h2
  intro d
  induction d with
  | zero =>
    intro o ho
    have h := c_factor (dc := dc) hr hT (o := o) (by omega) (k := 3) (by decide) (sub := none) (fun _ => rfl) (fun h => by omega)
    exact ⟨h, ex 0 o h⟩
  | succ d ih =>
    intro o ho
    have h := c_factor (dc := dc) hr hT (o := o) (by omega) (k := 8 + 5 * d) (by omega) (sub := some (expB T (FAC T d))) (fun h => by omega) (fun _ => ⟨_, rfl, exp_PGl hT hN d, (ih (o + 1) (by omega)).2⟩)
    rw [show 8 + 5 * d + 1 = 4 + 5 * (d + 1) by omega] at h
    exact ⟨h, ex (d + 1) o h⟩
theorem c_pie_cnd (hr : RS r) (hT : TXT T N) (hN : N ≤ 160) : ∀ (d o : Nat), o + d = 6 → d ≤ 5 → CtR (mX6_piece (rmD (10 + 5 * d) 0 0)) [vI (o : Int)] (PIE T d) r dc T N ∧ CtR (mX6_chain (rmD (14 + 5 * d) 0 0)) [vI ((0 : Nat) : Int), vI (o : Int)] (cndB T (PIE T d)) r dc T N := by
  have ex : ∀ (d o : Nat), d ≤ 5 → CtR (mX6_piece (rmD (10 + 5 * d) 0 0)) [vI (o : Int)] (PIE T d) r dc T N → CtR (mX6_chain (rmD (14 + 5 * d) 0 0)) [vI ((0 : Nat) : Int), vI (o : Int)] (cndB T (PIE T d)) r dc T N := by
    intro d o hd h
    have h1 := c_chain hr hT (kind := 1) (by decide) (k := 10 + 5 * d + 1) (by omega) (mk := bJmp) rfl hN ((PIE_PG hT.1 hN d hd).mono (fun b h => h.1.1)) (c_operand1 h)
    have h0 := c_chain hr hT (kind := 0) (by decide) (k := 10 + 5 * d + 1 + 1 + 1) (by omega) (mk := bJmp) rfl hN (part_PGl hT hN d hd) (c_operand0 h1)
    rw [show 14 + 5 * d = 10 + 5 * d + 1 + 1 + 1 + 1 by omega]
    exact h0
  have cm : ∀ (d o : Nat), o + d = 6 → CtR (mX6_comparison (rmD (9 + 5 * d) 0 0)) [vI (o : Int)] (cmpB T (FAC T d)) r dc T N := by
    intro d o ho
    have h := c_comparison hr hT (k := 8 + 5 * d) (by omega) (exp_PGl hT hN d) (c_fac_exp (dc := dc) hr hT hN d o ho).2
    rw [show 8 + 5 * d + 1 = 9 + 5 * d by omega] at h
    exact h
  intro d
  induction d with
  | zero =>
    intro o ho hd
    have h := c_piece (dc := dc) hr hT (o := o) (by omega) (k := 9 + 5 * 0) (by decide) (sub := none) (cm 0 o ho) (fun _ => rfl) (fun h => by omega)
    exact ⟨h, ex 0 o hd h⟩
  | succ d ih =>
    intro o ho hd
    obtain ⟨i1, i2⟩ := ih (o + 1) (by omega) (by omega)
    have c1 := cm (d + 1) o ho
    rw [show 9 + 5 * (d + 1) = 14 + 5 * d by omega] at c1
    have h := c_piece (dc := dc) hr hT (o := o) (by omega) (k := 14 + 5 * d) (by omega) (sub := some (PIE T d)) c1 (fun h => by omega) (fun _ => ⟨_, 10 + 5 * d, rfl, by omega, (PIE_PG hT.1 hN d (by omega)).mono (fun b h => h.1.1), (cnd_PG hT.1 hN (PIE_PG hT.1 hN d (by omega))).mono (fun b h => h.1.1), i1, i2⟩)
    rw [show 14 + 5 * d + 1 = 10 + 5 * (d + 1) by omega] at h
    exact ⟨h, ex (d + 1) o hd h⟩
end RDC4
