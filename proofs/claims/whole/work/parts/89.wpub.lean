section WPUB
variable {g z : GG} {r : RR}
theorem p_grand (K : Nat → CUS) (H : WP g z r K) (c w : Int) : CT (mX11_grand (rmD 9 0 0)) 0 0 shW [vR (some 0), vI c, vI w] g z r (qZ shW r fun v g' z' => (¬ ((0 ≤ c ∧ c < g 5 5) ∧ 0 ≤ w ∧ w < 4) ∧ v = some (vI (-1)) ∧ g' = g ∧ z' = z) ∨ (((0 ≤ c ∧ c < g 5 5) ∧ 0 ≤ w ∧ w < 4) ∧ (vC g) 7 (c.toNat * 4 + w.toNat) ≠ -1 ∧ v = some (vI (bShl 1 ((vC g) 7 (c.toNat * 4 + w.toNat)))) ∧ g' = g ∧ z' = z) ∨ (((0 ≤ c ∧ c < g 5 5) ∧ 0 ≤ w ∧ w < 4) ∧ (vC g) 7 (c.toNat * 4 + w.toNat) = -1 ∧ SSt g z g' z' K ∧ ∃ le l, LeIs (WSg g K) le ∧ fam (vC g) c.toNat (fmS (vC g) le c.toNat) = some l ∧ v = some (vI (nfS (vC g) (ltS (vC g) K (g 30 1) (g 30 2) (g 30 3) c.toNat l) l w.toNat : Nat)))) := by
  have hr := H.1.1
  have hF := H.1.2.2.2.2.2.2.1
  have hC := H.1.2.2.2.2.2.1
  have hs := H.sbd
  refine CT.of 1 rfl rfl ?_
  by_cases hc : 0 ≤ c ∧ c < g 5 5
  rotate_left
  · refine R_aload_n dX11_grand_0 rfl ?_
    refine R_getR _ (hr _ _ _ rfl) fd11_0 kf11_10 rfl dX11_grand_1 ?_
    refine R_getR _ (hr _ _ _ rfl) fd0_1 kf11_91 rfl dX11_grand_4 ?_
    refine R_iload_n dX11_grand_7 rfl ?_
    refine R_callV (c_X1_has hr c) (mvX1_has _) kiX1_has kvX1_has km11_100 rfl rfl (by decide) ⟨rfl, rfl, by decide, by decide⟩ (Nat.le_of_ble_eq_true rfl) dX11_grand_8 (fun v1 sh1 g1 z1 r1 hq => ?_)
    obtain ⟨rfl, rfl, rfl, rfl, rfl⟩ := hq
    rw [b2i_f hc]
    refine R_if_eq 23 dX11_grand_11 (by decide) (fun hc11 => ?_) (fun hc11 => ?_)
    · refine R_iconst dX11_grand_23 rfl rfl ?_
      refine R_ireturn rfl (by first | rfl | exact nar_b2i | exact nar_bi) (by decide) (by decide) dX11_grand_24 ?_
      exact ⟨Or.inl ⟨fun q => hc q.1, rfl, rfl, rfl⟩, rfl, rfl⟩
    · exact absurd rfl hc11
  obtain ⟨cn, rfl⟩ : ∃ cn : Nat, c = (cn : Int) := ⟨c.toNat, by omega⟩
  refine R_aload_n dX11_grand_0 rfl ?_
  refine R_getR _ (hr _ _ _ rfl) fd11_0 kf11_10 rfl dX11_grand_1 ?_
  refine R_getR _ (hr _ _ _ rfl) fd0_1 kf11_91 rfl dX11_grand_4 ?_
  refine R_iload_n dX11_grand_7 rfl ?_
  refine R_callV (c_X1_has hr (cn : Int)) (mvX1_has _) kiX1_has kvX1_has km11_100 rfl rfl (by decide) ⟨rfl, rfl, by decide, by decide⟩ (Nat.le_of_ble_eq_true rfl) dX11_grand_8 (fun v1 sh1 g1 z1 r1 hq => ?_)
  obtain ⟨rfl, rfl, rfl, rfl, rfl⟩ := hq
  rw [b2i_t hc]
  refine R_if_eq 23 dX11_grand_11 (by decide) (fun hc11 => ?_) (fun hc11 => ?_)
  · exact absurd hc11 (by decide)
  refine R_iload_n dX11_grand_14 rfl ?_
  refine R_if_lt 23 dX11_grand_15 (by decide) (fun hc15 => ?_) (fun hc15 => ?_)
  · refine R_iconst dX11_grand_23 rfl rfl ?_
    refine R_ireturn rfl (by first | rfl | exact nar_b2i | exact nar_bi) (by decide) (by decide) dX11_grand_24 ?_
    exact ⟨Or.inl ⟨fun q => by omega, rfl, rfl, rfl⟩, rfl, rfl⟩
  refine R_iload_n dX11_grand_18 rfl ?_
  refine R_iconst dX11_grand_19 rfl rfl ?_
  refine R_icmp_lt 25 dX11_grand_20 (by decide) (fun hc20 => ?_) (fun hc20 => ?_)
  rotate_left
  · refine R_iconst dX11_grand_23 rfl rfl ?_
    refine R_ireturn rfl (by first | rfl | exact nar_b2i | exact nar_bi) (by decide) (by decide) dX11_grand_24 ?_
    exact ⟨Or.inl ⟨fun q => by omega, rfl, rfl, rfl⟩, rfl, rfl⟩
  obtain ⟨wn, rfl⟩ : ∃ wn : Nat, w = (wn : Int) := ⟨w.toNat, by omega⟩
  have hw : 0 ≤ (wn : Int) ∧ (wn : Int) < 4 := by omega
  have e7 : (vC g) 7 (cn * 4 + wn) = g 10 (cn * 4 + wn) := rfl
  refine R_aload_n dX11_grand_25 rfl ?_
  refine R_getR _ (hr _ _ _ rfl) fd11_0 kf11_10 rfl dX11_grand_26 ?_
  refine R_getR _ (hr _ _ _ rfl) fd0_1 kf11_91 rfl dX11_grand_29 ?_
  refine R_iload_n dX11_grand_32 rfl ?_
  refine R_iload_n dX11_grand_33 rfl ?_
  refine R_callV (c_X1_parentOf hr hC (cn : Int) (wn : Int)) (mvX1_parentOf _) kiX1_parentOf kvX1_parentOf km11_227 rfl rfl (by decide) ⟨rfl, rfl, by decide, by decide⟩ (Nat.le_of_ble_eq_true rfl) dX11_grand_34 (fun v1 sh1 g1 z1 r1 hq => ?_)
  obtain ⟨rfl, rfl, rfl, rfl, rfl⟩ := hq
  rw [if_pos (by omega), show ((cn : Int) * 4 + (wn : Int)).toNat = cn * 4 + wn by omega]
  simp only [Int.toNat_natCast]
  refine R_istore_n dX11_grand_37 (by decide) rfl [_, _, _, _] rfl ?_
  refine R_iload_n dX11_grand_38 rfl ?_
  refine R_iconst dX11_grand_39 rfl rfl ?_
  refine R_icmp_eq 47 dX11_grand_40 (by decide) (fun hc40 => ?_) (fun hc40 => ?_)
  rotate_left
  · refine R_iconst dX11_grand_43 rfl rfl ?_
    refine R_iload_n dX11_grand_44 rfl ?_
    refine R_ishl dX11_grand_45 ?_
    refine R_ireturn rfl (by first | rfl | exact nar_b2i | exact nar_bi) (by decide) (by decide) dX11_grand_46 ?_
    exact ⟨Or.inr (Or.inl ⟨⟨hc, hw⟩, hc40, rfl, rfl, rfl⟩), rfl, rfl⟩
  refine R_aload_n dX11_grand_47 rfl ?_
  refine R_getR _ (hr _ _ _ rfl) fd11_8 kf11_69 rfl dX11_grand_48 ?_
  refine R_aload_n dX11_grand_51 rfl ?_
  refine R_getR _ (hr _ _ _ rfl) fd11_4 kf11_41 rfl dX11_grand_52 ?_
  refine R_callV (c_settle K H) (mvX10_settle _) kiX10_settle kvX10_settle km11_202 rfl rfl (by decide) ⟨rfl, rfl, by decide, by decide⟩ (Nat.le_of_ble_eq_true rfl) dX11_grand_55 (fun v1 sh1 g1 z1 r1 hq => ?_)
  obtain ⟨⟨rfl, hst⟩, rfl, rfl⟩ := hq
  obtain ⟨le, co, e46, e47, hA, hL, hwh, H1, hne⟩ := hst.get H
  obtain ⟨l, hl⟩ := hL.fmly hs (c := cn) (show cn < (g 5 5).toNat by omega)
  have hlen := fam_len hl
  have hmem := fam_mem hl
  have e2 : (vC g) 0 2 = g 11 7 := rfl
  rw [e2] at hlen hmem
  refine R_aload_n dX11_grand_58 rfl ?_
  refine R_getR _ (hr _ _ _ rfl) fd11_6 kf11_53 rfl dX11_grand_59 ?_
  refine R_iload_n dX11_grand_62 rfl ?_
  refine R_aload_n dX11_grand_63 rfl ?_
  refine R_getR _ (hr _ _ _ rfl) fd11_8 kf11_69 rfl dX11_grand_64 ?_
  refine R_iload_n dX11_grand_67 rfl ?_
  refine R_callV (c_X10_familyOf hr H1.2.2.2.2.2.2.1 hwh le hA.2.2.1 e46 cn) (mvX10_familyOf _) kiX10_familyOf kvX10_familyOf km11_230 rfl rfl (by decide) ⟨rfl, rfl, by decide, by decide⟩ (Nat.le_of_ble_eq_true rfl) dX11_grand_68 (fun v1 sh1 g1 z1 r1 hq => ?_)
  obtain ⟨rfl, rfl, rfl, rfl, rfl⟩ := hq
  rw [hst.1.vC]
  refine R_aload_n dX11_grand_71 rfl ?_
  refine R_getR _ (hr _ _ _ rfl) fd11_4 kf11_41 rfl dX11_grand_72 ?_
  refine R_callV (c_X3_worth K H1 cn (fmS (vC g) le cn) (by rw [hst.1.at (by omega)]; omega) (fmS_lt hs) 30 (Or.inl rfl)) (mvX3_worth _) kiX3_worth kvX3_worth km11_172 rfl rfl (by decide) ⟨rfl, rfl, by decide, by decide⟩ (Nat.le_of_ble_eq_true rfl) dX11_grand_75 (fun v1 sh1 g2 z2 r1 hq => ?_)
  obtain ⟨⟨s2, o3⟩, rfl, rfl, rfl⟩ := hq
  rw [hst.1.vC, hst.1.at (c := 30) (by omega), hl] at o3
  rcases o3 with ⟨l', hl', rfl, hask⟩ | ⟨hno, -⟩
  · cases hl'
    have hst2 := hst.sc s2
    obtain ⟨-, -, hB, hB2, hN, -, -, -, -⟩ := H1.cong s2
    refine R_pop dX11_grand_78 (fun _ h => by cases h) ?_
    refine R_aload_n dX11_grand_79 rfl ?_
    refine R_getR _ (hr _ _ _ rfl) fd11_6 kf11_53 rfl dX11_grand_80 ?_
    refine R_iload_n dX11_grand_83 rfl ?_
    refine R_callV (c_X3_namesFor hr hB hB2 hN l hask.1 (fun a ha => by have := hmem a ha; omega) (by omega) wn (by omega)) (mvX3_namesFor _) kiX3_namesFor kvX3_namesFor km11_233 rfl rfl (by decide) ⟨rfl, rfl, by decide, by decide⟩ (Nat.le_of_ble_eq_true rfl) dX11_grand_84 (fun v1 sh1 g3 z3 r1 hq => ?_)
    obtain ⟨rfl, rfl, rfl, rfl, rfl⟩ := hq
    rw [hst2.1.vC, nfS_cong (fun j hj => (hask.2.2.1 j hj).1)]
    refine R_ireturn rfl (by first | rfl | exact nar_b2i | exact nar_bi) (by decide) (by decide) dX11_grand_87 ?_
    exact ⟨Or.inr (Or.inr ⟨⟨hc, hw⟩, hc40, hst2, le, l, hL, hl, rfl⟩), rfl, rfl⟩
  · cases hno
theorem c_fewer (K : Nat → CUS) (H : FP g r K) (hA : 0 ≤ g 1 4 ∧ g 1 4 ≤ 1000) (hwh : whS (vC g) < 1024) (le : Nat) (hle : le < 2 ^ 30) (h46 : g 46 (whS (vC g)) = (le : Int)) (i c : Nat) (hi : (i : Int) < g 11 7) (hc : (c : Int) < g 5 5) (hfc : fld le i = c) (l : List Nat) (hl : fam (vC g) c (fmS (vC g) le c) = some l) : CT (mX11_fewerWithout (rmD 6 0 0)) 0 0 shW [vR (some 0), vI (i : Int), vI (c : Int)] g z r (qG shW z r fun v g' => SC g g' ∧ v = some (vI (ptF (vC g) K (g 30 1) (g 30 2) (g 30 3) c (fmS (vC g) le c) - ptF (vC g) K (g 30 1) (g 30 2) (g 30 3) c (fmS (vC g) le c ^^^ 2 ^ i) + g 1 4))) := by
  have hr := H.1
  have hF := H.2.2.2.2.2.2.1
  have hC := H.2.2.2.2.2.1
  have hs := H.sbd hA (g 30 1) (g 30 2) (g 30 3)
  have hbit : (fmS (vC g) le c).testBit i = true := fmS_bit (show i < (g 11 7).toNat by omega) hfc
  have hflt := fmS_lt hs (le := le) (c := c)
  have hlen := fam_len hl
  have e2 : (vC g) 0 2 = g 11 7 := rfl
  rw [e2] at hlen
  have hsub : 2 ^ i &&& fmS (vC g) le c = 2 ^ i := by
    rw [sub_bit]
    intro j hj
    rw [Nat.testBit_two_pow, decide_eq_true_eq] at hj
    rw [← hj]; exact hbit
  have hsub2 : (fmS (vC g) le c ^^^ 2 ^ i) &&& fmS (vC g) le c = fmS (vC g) le c ^^^ 2 ^ i := by
    rw [sub_bit]
    intro j hj
    rw [xor_sub hsub, Bool.and_eq_true] at hj
    exact hj.1
  obtain ⟨l2, hl2⟩ := fam_sub hsub2 hl
  have hlen2 := fam_len hl2
  rw [e2] at hlen2
  have hb1 := hs.2.2.2 c l (by omega)
  have hb2 := hs.2.2.2 c l2 (by omega)
  unfold ptF
  rw [hl, hl2]
  show CT _ _ _ _ _ _ _ _ (qG shW z r fun v g' => SC g g' ∧ v = some (vI (ptS (vC g) K (g 30 1) (g 30 2) (g 30 3) c l - ptS (vC g) K (g 30 1) (g 30 2) (g 30 3) c l2 + g 1 4)))
  refine CT.of 2 rfl rfl ?_
  refine R_aload_n dX11_fewerWithout_0 rfl ?_
  refine R_getR _ (hr _ _ _ rfl) fd11_8 kf11_69 rfl dX11_fewerWithout_1 ?_
  refine R_iload_n dX11_fewerWithout_4 rfl ?_
  refine R_callV (c_X10_familyOf hr hF hwh le hle h46 c) (mvX10_familyOf _) kiX10_familyOf kvX10_familyOf km11_230 rfl rfl (by decide) ⟨rfl, rfl, by decide, by decide⟩ (Nat.le_of_ble_eq_true rfl) dX11_fewerWithout_5 (fun v1 sh1 g1 z1 r1 hq => ?_)
  obtain ⟨rfl, rfl, rfl, rfl, rfl⟩ := hq
  generalize hse : fmS (vC g) le c = set at *
  refine R_istore_n dX11_fewerWithout_8 (by decide) rfl [_, _, _, _, _] rfl ?_
  refine R_aload_n dX11_fewerWithout_9 rfl ?_
  refine R_getR _ (hr _ _ _ rfl) fd11_6 kf11_53 rfl dX11_fewerWithout_10 ?_
  refine R_iload_n dX11_fewerWithout_13 rfl ?_
  refine R_iload_n dX11_fewerWithout_14 rfl ?_
  refine R_aload_n dX11_fewerWithout_15 rfl ?_
  refine R_getR _ (hr _ _ _ rfl) fd11_4 kf11_41 rfl dX11_fewerWithout_16 ?_
  refine R_callV (c_X3_worth K H c set hc hflt 30 (Or.inl rfl)) (mvX3_worth _) kiX3_worth kvX3_worth km11_172 rfl rfl (by decide) ⟨rfl, rfl, by decide, by decide⟩ (Nat.le_of_ble_eq_true rfl) dX11_fewerWithout_19 (fun v1 sh1 g1 z1 r1 hq => ?_)
  obtain ⟨⟨s1, o3⟩, rfl, rfl, rfl⟩ := hq
  rw [hl] at o3
  rcases o3 with ⟨l', hl', rfl, -⟩ | ⟨hno, -⟩
  rotate_left
  · cases hno
  cases hl'
  refine R_istore dX11_fewerWithout_22 (by decide) rfl [_, _, _, _, _] rfl ?_
  refine R_iload dX11_fewerWithout_24 rfl ?_
  refine R_aload_n dX11_fewerWithout_26 rfl ?_
  refine R_getR _ (hr _ _ _ rfl) fd11_6 kf11_53 rfl dX11_fewerWithout_27 ?_
  refine R_iload_n dX11_fewerWithout_30 rfl ?_
  refine R_iload_n dX11_fewerWithout_31 rfl ?_
  refine R_iconst dX11_fewerWithout_32 rfl rfl ?_
  refine R_iload_n dX11_fewerWithout_33 rfl ?_
  refine R_ishl dX11_fewerWithout_34 ?_
  refine R_iconst dX11_fewerWithout_35 rfl rfl ?_
  refine R_ixor dX11_fewerWithout_36 ?_
  refine R_iand dX11_fewerWithout_37 ?_
  rw [bShl_1 (by omega), and_not (by omega) hsub]
  refine R_aload_n dX11_fewerWithout_38 rfl ?_
  refine R_getR _ (hr _ _ _ rfl) fd11_4 kf11_41 rfl dX11_fewerWithout_39 ?_
  refine R_callV (c_X3_worth K (H.cong s1) c (set ^^^ 2 ^ i) (by rw [s1 5 (by unfold stc; omega) (by omega)]; exact hc) (Nat.lt_of_le_of_lt (sub_le hsub2) hflt) 30 (Or.inl rfl)) (mvX3_worth _) kiX3_worth kvX3_worth km11_172 rfl rfl (by decide) ⟨rfl, rfl, by decide, by decide⟩ (Nat.le_of_ble_eq_true rfl) dX11_fewerWithout_42 (fun v1 sh1 g2 z2 r1 hq => ?_)
  obtain ⟨⟨s2, o3⟩, rfl, rfl, rfl⟩ := hq
  rw [s1.vC, s1 30 (by unfold stc; omega) (by omega), hl2] at o3
  rcases o3 with ⟨l', hl', rfl, -⟩ | ⟨hno, -⟩
  rotate_left
  · cases hno
  cases hl'
  have s3 := s1.trans s2
  refine R_isubN dX11_fewerWithout_45 (by unfold inI; omega) ?_
  refine R_aload_n dX11_fewerWithout_46 rfl ?_
  refine R_getR _ (hr _ _ _ rfl) fd11_0 kf11_10 rfl dX11_fewerWithout_47 ?_
  refine R_getI fd0_4 kf11_131 rfl dX11_fewerWithout_50 ?_
  rw [s3 1 (by unfold stc; omega) (by omega)]
  refine R_iaddN dX11_fewerWithout_53 (by unfold inI; omega) ?_
  refine R_ireturn rfl (by first | rfl | exact nar_b2i | exact nar_bi) (by decide) (by decide) dX11_fewerWithout_54 ?_
  exact ⟨⟨s3, rfl⟩, rfl, rfl, rfl⟩
theorem p_little (K : Nat → CUS) (H : WP g z r K) (m : Int) : CT (mX11_little (rmD 9 0 0)) 0 0 shW [vR (some 0), vI m] g z r (qZ shW r fun v g' z' => (¬ (0 ≤ m ∧ m ≤ 1000) ∧ v = some (vI (-1)) ∧ g' = g ∧ z' = z) ∨ ((0 ≤ m ∧ m ≤ 1000) ∧ SSt g z g' z' K ∧ ∃ le, LeIs (WSg g K) le ∧ v = some (vI (bitU (litS (vC g) K (g 30 1) (g 30 2) (g 30 3) le m) (g 11 7).toNat : Nat)))) := by
  have hr := H.1.1
  have hF := H.1.2.2.2.2.2.2.1
  have hC := H.1.2.2.2.2.2.1
  have hs := H.sbd
  refine CT.of 3 rfl rfl ?_
  generalize hQ : (qZ shW r fun v g' z' => (¬ (0 ≤ m ∧ m ≤ 1000) ∧ v = some (vI (-1)) ∧ g' = g ∧ z' = z) ∨ ((0 ≤ m ∧ m ≤ 1000) ∧ SSt g z g' z' K ∧ ∃ le, LeIs (WSg g K) le ∧ v = some (vI (bitU (litS (vC g) K (g 30 1) (g 30 2) (g 30 3) le m) (g 11 7).toNat : Nat)))) = Q
  have loop : ∀ (le : Nat), LeIs (WSg g K) le → (0 ≤ m ∧ m ≤ 1000) → ∀ (n i : Nat) (g1 z1 : GG), (i : Int) + n = g 11 7 → SSt g z g1 z1 K → g1 46 (whS (vC g1)) = (le : Int) → RJ (mX11_little (rmD 9 0 0)) 0 0 shW.length Q 0 0 shW 28 [some (vR (some 0)), some (vI (m)), some (vI ((bitU (litS (vC g) K (g 30 1) (g 30 2) (g 30 3) le m) i : Nat))), some (vI ((i : Int))), none] [] g1 z1 r := by
    intro le hL hm n
    induction n with
    | zero =>
      intro i g1 z1 hi hst h46
      refine R_iload_n dX11_little_28 rfl ?_
      refine R_aload_n dX11_little_29 rfl ?_
      refine R_getR _ (hr _ _ _ rfl) fd11_0 kf11_10 rfl dX11_little_30 ?_
      refine R_getR _ (hr _ _ _ rfl) fd0_2 kf11_111 rfl dX11_little_33 ?_
      refine R_getI fd4_7 kf11_240 rfl dX11_little_36 ?_
      rw [hst.1.at (by omega)]
      refine R_icmp_ge 82 dX11_little_39 (by decide) (fun hc39 => ?_) (fun hc39 => ?_)
      · refine R_iload_n dX11_little_82 rfl ?_
        refine R_ireturn rfl (by first | rfl | exact nar_b2i | exact nar_bi) (by decide) (by decide) dX11_little_83 ?_
        rw [← hQ]
        exact ⟨Or.inr ⟨hm, hst, le, hL, by rw [show (g 11 7).toNat = i by omega]⟩, rfl, rfl⟩
      · exact absurd (by omega) hc39
    | succ n ih =>
      intro i g1 z1 hi hst h46
      have hn := fun g1 z1 => ih (i + 1) g1 z1 (by omega)
      rw [bitU] at hn
      have hcol := hL.col hs (i := i) (show i < (g 11 7).toNat by omega)
      have eC : ((vC g) 0 1).toNat = (g 5 5).toNat := rfl
      rw [eC] at hcol
      have hlt := bitU_lt (f := litS (vC g) K (g 30 1) (g 30 2) (g 30 3) le m) i
      have hp : 2 ^ i < 1024 := Nat.pow_lt_pow_right (n := 10) (by decide) (by omega)
      have H1 := H.1.congW hst.1
      have hwh1 : whS (vC g1) < 1024 := by rw [hst.1.vC]; exact whS_lt hs
      generalize hbe : bitU (litS (vC g) K (g 30 1) (g 30 2) (g 30 3) le m) i = bb at *
      refine R_iload_n dX11_little_28 rfl ?_
      refine R_aload_n dX11_little_29 rfl ?_
      refine R_getR _ (hr _ _ _ rfl) fd11_0 kf11_10 rfl dX11_little_30 ?_
      refine R_getR _ (hr _ _ _ rfl) fd0_2 kf11_111 rfl dX11_little_33 ?_
      refine R_getI fd4_7 kf11_240 rfl dX11_little_36 ?_
      rw [hst.1.at (by omega)]
      refine R_icmp_ge 82 dX11_little_39 (by decide) (fun hc39 => ?_) (fun hc39 => ?_)
      · exact absurd hc39 (by omega)
      refine R_aload_n dX11_little_42 rfl ?_
      refine R_getR _ (hr _ _ _ rfl) fd11_8 kf11_69 rfl dX11_little_43 ?_
      refine R_iload_n dX11_little_46 rfl ?_
      refine R_callV (c_X10_coupleOf hr H1.2.2.2.2.2.2.1 hwh1 le hcol.1 h46 i (by omega)) (mvX10_coupleOf _) kiX10_coupleOf kvX10_coupleOf km11_206 rfl rfl (by decide) ⟨rfl, rfl, by decide, by decide⟩ (Nat.le_of_ble_eq_true rfl) dX11_little_47 (fun v1 sh1 g1 z1 r1 hq => ?_)
      obtain ⟨rfl, rfl, rfl, rfl, rfl⟩ := hq
      refine R_istore dX11_little_50 (by decide) rfl [_, _, _, _, _] rfl ?_
      refine R_iload dX11_little_52 rfl ?_
      refine R_bipush dX11_little_54 rfl (by decide +kernel) ?_
      refine R_icmp_eq 76 dX11_little_56 (by decide) (fun hc56 => ?_) (fun hc56 => ?_)
      · have hf6 : fld le i = 6 := by omega
        have hlit : litS (vC g) K (g 30 1) (g 30 2) (g 30 3) le m i = false := by unfold litS; rw [hf6]; rfl
        rw [hlit, if_neg (by decide)] at hn
        refine RJ.msk [true, true, true, true, false] _ rfl ?_
        refine R_iincN dX11_little_76 rfl (by decide) rfl (by unfold inI; omega) [_, _, _, _, _] rfl ?_
        refine R_goto 28 dX11_little_79 (by decide) ?_
        exact hn g1 z1 hst h46
      · have hf6 : fld le i ≠ 6 := fun e => hc56 (by omega)
        have hcc : fld le i < (g 5 5).toNat := by rcases hcol.2 with e | e; exact absurd e hf6; exact e
        obtain ⟨l, hl⟩ := hL.fmly hs (c := fld le i) hcc
        refine R_aload_n dX11_little_59 rfl ?_
        refine R_iload_n dX11_little_60 rfl ?_
        refine R_iload dX11_little_61 rfl ?_
        refine R_callV (c_fewer K H1 (by rw [hst.1.at (by omega)]; exact H.2.1) hwh1 le hcol.1 h46 i (fld le i) (by rw [hst.1.at (by omega)]; omega) (by rw [hst.1.at (by omega)]; omega) rfl l (by rw [hst.1.vC]; exact hl)) (mvX11_fewerWithout _) kiX11_fewerWithout kvX11_fewerWithout km11_266 rfl rfl (by decide) ⟨rfl, rfl, by decide, by decide⟩ (Nat.le_of_ble_eq_true rfl) dX11_little_63 (fun v1 sh1 g2 z2 r1 hq => ?_)
        obtain ⟨⟨s2, rfl⟩, rfl, rfl, rfl⟩ := hq
        rw [hst.1.vC, hst.1.at (c := 30) (by omega), hst.1.at (c := 1) (by omega)]
        have hst2 := hst.sc s2
        have h46' : g2 46 (whS (vC g2)) = (le : Int) := by rw [s2.vC, s2 46 (by unfold stc; omega) (by omega)]; exact h46
        refine R_iload_n dX11_little_66 rfl ?_
        refine R_icmp_ge 76 dX11_little_67 (by decide) (fun hc67 => ?_) (fun hc67 => ?_)
        · have hlit : litS (vC g) K (g 30 1) (g 30 2) (g 30 3) le m i = false := by
            unfold litS
            rw [decide_eq_true hf6, Bool.true_and, decide_eq_false_iff_not]
            exact fun q => Int.not_lt.mpr hc67 q
          rw [hlit, if_neg (by decide)] at hn
          refine RJ.msk [true, true, true, true, false] _ rfl ?_
          refine R_iincN dX11_little_76 rfl (by decide) rfl (by unfold inI; omega) [_, _, _, _, _] rfl ?_
          refine R_goto 28 dX11_little_79 (by decide) ?_
          exact hn _ _ hst2 h46'
        · have hlit : litS (vC g) K (g 30 1) (g 30 2) (g 30 3) le m i = true := by
            unfold litS
            rw [decide_eq_true hf6, Bool.true_and, decide_eq_true_eq]
            exact Int.not_le.mp hc67
          rw [hlit, if_pos rfl] at hn
          refine R_iload_n dX11_little_70 rfl ?_
          refine R_iconst dX11_little_71 rfl rfl ?_
          refine R_iload_n dX11_little_72 rfl ?_
          refine R_ishl dX11_little_73 ?_
          refine R_ior dX11_little_74 ?_
          rw [or_bit (by omega) (by omega)]
          refine RJ.msk [true, true, true, true, false] _ rfl ?_
          refine R_istore_n dX11_little_75 (by decide) rfl [_, _, _, _, _] rfl ?_
          refine R_iincN dX11_little_76 rfl (by decide) rfl (by unfold inI; omega) [_, _, _, _, _] rfl ?_
          refine R_goto 28 dX11_little_79 (by decide) ?_
          exact hn _ _ hst2 h46'
  refine R_iload_n dX11_little_0 rfl ?_
  refine R_if_lt 11 dX11_little_1 (by decide) (fun hc1 => ?_) (fun hc1 => ?_)
  · refine R_iconst dX11_little_11 rfl rfl ?_
    refine R_ireturn rfl (by first | rfl | exact nar_b2i | exact nar_bi) (by decide) (by decide) dX11_little_12 ?_
    rw [← hQ]
    exact ⟨Or.inl ⟨by omega, rfl, rfl, rfl⟩, rfl, rfl⟩
  refine R_iload_n dX11_little_4 rfl ?_
  refine R_sipush dX11_little_5 rfl (by decide +kernel) ?_
  refine R_icmp_le 13 dX11_little_8 (by decide) (fun hc8 => ?_) (fun hc8 => ?_)
  rotate_left
  · refine R_iconst dX11_little_11 rfl rfl ?_
    refine R_ireturn rfl (by first | rfl | exact nar_b2i | exact nar_bi) (by decide) (by decide) dX11_little_12 ?_
    rw [← hQ]
    exact ⟨Or.inl ⟨by omega, rfl, rfl, rfl⟩, rfl, rfl⟩
  refine R_aload_n dX11_little_13 rfl ?_
  refine R_getR _ (hr _ _ _ rfl) fd11_8 kf11_69 rfl dX11_little_14 ?_
  refine R_aload_n dX11_little_17 rfl ?_
  refine R_getR _ (hr _ _ _ rfl) fd11_4 kf11_41 rfl dX11_little_18 ?_
  refine R_callV (c_settle K H) (mvX10_settle _) kiX10_settle kvX10_settle km11_202 rfl rfl (by decide) ⟨rfl, rfl, by decide, by decide⟩ (Nat.le_of_ble_eq_true rfl) dX11_little_21 (fun v1 sh1 g1 z1 r1 hq => ?_)
  obtain ⟨⟨rfl, hst⟩, rfl, rfl⟩ := hq
  obtain ⟨le, co, e46, e47, hA, hL, hwh, H1, hne⟩ := hst.get H
  refine R_iconst dX11_little_24 rfl rfl ?_
  refine R_istore_n dX11_little_25 (by decide) rfl [_, _, _, _, _] rfl ?_
  refine R_iconst dX11_little_26 rfl rfl ?_
  refine R_istore_n dX11_little_27 (by decide) rfl [_, _, _, _, _] rfl ?_
  exact loop le hL (by omega) (g 11 7).toNat 0 _ _ (by omega) hst e46
theorem p_check (K : Nat → CUS) (H : WP g z r K) (hT8 : 0 ≤ g 19 1 ∧ g 19 1 ≤ 200) : CT (mX11_check (rmD 9 0 0)) 0 0 shW [vR (some 0)] g z r (qZ shW r fun v g' z' => (g 19 1 < g 11 7 ∧ v = some (vI (-2)) ∧ g' = g ∧ z' = z) ∨ (¬ g 19 1 < g 11 7 ∧ ∃ g1, SSt g z g1 z' K ∧ g' = up2 g1 19 1 0 ∧ ∃ le, LeIs (WSg g K) le ∧ v = some (vI (chkS (g 20) le 0 (g 11 7).toNat)))) := by
  have hr := H.1.1
  have hF := H.1.2.2.2.2.2.2.1
  have hs := H.sbd
  refine CT.of 3 rfl rfl ?_
  generalize hQ : (qZ shW r fun v g' z' => (g 19 1 < g 11 7 ∧ v = some (vI (-2)) ∧ g' = g ∧ z' = z) ∨ (¬ g 19 1 < g 11 7 ∧ ∃ g1, SSt g z g1 z' K ∧ g' = up2 g1 19 1 0 ∧ ∃ le, LeIs (WSg g K) le ∧ v = some (vI (chkS (g 20) le 0 (g 11 7).toNat)))) = Q
  have loop : ¬ g 19 1 < g 11 7 → ∀ (le : Nat), LeIs (WSg g K) le → le < 2 ^ 30 → ∀ (g1 z1 : GG), SSt g z g1 z1 K → g1 46 (whS (vC g1)) = (le : Int) → ∀ (m n : Nat) (x : Int), x = (m : Int) - 1 → (m : Int) + n = g 11 7 → RJ (mX11_check (rmD 9 0 0)) 0 0 shW.length Q 0 0 shW 42 [some (vR (some 0)), some (vI (g 11 7)), some (vI (chkS (g 20) le m n)), some (vI (x))] [] g1 z1 r := by
    intro hnt le hL hle g1 z1 hst h46 m
    have H1 := H.1.congW hst.1
    have hwh1 : whS (vC g1) < 1024 := by rw [hst.1.vC]; exact whS_lt hs
    induction m with
    | zero =>
      intro n x hx hmn
      refine R_iload_n dX11_check_42 rfl ?_
      refine R_if_lt 73 dX11_check_43 (by decide) (fun hc43 => ?_) (fun hc43 => ?_)
      · refine R_aload_n dX11_check_73 rfl ?_
        refine R_getR _ (hr _ _ _ rfl) fd11_1 kf11_19 rfl dX11_check_74 ?_
        refine R_callV (c_X8_clear) (mvX8_clear _) kiX8_clear kvX8_clear km11_149 rfl rfl (by decide) ⟨rfl, rfl, by decide, by decide⟩ (Nat.le_of_ble_eq_true rfl) dX11_check_77 (fun v1 sh1 g1 z1 r1 hq => ?_)
        obtain ⟨⟨rfl, rfl⟩, rfl, rfl, rfl⟩ := hq
        refine R_iload_n dX11_check_80 rfl ?_
        refine R_ireturn rfl (by first | rfl | exact nar_b2i | exact nar_bi) (by decide) (by decide) dX11_check_81 ?_
        rw [← hQ]
        exact ⟨Or.inr ⟨hnt, g1, hst, rfl, le, hL, by rw [show (g 11 7).toNat = n by omega]⟩, rfl, rfl⟩
      · exact absurd (by omega) hc43
    | succ m ih =>
      intro n x hx hmn
      have hx : x = (m : Int) := by omega
      subst hx
      have hn := fun x => ih (n + 1) x
      have hck : chkS (g 20) le m (n + 1) = if g 20 m ≠ (fld le m : Int) then (m : Int) else chkS (g 20) le (m + 1) n := by
        unfold chkS
        rw [List.range'_succ, List.find?_cons]
        by_cases h : g 20 m ≠ (fld le m : Int)
        · rw [decide_eq_true h, if_pos h]
        · rw [decide_eq_false h, if_neg h]
      refine R_iload_n dX11_check_42 rfl ?_
      refine R_if_lt 73 dX11_check_43 (by decide) (fun hc43 => ?_) (fun hc43 => ?_)
      · exact absurd hc43 (by omega)
      refine R_aload_n dX11_check_46 rfl ?_
      refine R_getR _ (hr _ _ _ rfl) fd11_1 kf11_19 rfl dX11_check_47 ?_
      refine R_iload_n dX11_check_50 rfl ?_
      refine R_callV (c_X8_at hr (by rw [hst.1.at (by omega)]; exact hT8) (m : Int) (by rw [hst.1.at (by omega)]; omega)) (mvX8_at _) kiX8_at kvX8_at km11_269 rfl rfl (by decide) ⟨rfl, rfl, by decide, by decide⟩ (Nat.le_of_ble_eq_true rfl) dX11_check_51 (fun v1 sh1 g1 z1 r1 hq => ?_)
      obtain ⟨rfl, rfl, rfl, rfl, rfl⟩ := hq
      rw [Int.toNat_natCast, hst.1.at (c := 20) (by omega)]
      refine R_aload_n dX11_check_54 rfl ?_
      refine R_getR _ (hr _ _ _ rfl) fd11_8 kf11_69 rfl dX11_check_55 ?_
      refine R_iload_n dX11_check_58 rfl ?_
      refine R_callV (c_X10_coupleOf hr H1.2.2.2.2.2.2.1 hwh1 le hle h46 m (by omega)) (mvX10_coupleOf _) kiX10_coupleOf kvX10_coupleOf km11_206 rfl rfl (by decide) ⟨rfl, rfl, by decide, by decide⟩ (Nat.le_of_ble_eq_true rfl) dX11_check_59 (fun v1 sh1 g1 z1 r1 hq => ?_)
      obtain ⟨rfl, rfl, rfl, rfl, rfl⟩ := hq
      refine R_icmp_eq 67 dX11_check_62 (by decide) (fun hc62 => ?_) (fun hc62 => ?_)
      · rw [if_neg (fun q => q hc62)] at hck
        rw [← hck]
        refine R_iincN dX11_check_67 rfl (by decide) rfl (by unfold inI; omega) [_, _, _, _] rfl ?_
        refine R_goto 42 dX11_check_70 (by decide) ?_
        exact hn _ (by omega) (by omega)
      · rw [if_pos hc62] at hck
        refine R_iload_n dX11_check_65 rfl ?_
        refine R_istore_n dX11_check_66 (by decide) rfl [_, _, _, _] rfl ?_
        rw [← hck]
        refine R_iincN dX11_check_67 rfl (by decide) rfl (by unfold inI; omega) [_, _, _, _] rfl ?_
        refine R_goto 42 dX11_check_70 (by decide) ?_
        exact hn _ (by omega) (by omega)
  refine R_aload_n dX11_check_0 rfl ?_
  refine R_getR _ (hr _ _ _ rfl) fd11_0 kf11_10 rfl dX11_check_1 ?_
  refine R_getR _ (hr _ _ _ rfl) fd0_2 kf11_111 rfl dX11_check_4 ?_
  refine R_getI fd4_7 kf11_240 rfl dX11_check_7 ?_
  refine R_istore_n dX11_check_10 (by decide) rfl [_, _, _, _] rfl ?_
  refine R_aload_n dX11_check_11 rfl ?_
  refine R_getR _ (hr _ _ _ rfl) fd11_1 kf11_19 rfl dX11_check_12 ?_
  refine R_getI fd8_1 kf11_142 rfl dX11_check_15 ?_
  refine R_iload_n dX11_check_18 rfl ?_
  refine R_icmp_ge 25 dX11_check_19 (by decide) (fun hc19 => ?_) (fun hc19 => ?_)
  rotate_left
  · refine R_bipush dX11_check_22 rfl (by decide +kernel) ?_
    refine R_ireturn rfl (by first | rfl | exact nar_b2i | exact nar_bi) (by decide) (by decide) dX11_check_24 ?_
    rw [← hQ]
    exact ⟨Or.inl ⟨by omega, rfl, rfl, rfl⟩, rfl, rfl⟩
  refine R_aload_n dX11_check_25 rfl ?_
  refine R_getR _ (hr _ _ _ rfl) fd11_8 kf11_69 rfl dX11_check_26 ?_
  refine R_aload_n dX11_check_29 rfl ?_
  refine R_getR _ (hr _ _ _ rfl) fd11_4 kf11_41 rfl dX11_check_30 ?_
  refine R_callV (c_settle K H) (mvX10_settle _) kiX10_settle kvX10_settle km11_202 rfl rfl (by decide) ⟨rfl, rfl, by decide, by decide⟩ (Nat.le_of_ble_eq_true rfl) dX11_check_33 (fun v1 sh1 g1 z1 r1 hq => ?_)
  obtain ⟨⟨rfl, hst⟩, rfl, rfl⟩ := hq
  obtain ⟨le, co, e46, e47, hA, hL, hwh, H1, hne⟩ := hst.get H
  refine R_iconst dX11_check_36 rfl rfl ?_
  refine R_istore_n dX11_check_37 (by decide) rfl [_, _, _, _] rfl ?_
  refine R_iload_n dX11_check_38 rfl ?_
  refine R_iconst dX11_check_39 rfl rfl ?_
  refine R_isubN dX11_check_40 (by unfold inI; omega) ?_
  refine R_istore_n dX11_check_41 (by decide) rfl [_, _, _, _] rfl ?_
  have := loop (by omega) le hL hA.2.2.1 _ _ hst e46 (g 11 7).toNat 0 (g 11 7 - 1) (by omega) (by omega)
  exact this
end WPUB
