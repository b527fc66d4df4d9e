def okCS (s : VW) (c set : Int) : Prop := 0 ≤ c ∧ c < s 0 1 ∧ 0 ≤ set ∧ set < 2 ^ (s 0 2).toNat
theorem okCS_n {s : VW} {c set : Int} (hF : 0 ≤ s 0 2 ∧ s 0 2 ≤ 10) (h : okCS s c set) : ∃ (cn sn : Nat), c = (cn : Int) ∧ set = (sn : Int) ∧ (cn : Int) < s 0 1 ∧ sn < 2 ^ (s 0 2).toNat ∧ sn < 1024 := by
  obtain ⟨h1, h2, h3, h4⟩ := h
  refine ⟨c.toNat, set.toNat, by omega, by omega, by omega, ?_, ?_⟩
  · have : ((set.toNat : Nat) : Int) < ((2 ^ (s 0 2).toNat : Nat) : Int) := by
      rw [Int.toNat_of_nonneg h3]
      simpa using h4
    exact Int.ofNat_lt.mp this
  · have h5 : (2 : Nat) ^ (s 0 2).toNat ≤ 2 ^ 10 := Nat.pow_le_pow_right (by decide) (by omega)
    have : ((set.toNat : Nat) : Int) < ((2 ^ (s 0 2).toNat : Nat) : Int) := by
      rw [Int.toNat_of_nonneg h3]
      simpa using h4
    have := Int.ofNat_lt.mp this
    omega
section PUB4
variable {g z : GG} {r : RR}
theorem p_family (K : Nat → CUS) (H : FP g r K) (c set : Int) : CT (mX11_family (rmD 8 0 0)) 0 0 shW [vR (some 0), vI c, vI set] g z r (qG shW z r fun v g' => SC g g' ∧ ((okCS (vC g) c set ∧ v = some (vI (bi (fam (vC g) c.toNat set.toNat).isSome))) ∨ (¬ okCS (vC g) c set ∧ v = some (vI (-1))))) := by
  obtain ⟨hr, hT, hB, hB2, hN, hC5, hF, ho, hK⟩ := id H
  refine CT.of 0 rfl rfl ?_
  refine R_aload_n dX11_family_0 rfl ?_
  refine R_getR _ (hr _ _ _ rfl) fd11_0 kf11_10 rfl dX11_family_1 ?_
  refine R_iload_n dX11_family_4 rfl ?_
  refine R_iload_n dX11_family_5 rfl ?_
  refine R_callV (c_X0_knows hr hF c set) (mvX0_knows _) kiX0_knows kvX0_knows km11_166 rfl rfl (by decide) ⟨rfl, rfl, by decide, by decide⟩ (Nat.le_of_ble_eq_true rfl) dX11_family_6 (fun v1 sh1 g1 z1 r1 hq => ?_)
  obtain ⟨rfl, rfl, rfl, rfl, rfl⟩ := hq
  refine R_if_ne 14 dX11_family_9 (by decide) (fun hc9 => ?_) (fun hc9 => ?_)
  · try simp only [b2i_z, bi_z, ne_eq, Classical.not_not] at hc9
    have hok : okCS (vC g) c set := hc9
    obtain ⟨cn, sn, rfl, rfl, h3, h4, h5⟩ := okCS_n (s := vC g) hF hok
    refine R_aload_n dX11_family_14 rfl ?_
    refine R_getR _ (hr _ _ _ rfl) fd11_6 kf11_53 rfl dX11_family_15 ?_
    refine R_iload_n dX11_family_18 rfl ?_
    refine R_iload_n dX11_family_19 rfl ?_
    have h3' : (cn : Int) < g 5 5 := h3
    refine R_callV (c_X3_gather hr hC5 hF ho (fun j _ => hB.1 j) cn sn (by omega) h5) (mvX3_gather _) kiX3_gather kvX3_gather km11_169 rfl rfl (by decide) ⟨rfl, rfl, by decide, by decide⟩ (Nat.le_of_ble_eq_true rfl) dX11_family_20 (fun v1 sh1 g1 z1 r1 hq => ?_)
    obtain ⟨⟨o1, o2, o3⟩, rfl, rfl, rfl⟩ := hq
    have s1 : SC g g1 := fun c' a b => o1 c' (by omega) (by omega)
    rcases o3 with ⟨l, hfam, rfl, hl⟩ | ⟨hfam, rfl⟩
    · refine R_if_eq 30 dX11_family_23 (by decide) (fun hc23 => ?_) (fun hc23 => ?_)
      · exact absurd hc23 (by decide)
      refine R_iconst dX11_family_26 rfl rfl ?_
      refine R_goto 31 dX11_family_27 (by decide) ?_
      refine R_ireturn rfl (by first | rfl | exact nar_b2i | exact nar_bi) (by decide) (by decide) dX11_family_31 ?_
      exact ⟨⟨s1, Or.inl ⟨hok, by rw [Int.toNat_natCast, Int.toNat_natCast, hfam]; rfl⟩⟩, rfl, rfl, rfl⟩
    · refine R_if_eq 30 dX11_family_23 (by decide) (fun hc23 => ?_) (fun hc23 => ?_)
      · refine R_iconst dX11_family_30 rfl rfl ?_
        refine R_ireturn rfl (by first | rfl | exact nar_b2i | exact nar_bi) (by decide) (by decide) dX11_family_31 ?_
        exact ⟨⟨s1, Or.inl ⟨hok, by rw [Int.toNat_natCast, Int.toNat_natCast, hfam]; rfl⟩⟩, rfl, rfl, rfl⟩
      · exact absurd rfl hc23
  · try simp only [b2i_z, bi_z, ne_eq, Classical.not_not] at hc9
    refine R_iconst dX11_family_12 rfl rfl ?_
    refine R_ireturn rfl (by first | rfl | exact nar_b2i | exact nar_bi) (by decide) (by decide) dX11_family_13 ?_
    exact ⟨⟨SC.rfl, Or.inr ⟨hc9, rfl⟩⟩, rfl, rfl, rfl⟩
theorem p_points (K : Nat → CUS) (H : FP g r K) (c set : Int) : CT (mX11_points (rmD 8 0 0)) 0 0 shW [vR (some 0), vI c, vI set] g z r (qG shW z r fun v g' => SC g g' ∧ ((okCS (vC g) c set ∧ ∃ l, fam (vC g) c.toNat set.toNat = some l ∧ v = some (vI (ptS (vC g) K (g 30 1) (g 30 2) (g 30 3) c.toNat l))) ∨ (¬ (okCS (vC g) c set ∧ (fam (vC g) c.toNat set.toNat).isSome = true) ∧ v = some (vI (-1000000))))) := by
  obtain ⟨hr, hT, hB, hB2, hN, hC5, hF, ho, hK⟩ := id H
  refine CT.of 0 rfl rfl ?_
  refine R_aload_n dX11_points_0 rfl ?_
  refine R_getR _ (hr _ _ _ rfl) fd11_0 kf11_10 rfl dX11_points_1 ?_
  refine R_iload_n dX11_points_4 rfl ?_
  refine R_iload_n dX11_points_5 rfl ?_
  refine R_callV (c_X0_knows hr hF c set) (mvX0_knows _) kiX0_knows kvX0_knows km11_166 rfl rfl (by decide) ⟨rfl, rfl, by decide, by decide⟩ (Nat.le_of_ble_eq_true rfl) dX11_points_6 (fun v1 sh1 g1 z1 r1 hq => ?_)
  obtain ⟨rfl, rfl, rfl, rfl, rfl⟩ := hq
  refine R_if_eq 28 dX11_points_9 (by decide) (fun hc9 => ?_) (fun hc9 => ?_)
  · try simp only [b2i_z, bi_z, ne_eq, Classical.not_not] at hc9
    refine R_ldcC (v := -1000000) kk11_176 (by decide +kernel) dX11_points_28 (by decide) ?_
    refine R_ireturn rfl (by first | rfl | exact nar_b2i | exact nar_bi) (by decide) (by decide) dX11_points_30 ?_
    exact ⟨⟨SC.rfl, Or.inr ⟨fun q => hc9 q.1, rfl⟩⟩, rfl, rfl, rfl⟩
  · try simp only [b2i_z, bi_z, ne_eq, Classical.not_not] at hc9
    have hok : okCS (vC g) c set := hc9
    obtain ⟨cn, sn, rfl, rfl, h3, h4, h5⟩ := okCS_n (s := vC g) hF hok
    refine R_aload_n dX11_points_12 rfl ?_
    refine R_getR _ (hr _ _ _ rfl) fd11_6 kf11_53 rfl dX11_points_13 ?_
    refine R_iload_n dX11_points_16 rfl ?_
    refine R_iload_n dX11_points_17 rfl ?_
    refine R_aload_n dX11_points_18 rfl ?_
    refine R_getR _ (hr _ _ _ rfl) fd11_4 kf11_41 rfl dX11_points_19 ?_
    refine R_callV (c_X3_worth K H cn sn h3 h5 30 (Or.inl rfl)) (mvX3_worth _) kiX3_worth kvX3_worth km11_172 rfl rfl (by decide) ⟨rfl, rfl, by decide, by decide⟩ (Nat.le_of_ble_eq_true rfl) dX11_points_22 (fun v1 sh1 g1 z1 r1 hq => ?_)
    obtain ⟨⟨s1, o3⟩, rfl, rfl, rfl⟩ := hq
    rcases o3 with ⟨l, hfam, rfl, hl⟩ | ⟨hfam, rfl⟩
    · refine R_goto 30 dX11_points_25 (by decide) ?_
      refine R_ireturn rfl (by first | rfl | exact nar_b2i | exact nar_bi) (by decide) (by decide) dX11_points_30 ?_
      exact ⟨⟨s1, Or.inl ⟨hok, l, by rw [Int.toNat_natCast, Int.toNat_natCast]; exact hfam, by rw [Int.toNat_natCast]⟩⟩, rfl, rfl, rfl⟩
    · refine R_goto 30 dX11_points_25 (by decide) ?_
      refine R_ireturn rfl (by first | rfl | exact nar_b2i | exact nar_bi) (by decide) (by decide) dX11_points_30 ?_
      exact ⟨⟨s1, Or.inr ⟨fun q => by rw [Int.toNat_natCast, Int.toNat_natCast, hfam] at q; exact absurd q.2 (by decide), rfl⟩⟩, rfl, rfl, rfl⟩
theorem c_placeAsked (K : Nat → CUS) (H : FP g r K) (c set i : Int) : CT (mX11_placeAsked (rmD 7 0 0)) 0 0 shW [vR (some 0), vI c, vI set, vI i] g z r (qG shW z r fun v g' => SC g g' ∧ ((okCS (vC g) c set ∧ (0 ≤ i ∧ i < g 11 7) ∧ ∃ l, fam (vC g) c.toNat set.toNat = some l ∧ i.toNat ∈ l ∧ v = some (vI ((l.findIdx (· == i.toNat) : Nat) : Int)) ∧ Asked g' (vC g) (ltS (vC g) K (g 30 1) (g 30 2) (g 30 3) c.toNat l) c.toNat l) ∨ (¬ (okCS (vC g) c set ∧ (0 ≤ i ∧ i < g 11 7) ∧ ∃ l, fam (vC g) c.toNat set.toNat = some l ∧ i.toNat ∈ l) ∧ v = some (vI (-1))))) := by
  obtain ⟨hr, hT, hB, hB2, hN, hC5, hF, ho, hK⟩ := id H
  refine CT.of 0 rfl rfl ?_
  refine R_aload_n dX11_placeAsked_0 rfl ?_
  refine R_getR _ (hr _ _ _ rfl) fd11_0 kf11_10 rfl dX11_placeAsked_1 ?_
  refine R_iload_n dX11_placeAsked_4 rfl ?_
  refine R_iload_n dX11_placeAsked_5 rfl ?_
  refine R_callV (c_X0_knows hr hF c set) (mvX0_knows _) kiX0_knows kvX0_knows km11_166 rfl rfl (by decide) ⟨rfl, rfl, by decide, by decide⟩ (Nat.le_of_ble_eq_true rfl) dX11_placeAsked_6 (fun v1 sh1 g1 z1 r1 hq => ?_)
  obtain ⟨rfl, rfl, rfl, rfl, rfl⟩ := hq
  refine R_if_eq 26 dX11_placeAsked_9 (by decide) (fun hc9 => ?_) (fun hc9 => ?_)
  · try simp only [b2i_z, bi_z, ne_eq, Classical.not_not] at hc9
    refine R_iconst dX11_placeAsked_26 rfl rfl ?_
    refine R_ireturn rfl (by first | rfl | exact nar_b2i | exact nar_bi) (by decide) (by decide) dX11_placeAsked_27 ?_
    exact ⟨⟨SC.rfl, Or.inr ⟨fun q => by first | exact hc9 q.1 | exact hc23 q.2.1, rfl⟩⟩, rfl, rfl, rfl⟩
  · try simp only [b2i_z, bi_z, ne_eq, Classical.not_not] at hc9
    refine R_aload_n dX11_placeAsked_12 rfl ?_
    refine R_getR _ (hr _ _ _ rfl) fd11_0 kf11_10 rfl dX11_placeAsked_13 ?_
    refine R_getR _ (hr _ _ _ rfl) fd0_2 kf11_111 rfl dX11_placeAsked_16 ?_
    refine R_iload_n dX11_placeAsked_19 rfl ?_
    refine R_callV (c_X4_has hr i) (mvX4_has _) kiX4_has kvX4_has km11_120 rfl rfl (by decide) ⟨rfl, rfl, by decide, by decide⟩ (Nat.le_of_ble_eq_true rfl) dX11_placeAsked_20 (fun v1 sh1 g1 z1 r1 hq => ?_)
    obtain ⟨rfl, rfl, rfl, rfl, rfl⟩ := hq
    refine R_if_ne 28 dX11_placeAsked_23 (by decide) (fun hc23 => ?_) (fun hc23 => ?_)
    · try simp only [b2i_z, bi_z, ne_eq, Classical.not_not] at hc23
      have hok : okCS (vC g) c set := hc9
      obtain ⟨cn, sn, rfl, rfl, h3, h4, h5⟩ := okCS_n (s := vC g) hF hok
      obtain ⟨i', rfl⟩ : ∃ i' : Nat, i = (i' : Int) := ⟨i.toNat, by omega⟩
      refine R_aload_n dX11_placeAsked_28 rfl ?_
      refine R_getR _ (hr _ _ _ rfl) fd11_6 kf11_53 rfl dX11_placeAsked_29 ?_
      refine R_iload_n dX11_placeAsked_32 rfl ?_
      refine R_iload_n dX11_placeAsked_33 rfl ?_
      refine R_aload_n dX11_placeAsked_34 rfl ?_
      refine R_getR _ (hr _ _ _ rfl) fd11_4 kf11_41 rfl dX11_placeAsked_35 ?_
      refine R_callV (c_X3_worth K H cn sn h3 h5 30 (Or.inl rfl)) (mvX3_worth _) kiX3_worth kvX3_worth km11_172 rfl rfl (by decide) ⟨rfl, rfl, by decide, by decide⟩ (Nat.le_of_ble_eq_true rfl) dX11_placeAsked_38 (fun v1 sh1 g1 z1 r1 hq => ?_)
      obtain ⟨⟨s1, o3⟩, rfl, rfl, rfl⟩ := hq
      simp only [Int.toNat_natCast]
      rcases o3 with ⟨l, hfam, rfl, hl⟩ | ⟨hfam, rfl⟩
      · have hll : l.length ≤ 10 := by have h1 := fam_len hfam; have h2 : (vC g) 0 2 = g 11 7 := rfl; rw [h2] at h1; omega
        have hb := ptU_b hB2 (ltS (vC g) K (g 30 1) (g 30 2) (g 30 3) cn l) cn l l.length
        have hb2 : ptS (vC g) K (g 30 1) (g 30 2) (g 30 3) cn l ≠ -1000000 := by unfold ptS; omega
        refine R_ldcC (v := -1000000) kk11_176 (by decide +kernel) dX11_placeAsked_41 (by decide) ?_
        refine R_icmp_ne 50 dX11_placeAsked_43 (by decide) (fun hc43 => ?_) (fun hc43 => ?_)
        · refine R_aload_n dX11_placeAsked_50 rfl ?_
          refine R_getR _ (hr _ _ _ rfl) fd11_6 kf11_53 rfl dX11_placeAsked_51 ?_
          refine R_iload_n dX11_placeAsked_54 rfl ?_
          refine R_callV (c_X3_placeOf hr l hl.1 hll i') (mvX3_placeOf _) kiX3_placeOf kvX3_placeOf km11_199 rfl rfl (by decide) ⟨rfl, rfl, by decide, by decide⟩ (Nat.le_of_ble_eq_true rfl) dX11_placeAsked_55 (fun v1 sh1 g1 z1 r1 hq => ?_)
          obtain ⟨rfl, rfl, rfl, rfl, rfl⟩ := hq
          by_cases hil : i' ∈ l
          · rw [if_pos hil]
            refine R_ireturn rfl (by first | rfl | exact nar_b2i | exact nar_bi) (by decide) (by decide) dX11_placeAsked_58 ?_
            exact ⟨⟨s1, Or.inl ⟨hok, hc23, l, hfam, hil, rfl, hl⟩⟩, rfl, rfl, rfl⟩
          · rw [if_neg hil]
            refine R_ireturn rfl (by first | rfl | exact nar_b2i | exact nar_bi) (by decide) (by decide) dX11_placeAsked_58 ?_
            exact ⟨⟨s1, Or.inr ⟨fun q => by obtain ⟨q1, q2, l', q3, q4⟩ := q; rw [hfam] at q3; cases q3; exact hil q4, rfl⟩⟩, rfl, rfl, rfl⟩
        · exact absurd hc43 hb2
      · refine R_ldcC (v := -1000000) kk11_176 (by decide +kernel) dX11_placeAsked_41 (by decide) ?_
        refine R_icmp_ne 50 dX11_placeAsked_43 (by decide) (fun hc43 => ?_) (fun hc43 => ?_)
        · exact absurd rfl hc43
        · refine R_iconst dX11_placeAsked_46 rfl rfl ?_
          refine R_goto 58 dX11_placeAsked_47 (by decide) ?_
          refine R_ireturn rfl (by first | rfl | exact nar_b2i | exact nar_bi) (by decide) (by decide) dX11_placeAsked_58 ?_
          exact ⟨⟨s1, Or.inr ⟨fun q => by obtain ⟨q1, q2, l', q3, q4⟩ := q; rw [hfam] at q3; exact absurd q3 (by simp), rfl⟩⟩, rfl, rfl, rfl⟩
    · try simp only [b2i_z, bi_z, ne_eq, Classical.not_not] at hc23
      refine R_iconst dX11_placeAsked_26 rfl rfl ?_
      refine R_ireturn rfl (by first | rfl | exact nar_b2i | exact nar_bi) (by decide) (by decide) dX11_placeAsked_27 ?_
      exact ⟨⟨SC.rfl, Or.inr ⟨fun q => by first | exact hc9 q.1 | exact hc23 q.2.1, rfl⟩⟩, rfl, rfl, rfl⟩
theorem p_should (K : Nat → CUS) (H : FP g r K) (c set i : Int) : CT (mX11_should (rmD 8 0 0)) 0 0 shW [vR (some 0), vI c, vI set, vI i] g z r (qG shW z r fun v g' => SC g g' ∧ ((okCS (vC g) c set ∧ (0 ≤ i ∧ i < g 11 7) ∧ ∃ l, fam (vC g) c.toNat set.toNat = some l ∧ i.toNat ∈ l ∧ v = some (vI (duS (vC g) (ltS (vC g) K (g 30 1) (g 30 2) (g 30 3) c.toNat l) c.toNat l (l.findIdx (· == i.toNat))))) ∨ (¬ (okCS (vC g) c set ∧ (0 ≤ i ∧ i < g 11 7) ∧ ∃ l, fam (vC g) c.toNat set.toNat = some l ∧ i.toNat ∈ l) ∧ v = some (vI (-1))))) := by
  obtain ⟨hr, hT, hB, hB2, hN, hC5, hF, ho, hK⟩ := id H
  refine CT.of 1 rfl rfl ?_
  refine R_aload_n dX11_should_0 rfl ?_
  refine R_iload_n dX11_should_1 rfl ?_
  refine R_iload_n dX11_should_2 rfl ?_
  refine R_iload_n dX11_should_3 rfl ?_
  refine R_callV (c_placeAsked K H c set i) (mvX11_placeAsked _) kiX11_placeAsked kvX11_placeAsked km11_177 rfl rfl (by decide) ⟨rfl, rfl, by decide, by decide⟩ (Nat.le_of_ble_eq_true rfl) dX11_should_4 (fun v1 sh1 g1 z1 r1 hq => ?_)
  obtain ⟨⟨s1, o3⟩, rfl, rfl, rfl⟩ := hq
  rcases o3 with ⟨hok, hi, l, hfam, hil, rfl, hl⟩ | ⟨hno, rfl⟩
  · have hll : l.length ≤ 10 := by have h1 := fam_len hfam; have h2 : (vC g) 0 2 = g 11 7 := rfl; rw [h2] at h1; omega
    have hm : ∀ a ∈ l, a < 10 := fun a ha => by have h1 := fam_mem hfam a ha; have h2 : (vC g) 0 2 = g 11 7 := rfl; rw [h2] at h1; omega
    have hfi : l.findIdx (· == i.toNat) < l.length := List.findIdx_lt_length_of_exists ⟨i.toNat, hil, by simp⟩
    have hc6 : c < g 5 5 := hok.2.1
    refine R_istore dX11_should_7 (by decide) rfl [_, _, _, _, _] rfl ?_
    refine R_iload dX11_should_9 rfl ?_
    refine R_iconst dX11_should_11 rfl rfl ?_
    refine R_icmp_ne 19 dX11_should_12 (by decide) (fun hc12 => ?_) (fun hc12 => ?_)
    · refine R_aload_n dX11_should_19 rfl ?_
      refine R_getR _ (hr _ _ _ rfl) fd11_6 kf11_53 rfl dX11_should_20 ?_
      refine R_iload dX11_should_23 rfl ?_
      refine R_callV (c_X3_due hr c.toNat (by omega) hl.2.1 l hl.1 hm hll (l.findIdx (· == i.toNat)) hfi) (mvX3_due _) kiX3_due kvX3_due km11_196 rfl rfl (by decide) ⟨rfl, rfl, by decide, by decide⟩ (Nat.le_of_ble_eq_true rfl) dX11_should_25 (fun v1 sh1 g1 z1 r1 hq => ?_)
      obtain ⟨rfl, rfl, rfl, rfl, rfl⟩ := hq
      rw [hl.due s1.vC hfi]
      refine R_ireturn rfl (by first | rfl | exact nar_b2i | exact nar_bi) (by decide) (by decide) dX11_should_28 ?_
      exact ⟨⟨s1, Or.inl ⟨hok, hi, l, hfam, hil, rfl⟩⟩, rfl, rfl, rfl⟩
    · exact absurd hc12 (by omega)
  · refine R_istore dX11_should_7 (by decide) rfl [_, _, _, _, _] rfl ?_
    refine R_iload dX11_should_9 rfl ?_
    refine R_iconst dX11_should_11 rfl rfl ?_
    refine R_icmp_ne 19 dX11_should_12 (by decide) (fun hc12 => ?_) (fun hc12 => ?_)
    · exact absurd rfl hc12
    · refine R_iconst dX11_should_15 rfl rfl ?_
      refine R_goto 28 dX11_should_16 (by decide) ?_
      refine R_ireturn rfl (by first | rfl | exact nar_b2i | exact nar_bi) (by decide) (by decide) dX11_should_28 ?_
      exact ⟨⟨s1, Or.inr ⟨hno, rfl⟩⟩, rfl, rfl, rfl⟩
end PUB4
