theorem bAnd_w {w : Int} (h : 0 ≤ w ∧ w < 4) : bAnd w 1 = w % 2 := by
  rcases (show w = 0 ∨ w = 1 ∨ w = 2 ∨ w = 3 by omega) with rfl | rfl | rfl | rfl <;> decide +kernel
section PUB3
variable {g z : GG} {r : RR}
theorem p_parent (hr : RS r) (hN : 0 ≤ g 2 2 ∧ g 2 2 ≤ 16) (hC : 0 ≤ g 5 5 ∧ g 5 5 ≤ 6) (c w v : Int) : CT (mX11_parent (rmD 5 0 0)) 0 0 shW [vR (some 0), vI c, vI w, vI v] g z r (qG shW z r fun x g' => ((0 ≤ c ∧ c < g 5 5 ∧ 0 ≤ w ∧ w < 4 ∧ (v = -1 ∨ nmOK (vC g) v (w % 2))) ∧ x = some (vI 1) ∧ g' = up2 (up2 g 10 (c * 4 + w).toNat v) 41 10 0) ∨ (¬ (0 ≤ c ∧ c < g 5 5 ∧ 0 ≤ w ∧ w < 4 ∧ (v = -1 ∨ nmOK (vC g) v (w % 2))) ∧ x = some (vI 0) ∧ g' = g)) := by
  refine CT.of 0 rfl rfl ?_
  by_cases hcc : 0 ≤ c ∧ c < g 5 5
  · by_cases hw : 0 ≤ w ∧ w < 4
    · have hb := bAnd_w hw
      refine R_aload_n dX11_parent_0 rfl ?_
      refine R_getR _ (hr _ _ _ rfl) fd11_0 kf11_10 rfl dX11_parent_1 ?_
      refine R_getR _ (hr _ _ _ rfl) fd0_1 kf11_91 rfl dX11_parent_4 ?_
      refine R_iload_n dX11_parent_7 rfl ?_
      refine R_callV (c_X1_has hr _) (mvX1_has _) kiX1_has kvX1_has km11_100 rfl rfl (by decide) ⟨rfl, rfl, by decide, by decide⟩ (Nat.le_of_ble_eq_true rfl) dX11_parent_8 (fun v1 sh1 g1 z1 r1 hq => ?_)
      obtain ⟨rfl, rfl, rfl, rfl, rfl⟩ := hq
      refine R_if_eq 23 dX11_parent_11 (by decide) (fun hc11 => ?_) (fun hc11 => ?_)
      · try simp only [b2i_z, bi_z, ne_eq, Classical.not_not] at hc11
        refine R_iconst dX11_parent_23 rfl rfl ?_
        refine R_ireturn rfl (by first | rfl | exact nar_b2i | exact nar_bi) (by decide) (by decide) dX11_parent_24 ?_
        first | (exfalso; omega) | exact ⟨Or.inr ⟨fun q => by have q1 := q.2.2.2.2; unfold nmOK at q1; simp only [vC] at q1; omega, rfl, rfl⟩, rfl, rfl, rfl⟩
      · try simp only [b2i_z, bi_z, ne_eq, Classical.not_not] at hc11
        refine R_iload_n dX11_parent_14 rfl ?_
        refine R_if_lt 23 dX11_parent_15 (by decide) (fun hc15 => ?_) (fun hc15 => ?_)
        · refine R_iconst dX11_parent_23 rfl rfl ?_
          refine R_ireturn rfl (by first | rfl | exact nar_b2i | exact nar_bi) (by decide) (by decide) dX11_parent_24 ?_
          first | (exfalso; omega) | exact ⟨Or.inr ⟨fun q => by have q1 := q.2.2.2.2; unfold nmOK at q1; simp only [vC] at q1; omega, rfl, rfl⟩, rfl, rfl, rfl⟩
        · refine R_iload_n dX11_parent_18 rfl ?_
          refine R_iconst dX11_parent_19 rfl rfl ?_
          refine R_icmp_lt 25 dX11_parent_20 (by decide) (fun hc20 => ?_) (fun hc20 => ?_)
          · refine R_iload_n dX11_parent_25 rfl ?_
            refine R_iconst dX11_parent_26 rfl rfl ?_
            refine R_icmp_eq 49 dX11_parent_27 (by decide) (fun hc27 => ?_) (fun hc27 => ?_)
            · refine R_aload_n dX11_parent_49 rfl ?_
              refine R_getR _ (hr _ _ _ rfl) fd11_0 kf11_10 rfl dX11_parent_50 ?_
              refine R_getR _ (hr _ _ _ rfl) fd0_1 kf11_91 rfl dX11_parent_53 ?_
              refine R_iload_n dX11_parent_56 rfl ?_
              refine R_iload_n dX11_parent_57 rfl ?_
              refine R_iload_n dX11_parent_58 rfl ?_
              refine R_callV (c_X1_tellParent hr hC c w v hcc (by omega)) (mvX1_tellParent _) kiX1_tellParent kvX1_tellParent km11_103 rfl rfl (by decide) ⟨rfl, rfl, by decide, by decide⟩ (Nat.le_of_ble_eq_true rfl) dX11_parent_59 (fun v1 sh1 g1 z1 r1 hq => ?_)
              obtain ⟨⟨rfl, rfl⟩, rfl, rfl, rfl⟩ := hq
              refine R_aload_n dX11_parent_62 rfl ?_
              refine R_getR _ (hr _ _ _ rfl) fd11_8 kf11_69 rfl dX11_parent_63 ?_
              refine R_callV (c_X10_forget) (mvX10_forget _) kiX10_forget kvX10_forget km11_84 rfl rfl (by decide) ⟨rfl, rfl, by decide, by decide⟩ (Nat.le_of_ble_eq_true rfl) dX11_parent_66 (fun v1 sh1 g1 z1 r1 hq => ?_)
              obtain ⟨⟨rfl, rfl⟩, rfl, rfl, rfl⟩ := hq
              refine R_iconst dX11_parent_69 rfl rfl ?_
              refine R_ireturn rfl (by first | rfl | exact nar_b2i | exact nar_bi) (by decide) (by decide) dX11_parent_70 ?_
              exact ⟨Or.inl ⟨⟨hcc.1, hcc.2, by omega, by omega, by unfold nmOK; simp only [vC]; omega⟩, rfl, rfl⟩, rfl, rfl, rfl⟩
            · refine R_aload_n dX11_parent_30 rfl ?_
              refine R_getR _ (hr _ _ _ rfl) fd11_0 kf11_10 rfl dX11_parent_31 ?_
              refine R_getR _ (hr _ _ _ rfl) fd0_0 kf11_74 rfl dX11_parent_34 ?_
              refine R_iload_n dX11_parent_37 rfl ?_
              refine R_iload_n dX11_parent_38 rfl ?_
              refine R_iconst dX11_parent_39 rfl rfl ?_
              refine R_iand dX11_parent_40 ?_
              refine R_callV (c_X5_has hr hN _ _) (mvX5_has _) kiX5_has kvX5_has km11_87 rfl rfl (by decide) ⟨rfl, rfl, by decide, by decide⟩ (Nat.le_of_ble_eq_true rfl) dX11_parent_41 (fun v1 sh1 g1 z1 r1 hq => ?_)
              obtain ⟨rfl, rfl, rfl, rfl, rfl⟩ := hq
              rw [hb]
              refine R_if_ne 49 dX11_parent_44 (by decide) (fun hc44 => ?_) (fun hc44 => ?_)
              · try simp only [b2i_z, bi_z, ne_eq, Classical.not_not] at hc44
                refine R_aload_n dX11_parent_49 rfl ?_
                refine R_getR _ (hr _ _ _ rfl) fd11_0 kf11_10 rfl dX11_parent_50 ?_
                refine R_getR _ (hr _ _ _ rfl) fd0_1 kf11_91 rfl dX11_parent_53 ?_
                refine R_iload_n dX11_parent_56 rfl ?_
                refine R_iload_n dX11_parent_57 rfl ?_
                refine R_iload_n dX11_parent_58 rfl ?_
                refine R_callV (c_X1_tellParent hr hC c w v hcc (by omega)) (mvX1_tellParent _) kiX1_tellParent kvX1_tellParent km11_103 rfl rfl (by decide) ⟨rfl, rfl, by decide, by decide⟩ (Nat.le_of_ble_eq_true rfl) dX11_parent_59 (fun v1 sh1 g1 z1 r1 hq => ?_)
                obtain ⟨⟨rfl, rfl⟩, rfl, rfl, rfl⟩ := hq
                refine R_aload_n dX11_parent_62 rfl ?_
                refine R_getR _ (hr _ _ _ rfl) fd11_8 kf11_69 rfl dX11_parent_63 ?_
                refine R_callV (c_X10_forget) (mvX10_forget _) kiX10_forget kvX10_forget km11_84 rfl rfl (by decide) ⟨rfl, rfl, by decide, by decide⟩ (Nat.le_of_ble_eq_true rfl) dX11_parent_66 (fun v1 sh1 g1 z1 r1 hq => ?_)
                obtain ⟨⟨rfl, rfl⟩, rfl, rfl, rfl⟩ := hq
                refine R_iconst dX11_parent_69 rfl rfl ?_
                refine R_ireturn rfl (by first | rfl | exact nar_b2i | exact nar_bi) (by decide) (by decide) dX11_parent_70 ?_
                exact ⟨Or.inl ⟨⟨hcc.1, hcc.2, by omega, by omega, by unfold nmOK; simp only [vC]; omega⟩, rfl, rfl⟩, rfl, rfl, rfl⟩
              · try simp only [b2i_z, bi_z, ne_eq, Classical.not_not] at hc44
                refine R_iconst dX11_parent_47 rfl rfl ?_
                refine R_ireturn rfl (by first | rfl | exact nar_b2i | exact nar_bi) (by decide) (by decide) dX11_parent_48 ?_
                first | (exfalso; omega) | exact ⟨Or.inr ⟨fun q => by have q1 := q.2.2.2.2; unfold nmOK at q1; simp only [vC] at q1; omega, rfl, rfl⟩, rfl, rfl, rfl⟩
          · refine R_iconst dX11_parent_23 rfl rfl ?_
            refine R_ireturn rfl (by first | rfl | exact nar_b2i | exact nar_bi) (by decide) (by decide) dX11_parent_24 ?_
            first | (exfalso; omega) | exact ⟨Or.inr ⟨fun q => by have q1 := q.2.2.2.2; unfold nmOK at q1; simp only [vC] at q1; omega, rfl, rfl⟩, rfl, rfl, rfl⟩
    · refine R_aload_n dX11_parent_0 rfl ?_
      refine R_getR _ (hr _ _ _ rfl) fd11_0 kf11_10 rfl dX11_parent_1 ?_
      refine R_getR _ (hr _ _ _ rfl) fd0_1 kf11_91 rfl dX11_parent_4 ?_
      refine R_iload_n dX11_parent_7 rfl ?_
      refine R_callV (c_X1_has hr _) (mvX1_has _) kiX1_has kvX1_has km11_100 rfl rfl (by decide) ⟨rfl, rfl, by decide, by decide⟩ (Nat.le_of_ble_eq_true rfl) dX11_parent_8 (fun v1 sh1 g1 z1 r1 hq => ?_)
      obtain ⟨rfl, rfl, rfl, rfl, rfl⟩ := hq
      refine R_if_eq 23 dX11_parent_11 (by decide) (fun hc11 => ?_) (fun hc11 => ?_)
      · try simp only [b2i_z, bi_z, ne_eq, Classical.not_not] at hc11
        refine R_iconst dX11_parent_23 rfl rfl ?_
        refine R_ireturn rfl (by first | rfl | exact nar_b2i | exact nar_bi) (by decide) (by decide) dX11_parent_24 ?_
        first | (exfalso; omega) | exact ⟨Or.inr ⟨by omega, rfl, rfl⟩, rfl, rfl, rfl⟩
      · try simp only [b2i_z, bi_z, ne_eq, Classical.not_not] at hc11
        refine R_iload_n dX11_parent_14 rfl ?_
        refine R_if_lt 23 dX11_parent_15 (by decide) (fun hc15 => ?_) (fun hc15 => ?_)
        · refine R_iconst dX11_parent_23 rfl rfl ?_
          refine R_ireturn rfl (by first | rfl | exact nar_b2i | exact nar_bi) (by decide) (by decide) dX11_parent_24 ?_
          first | (exfalso; omega) | exact ⟨Or.inr ⟨by omega, rfl, rfl⟩, rfl, rfl, rfl⟩
        · refine R_iload_n dX11_parent_18 rfl ?_
          refine R_iconst dX11_parent_19 rfl rfl ?_
          refine R_icmp_lt 25 dX11_parent_20 (by decide) (fun hc20 => ?_) (fun hc20 => ?_)
          · exfalso; omega
          · refine R_iconst dX11_parent_23 rfl rfl ?_
            refine R_ireturn rfl (by first | rfl | exact nar_b2i | exact nar_bi) (by decide) (by decide) dX11_parent_24 ?_
            first | (exfalso; omega) | exact ⟨Or.inr ⟨by omega, rfl, rfl⟩, rfl, rfl, rfl⟩
  · refine R_aload_n dX11_parent_0 rfl ?_
    refine R_getR _ (hr _ _ _ rfl) fd11_0 kf11_10 rfl dX11_parent_1 ?_
    refine R_getR _ (hr _ _ _ rfl) fd0_1 kf11_91 rfl dX11_parent_4 ?_
    refine R_iload_n dX11_parent_7 rfl ?_
    refine R_callV (c_X1_has hr _) (mvX1_has _) kiX1_has kvX1_has km11_100 rfl rfl (by decide) ⟨rfl, rfl, by decide, by decide⟩ (Nat.le_of_ble_eq_true rfl) dX11_parent_8 (fun v1 sh1 g1 z1 r1 hq => ?_)
    obtain ⟨rfl, rfl, rfl, rfl, rfl⟩ := hq
    refine R_if_eq 23 dX11_parent_11 (by decide) (fun hc11 => ?_) (fun hc11 => ?_)
    · try simp only [b2i_z, bi_z, ne_eq, Classical.not_not] at hc11
      refine R_iconst dX11_parent_23 rfl rfl ?_
      refine R_ireturn rfl (by first | rfl | exact nar_b2i | exact nar_bi) (by decide) (by decide) dX11_parent_24 ?_
      exact ⟨Or.inr ⟨by omega, rfl, rfl⟩, rfl, rfl, rfl⟩
    · try simp only [b2i_z, bi_z, ne_eq, Classical.not_not] at hc11
      exfalso; omega
theorem p_christening (hr : RS r) (hN : 0 ≤ g 2 2 ∧ g 2 2 ≤ 16) (hX : ∀ i : Nat, (i : Int) < g 2 2 → g 3 i = 0 ∨ g 3 i = 1) (n : Nat) (hsz : g 11 7 = (n : Int)) (hn : n ≤ 10) (ho : ∀ (j a : Nat), (ordL (g 13) n)[j]? = some a → g 18 j = (a : Int)) (v y f m p : Int) : CT (mX11_christening (rmD 5 0 0)) 0 0 shW [vR (some 0), vI v, vI y, vI f, vI m, vI p] g z r (qG shW z r fun x g' => ((0 ≤ v ∧ v < g 2 2 ∧ 0 ≤ y ∧ y ≤ 299 ∧ nmOK (vC g) f 0 ∧ (m = -1 ∨ nmOK (vC g) m 1) ∧ (p = -1 ∨ nmOK (vC g) p (g 3 v.toNat)) ∧ n < 10) ∧ x = some (vI (n : Int)) ∧ ∃ o, g' = up2 (up2 (upC (up2 (up2 (up2 (up2 (up2 (up2 g 12 n v) 13 n y) 14 n f) 15 n m) 16 n p) 17 n (-1)) 18 o) 11 7 ((n : Int) + 1)) 41 10 0 ∧ ∀ (j a : Nat), (ordL (fun i => if i = n then y else g 13 i) (n + 1))[j]? = some a → o j = (a : Int)) ∨ (¬ (0 ≤ v ∧ v < g 2 2 ∧ 0 ≤ y ∧ y ≤ 299 ∧ nmOK (vC g) f 0 ∧ (m = -1 ∨ nmOK (vC g) m 1) ∧ (p = -1 ∨ nmOK (vC g) p (g 3 v.toNat)) ∧ n < 10) ∧ x = some (vI (-1)) ∧ (g' = g ∨ g' = up2 g 41 10 0))) := by
  refine CT.of 2 rfl rfl ?_
  have hv01 : 0 ≤ v → v < g 2 2 → g 3 v.toNat = 0 ∨ g 3 v.toNat = 1 := fun h1 h2 => hX v.toNat (by omega)
  refine R_aload_n dX11_christening_0 rfl ?_
  refine R_getR _ (hr _ _ _ rfl) fd11_0 kf11_10 rfl dX11_christening_1 ?_
  refine R_getR _ (hr _ _ _ rfl) fd0_0 kf11_74 rfl dX11_christening_4 ?_
  refine R_astore dX11_christening_7 (by decide) rfl [_, _, _, _, _, _, _, _] rfl ?_
  refine R_aload dX11_christening_9 rfl ?_
  refine R_iload_n dX11_christening_11 rfl ?_
  refine R_iconst dX11_christening_12 rfl rfl ?_
  refine R_callV (c_X5_has hr hN _ _) (mvX5_has _) kiX5_has kvX5_has km11_87 rfl rfl (by decide) ⟨rfl, rfl, by decide, by decide⟩ (Nat.le_of_ble_eq_true rfl) dX11_christening_13 (fun v1 sh1 g1 z1 r1 hq => ?_)
  obtain ⟨rfl, rfl, rfl, rfl, rfl⟩ := hq
  refine R_if_ne 29 dX11_christening_16 (by decide) (fun hc16 => ?_) (fun hc16 => ?_)
  · try simp only [b2i_z, bi_z, ne_eq, Classical.not_not] at hc16
    refine R_aload dX11_christening_29 rfl ?_
    refine R_iload_n dX11_christening_31 rfl ?_
    refine R_iconst dX11_christening_32 rfl rfl ?_
    refine R_callV (c_X5_has hr hN _ _) (mvX5_has _) kiX5_has kvX5_has km11_87 rfl rfl (by decide) ⟨rfl, rfl, by decide, by decide⟩ (Nat.le_of_ble_eq_true rfl) dX11_christening_33 (fun v1 sh1 g1 z1 r1 hq => ?_)
    obtain ⟨rfl, rfl, rfl, rfl, rfl⟩ := hq
    refine R_if_ne 41 dX11_christening_36 (by decide) (fun hc36 => ?_) (fun hc36 => ?_)
    · try simp only [b2i_z, bi_z, ne_eq, Classical.not_not] at hc36
      refine R_iload dX11_christening_41 rfl ?_
      refine R_iconst dX11_christening_43 rfl rfl ?_
      refine R_icmp_eq 60 dX11_christening_44 (by decide) (fun hc44 => ?_) (fun hc44 => ?_)
      · refine R_iload dX11_christening_60 rfl ?_
        refine R_iconst dX11_christening_62 rfl rfl ?_
        refine R_icmp_eq 85 dX11_christening_63 (by decide) (fun hc63 => ?_) (fun hc63 => ?_)
        · refine R_aload_n dX11_christening_85 rfl ?_
          refine R_getR _ (hr _ _ _ rfl) fd11_0 kf11_10 rfl dX11_christening_86 ?_
          refine R_getR _ (hr _ _ _ rfl) fd0_2 kf11_111 rfl dX11_christening_89 ?_
          refine R_iload_n dX11_christening_92 rfl ?_
          refine R_iload_n dX11_christening_93 rfl ?_
          refine R_iload_n dX11_christening_94 rfl ?_
          refine R_iload dX11_christening_95 rfl ?_
          refine R_iload dX11_christening_97 rfl ?_
          refine R_callV (c_X4_add hr n hsz hn ho v y f m p) (mvX4_add _) kiX4_add kvX4_add km11_115 rfl rfl (by decide) ⟨rfl, rfl, by decide, by decide⟩ (Nat.le_of_ble_eq_true rfl) dX11_christening_99 (fun v1 sh1 g1 z1 r1 hq => ?_)
          obtain ⟨⟨hk, rfl, o, rfl, ho2⟩ | ⟨hk, rfl, rfl⟩, rfl, rfl, rfl⟩ := hq
          · refine R_istore dX11_christening_102 (by decide) rfl [_, _, _, _, _, _, _, _] rfl ?_
            refine R_aload_n dX11_christening_104 rfl ?_
            refine R_getR _ (hr _ _ _ rfl) fd11_8 kf11_69 rfl dX11_christening_105 ?_
            refine R_callV (c_X10_forget) (mvX10_forget _) kiX10_forget kvX10_forget km11_84 rfl rfl (by decide) ⟨rfl, rfl, by decide, by decide⟩ (Nat.le_of_ble_eq_true rfl) dX11_christening_108 (fun v1 sh1 g1 z1 r1 hq => ?_)
            obtain ⟨⟨rfl, rfl⟩, rfl, rfl, rfl⟩ := hq
            refine R_iload dX11_christening_111 rfl ?_
            refine R_ireturn rfl (by first | rfl | exact nar_b2i | exact nar_bi) (by decide) (by decide) dX11_christening_113 ?_
            exact ⟨Or.inl ⟨⟨by omega, by omega, hk.1, hk.2.1, by unfold nmOK; simp only [vC]; omega, by unfold nmOK; simp only [vC]; omega, by unfold nmOK; simp only [vC]; omega, hk.2.2⟩, rfl, o, rfl, ho2⟩, rfl, rfl, rfl⟩
          · refine R_istore dX11_christening_102 (by decide) rfl [_, _, _, _, _, _, _, _] rfl ?_
            refine R_aload_n dX11_christening_104 rfl ?_
            refine R_getR _ (hr _ _ _ rfl) fd11_8 kf11_69 rfl dX11_christening_105 ?_
            refine R_callV (c_X10_forget) (mvX10_forget _) kiX10_forget kvX10_forget km11_84 rfl rfl (by decide) ⟨rfl, rfl, by decide, by decide⟩ (Nat.le_of_ble_eq_true rfl) dX11_christening_108 (fun v1 sh1 g1 z1 r1 hq => ?_)
            obtain ⟨⟨rfl, rfl⟩, rfl, rfl, rfl⟩ := hq
            refine R_iload dX11_christening_111 rfl ?_
            refine R_ireturn rfl (by first | rfl | exact nar_b2i | exact nar_bi) (by decide) (by decide) dX11_christening_113 ?_
            exact ⟨Or.inr ⟨fun q => hk ⟨q.2.2.1, q.2.2.2.1, q.2.2.2.2.2.2.2⟩, rfl, Or.inr rfl⟩, rfl, rfl, rfl⟩
        · refine R_aload dX11_christening_66 rfl ?_
          refine R_iload dX11_christening_68 rfl ?_
          refine R_aload dX11_christening_70 rfl ?_
          refine R_getR _ (hr _ _ _ rfl) fd5_0 kf11_107 rfl dX11_christening_72 ?_
          refine R_iload_n dX11_christening_75 rfl ?_
          refine R_iald rfl (by omega) (by omega) dX11_christening_76 ?_
          refine R_callV (c_X5_has hr hN _ _) (mvX5_has _) kiX5_has kvX5_has km11_87 rfl rfl (by decide) ⟨rfl, rfl, by decide, by decide⟩ (Nat.le_of_ble_eq_true rfl) dX11_christening_77 (fun v1 sh1 g1 z1 r1 hq => ?_)
          obtain ⟨rfl, rfl, rfl, rfl, rfl⟩ := hq
          refine R_if_ne 85 dX11_christening_80 (by decide) (fun hc80 => ?_) (fun hc80 => ?_)
          · try simp only [b2i_z, bi_z, ne_eq, Classical.not_not] at hc80
            refine R_aload_n dX11_christening_85 rfl ?_
            refine R_getR _ (hr _ _ _ rfl) fd11_0 kf11_10 rfl dX11_christening_86 ?_
            refine R_getR _ (hr _ _ _ rfl) fd0_2 kf11_111 rfl dX11_christening_89 ?_
            refine R_iload_n dX11_christening_92 rfl ?_
            refine R_iload_n dX11_christening_93 rfl ?_
            refine R_iload_n dX11_christening_94 rfl ?_
            refine R_iload dX11_christening_95 rfl ?_
            refine R_iload dX11_christening_97 rfl ?_
            refine R_callV (c_X4_add hr n hsz hn ho v y f m p) (mvX4_add _) kiX4_add kvX4_add km11_115 rfl rfl (by decide) ⟨rfl, rfl, by decide, by decide⟩ (Nat.le_of_ble_eq_true rfl) dX11_christening_99 (fun v1 sh1 g1 z1 r1 hq => ?_)
            obtain ⟨⟨hk, rfl, o, rfl, ho2⟩ | ⟨hk, rfl, rfl⟩, rfl, rfl, rfl⟩ := hq
            · refine R_istore dX11_christening_102 (by decide) rfl [_, _, _, _, _, _, _, _] rfl ?_
              refine R_aload_n dX11_christening_104 rfl ?_
              refine R_getR _ (hr _ _ _ rfl) fd11_8 kf11_69 rfl dX11_christening_105 ?_
              refine R_callV (c_X10_forget) (mvX10_forget _) kiX10_forget kvX10_forget km11_84 rfl rfl (by decide) ⟨rfl, rfl, by decide, by decide⟩ (Nat.le_of_ble_eq_true rfl) dX11_christening_108 (fun v1 sh1 g1 z1 r1 hq => ?_)
              obtain ⟨⟨rfl, rfl⟩, rfl, rfl, rfl⟩ := hq
              refine R_iload dX11_christening_111 rfl ?_
              refine R_ireturn rfl (by first | rfl | exact nar_b2i | exact nar_bi) (by decide) (by decide) dX11_christening_113 ?_
              exact ⟨Or.inl ⟨⟨by omega, by omega, hk.1, hk.2.1, by unfold nmOK; simp only [vC]; omega, by unfold nmOK; simp only [vC]; omega, by unfold nmOK; simp only [vC]; omega, hk.2.2⟩, rfl, o, rfl, ho2⟩, rfl, rfl, rfl⟩
            · refine R_istore dX11_christening_102 (by decide) rfl [_, _, _, _, _, _, _, _] rfl ?_
              refine R_aload_n dX11_christening_104 rfl ?_
              refine R_getR _ (hr _ _ _ rfl) fd11_8 kf11_69 rfl dX11_christening_105 ?_
              refine R_callV (c_X10_forget) (mvX10_forget _) kiX10_forget kvX10_forget km11_84 rfl rfl (by decide) ⟨rfl, rfl, by decide, by decide⟩ (Nat.le_of_ble_eq_true rfl) dX11_christening_108 (fun v1 sh1 g1 z1 r1 hq => ?_)
              obtain ⟨⟨rfl, rfl⟩, rfl, rfl, rfl⟩ := hq
              refine R_iload dX11_christening_111 rfl ?_
              refine R_ireturn rfl (by first | rfl | exact nar_b2i | exact nar_bi) (by decide) (by decide) dX11_christening_113 ?_
              exact ⟨Or.inr ⟨fun q => hk ⟨q.2.2.1, q.2.2.2.1, q.2.2.2.2.2.2.2⟩, rfl, Or.inr rfl⟩, rfl, rfl, rfl⟩
          · try simp only [b2i_z, bi_z, ne_eq, Classical.not_not] at hc80
            refine R_iconst dX11_christening_83 rfl rfl ?_
            refine R_ireturn rfl (by first | rfl | exact nar_b2i | exact nar_bi) (by decide) (by decide) dX11_christening_84 ?_
            exact ⟨Or.inr ⟨fun q => by have q1 := q.2.2.2.2.1; have q2 := q.2.2.2.2.2.1; have q3 := q.2.2.2.2.2.2.1; unfold nmOK at q1 q2 q3; simp only [vC] at q1 q2 q3; have q4 := hv01 q.1 q.2.1; omega, rfl, Or.inl rfl⟩, rfl, rfl, rfl⟩
      · refine R_aload dX11_christening_47 rfl ?_
        refine R_iload dX11_christening_49 rfl ?_
        refine R_iconst dX11_christening_51 rfl rfl ?_
        refine R_callV (c_X5_has hr hN _ _) (mvX5_has _) kiX5_has kvX5_has km11_87 rfl rfl (by decide) ⟨rfl, rfl, by decide, by decide⟩ (Nat.le_of_ble_eq_true rfl) dX11_christening_52 (fun v1 sh1 g1 z1 r1 hq => ?_)
        obtain ⟨rfl, rfl, rfl, rfl, rfl⟩ := hq
        refine R_if_ne 60 dX11_christening_55 (by decide) (fun hc55 => ?_) (fun hc55 => ?_)
        · try simp only [b2i_z, bi_z, ne_eq, Classical.not_not] at hc55
          refine R_iload dX11_christening_60 rfl ?_
          refine R_iconst dX11_christening_62 rfl rfl ?_
          refine R_icmp_eq 85 dX11_christening_63 (by decide) (fun hc63 => ?_) (fun hc63 => ?_)
          · refine R_aload_n dX11_christening_85 rfl ?_
            refine R_getR _ (hr _ _ _ rfl) fd11_0 kf11_10 rfl dX11_christening_86 ?_
            refine R_getR _ (hr _ _ _ rfl) fd0_2 kf11_111 rfl dX11_christening_89 ?_
            refine R_iload_n dX11_christening_92 rfl ?_
            refine R_iload_n dX11_christening_93 rfl ?_
            refine R_iload_n dX11_christening_94 rfl ?_
            refine R_iload dX11_christening_95 rfl ?_
            refine R_iload dX11_christening_97 rfl ?_
            refine R_callV (c_X4_add hr n hsz hn ho v y f m p) (mvX4_add _) kiX4_add kvX4_add km11_115 rfl rfl (by decide) ⟨rfl, rfl, by decide, by decide⟩ (Nat.le_of_ble_eq_true rfl) dX11_christening_99 (fun v1 sh1 g1 z1 r1 hq => ?_)
            obtain ⟨⟨hk, rfl, o, rfl, ho2⟩ | ⟨hk, rfl, rfl⟩, rfl, rfl, rfl⟩ := hq
            · refine R_istore dX11_christening_102 (by decide) rfl [_, _, _, _, _, _, _, _] rfl ?_
              refine R_aload_n dX11_christening_104 rfl ?_
              refine R_getR _ (hr _ _ _ rfl) fd11_8 kf11_69 rfl dX11_christening_105 ?_
              refine R_callV (c_X10_forget) (mvX10_forget _) kiX10_forget kvX10_forget km11_84 rfl rfl (by decide) ⟨rfl, rfl, by decide, by decide⟩ (Nat.le_of_ble_eq_true rfl) dX11_christening_108 (fun v1 sh1 g1 z1 r1 hq => ?_)
              obtain ⟨⟨rfl, rfl⟩, rfl, rfl, rfl⟩ := hq
              refine R_iload dX11_christening_111 rfl ?_
              refine R_ireturn rfl (by first | rfl | exact nar_b2i | exact nar_bi) (by decide) (by decide) dX11_christening_113 ?_
              exact ⟨Or.inl ⟨⟨by omega, by omega, hk.1, hk.2.1, by unfold nmOK; simp only [vC]; omega, by unfold nmOK; simp only [vC]; omega, by unfold nmOK; simp only [vC]; omega, hk.2.2⟩, rfl, o, rfl, ho2⟩, rfl, rfl, rfl⟩
            · refine R_istore dX11_christening_102 (by decide) rfl [_, _, _, _, _, _, _, _] rfl ?_
              refine R_aload_n dX11_christening_104 rfl ?_
              refine R_getR _ (hr _ _ _ rfl) fd11_8 kf11_69 rfl dX11_christening_105 ?_
              refine R_callV (c_X10_forget) (mvX10_forget _) kiX10_forget kvX10_forget km11_84 rfl rfl (by decide) ⟨rfl, rfl, by decide, by decide⟩ (Nat.le_of_ble_eq_true rfl) dX11_christening_108 (fun v1 sh1 g1 z1 r1 hq => ?_)
              obtain ⟨⟨rfl, rfl⟩, rfl, rfl, rfl⟩ := hq
              refine R_iload dX11_christening_111 rfl ?_
              refine R_ireturn rfl (by first | rfl | exact nar_b2i | exact nar_bi) (by decide) (by decide) dX11_christening_113 ?_
              exact ⟨Or.inr ⟨fun q => hk ⟨q.2.2.1, q.2.2.2.1, q.2.2.2.2.2.2.2⟩, rfl, Or.inr rfl⟩, rfl, rfl, rfl⟩
          · refine R_aload dX11_christening_66 rfl ?_
            refine R_iload dX11_christening_68 rfl ?_
            refine R_aload dX11_christening_70 rfl ?_
            refine R_getR _ (hr _ _ _ rfl) fd5_0 kf11_107 rfl dX11_christening_72 ?_
            refine R_iload_n dX11_christening_75 rfl ?_
            refine R_iald rfl (by omega) (by omega) dX11_christening_76 ?_
            refine R_callV (c_X5_has hr hN _ _) (mvX5_has _) kiX5_has kvX5_has km11_87 rfl rfl (by decide) ⟨rfl, rfl, by decide, by decide⟩ (Nat.le_of_ble_eq_true rfl) dX11_christening_77 (fun v1 sh1 g1 z1 r1 hq => ?_)
            obtain ⟨rfl, rfl, rfl, rfl, rfl⟩ := hq
            refine R_if_ne 85 dX11_christening_80 (by decide) (fun hc80 => ?_) (fun hc80 => ?_)
            · try simp only [b2i_z, bi_z, ne_eq, Classical.not_not] at hc80
              refine R_aload_n dX11_christening_85 rfl ?_
              refine R_getR _ (hr _ _ _ rfl) fd11_0 kf11_10 rfl dX11_christening_86 ?_
              refine R_getR _ (hr _ _ _ rfl) fd0_2 kf11_111 rfl dX11_christening_89 ?_
              refine R_iload_n dX11_christening_92 rfl ?_
              refine R_iload_n dX11_christening_93 rfl ?_
              refine R_iload_n dX11_christening_94 rfl ?_
              refine R_iload dX11_christening_95 rfl ?_
              refine R_iload dX11_christening_97 rfl ?_
              refine R_callV (c_X4_add hr n hsz hn ho v y f m p) (mvX4_add _) kiX4_add kvX4_add km11_115 rfl rfl (by decide) ⟨rfl, rfl, by decide, by decide⟩ (Nat.le_of_ble_eq_true rfl) dX11_christening_99 (fun v1 sh1 g1 z1 r1 hq => ?_)
              obtain ⟨⟨hk, rfl, o, rfl, ho2⟩ | ⟨hk, rfl, rfl⟩, rfl, rfl, rfl⟩ := hq
              · refine R_istore dX11_christening_102 (by decide) rfl [_, _, _, _, _, _, _, _] rfl ?_
                refine R_aload_n dX11_christening_104 rfl ?_
                refine R_getR _ (hr _ _ _ rfl) fd11_8 kf11_69 rfl dX11_christening_105 ?_
                refine R_callV (c_X10_forget) (mvX10_forget _) kiX10_forget kvX10_forget km11_84 rfl rfl (by decide) ⟨rfl, rfl, by decide, by decide⟩ (Nat.le_of_ble_eq_true rfl) dX11_christening_108 (fun v1 sh1 g1 z1 r1 hq => ?_)
                obtain ⟨⟨rfl, rfl⟩, rfl, rfl, rfl⟩ := hq
                refine R_iload dX11_christening_111 rfl ?_
                refine R_ireturn rfl (by first | rfl | exact nar_b2i | exact nar_bi) (by decide) (by decide) dX11_christening_113 ?_
                exact ⟨Or.inl ⟨⟨by omega, by omega, hk.1, hk.2.1, by unfold nmOK; simp only [vC]; omega, by unfold nmOK; simp only [vC]; omega, by unfold nmOK; simp only [vC]; omega, hk.2.2⟩, rfl, o, rfl, ho2⟩, rfl, rfl, rfl⟩
              · refine R_istore dX11_christening_102 (by decide) rfl [_, _, _, _, _, _, _, _] rfl ?_
                refine R_aload_n dX11_christening_104 rfl ?_
                refine R_getR _ (hr _ _ _ rfl) fd11_8 kf11_69 rfl dX11_christening_105 ?_
                refine R_callV (c_X10_forget) (mvX10_forget _) kiX10_forget kvX10_forget km11_84 rfl rfl (by decide) ⟨rfl, rfl, by decide, by decide⟩ (Nat.le_of_ble_eq_true rfl) dX11_christening_108 (fun v1 sh1 g1 z1 r1 hq => ?_)
                obtain ⟨⟨rfl, rfl⟩, rfl, rfl, rfl⟩ := hq
                refine R_iload dX11_christening_111 rfl ?_
                refine R_ireturn rfl (by first | rfl | exact nar_b2i | exact nar_bi) (by decide) (by decide) dX11_christening_113 ?_
                exact ⟨Or.inr ⟨fun q => hk ⟨q.2.2.1, q.2.2.2.1, q.2.2.2.2.2.2.2⟩, rfl, Or.inr rfl⟩, rfl, rfl, rfl⟩
            · try simp only [b2i_z, bi_z, ne_eq, Classical.not_not] at hc80
              refine R_iconst dX11_christening_83 rfl rfl ?_
              refine R_ireturn rfl (by first | rfl | exact nar_b2i | exact nar_bi) (by decide) (by decide) dX11_christening_84 ?_
              exact ⟨Or.inr ⟨fun q => by have q1 := q.2.2.2.2.1; have q2 := q.2.2.2.2.2.1; have q3 := q.2.2.2.2.2.2.1; unfold nmOK at q1 q2 q3; simp only [vC] at q1 q2 q3; have q4 := hv01 q.1 q.2.1; omega, rfl, Or.inl rfl⟩, rfl, rfl, rfl⟩
        · try simp only [b2i_z, bi_z, ne_eq, Classical.not_not] at hc55
          refine R_iconst dX11_christening_58 rfl rfl ?_
          refine R_ireturn rfl (by first | rfl | exact nar_b2i | exact nar_bi) (by decide) (by decide) dX11_christening_59 ?_
          exact ⟨Or.inr ⟨fun q => by have q1 := q.2.2.2.2.1; have q2 := q.2.2.2.2.2.1; have q3 := q.2.2.2.2.2.2.1; unfold nmOK at q1 q2 q3; simp only [vC] at q1 q2 q3; have q4 := hv01 q.1 q.2.1; omega, rfl, Or.inl rfl⟩, rfl, rfl, rfl⟩
    · try simp only [b2i_z, bi_z, ne_eq, Classical.not_not] at hc36
      refine R_iconst dX11_christening_39 rfl rfl ?_
      refine R_ireturn rfl (by first | rfl | exact nar_b2i | exact nar_bi) (by decide) (by decide) dX11_christening_40 ?_
      exact ⟨Or.inr ⟨fun q => by have q1 := q.2.2.2.2.1; have q2 := q.2.2.2.2.2.1; have q3 := q.2.2.2.2.2.2.1; unfold nmOK at q1 q2 q3; simp only [vC] at q1 q2 q3; have q4 := hv01 q.1 q.2.1; omega, rfl, Or.inl rfl⟩, rfl, rfl, rfl⟩
  · try simp only [b2i_z, bi_z, ne_eq, Classical.not_not] at hc16
    refine R_aload dX11_christening_19 rfl ?_
    refine R_iload_n dX11_christening_21 rfl ?_
    refine R_iconst dX11_christening_22 rfl rfl ?_
    refine R_callV (c_X5_has hr hN _ _) (mvX5_has _) kiX5_has kvX5_has km11_87 rfl rfl (by decide) ⟨rfl, rfl, by decide, by decide⟩ (Nat.le_of_ble_eq_true rfl) dX11_christening_23 (fun v1 sh1 g1 z1 r1 hq => ?_)
    obtain ⟨rfl, rfl, rfl, rfl, rfl⟩ := hq
    refine R_if_eq 39 dX11_christening_26 (by decide) (fun hc26 => ?_) (fun hc26 => ?_)
    · try simp only [b2i_z, bi_z, ne_eq, Classical.not_not] at hc26
      refine R_iconst dX11_christening_39 rfl rfl ?_
      refine R_ireturn rfl (by first | rfl | exact nar_b2i | exact nar_bi) (by decide) (by decide) dX11_christening_40 ?_
      exact ⟨Or.inr ⟨fun q => by have q1 := q.2.2.2.2.1; have q2 := q.2.2.2.2.2.1; have q3 := q.2.2.2.2.2.2.1; unfold nmOK at q1 q2 q3; simp only [vC] at q1 q2 q3; have q4 := hv01 q.1 q.2.1; omega, rfl, Or.inl rfl⟩, rfl, rfl, rfl⟩
    · try simp only [b2i_z, bi_z, ne_eq, Classical.not_not] at hc26
      refine R_aload dX11_christening_29 rfl ?_
      refine R_iload_n dX11_christening_31 rfl ?_
      refine R_iconst dX11_christening_32 rfl rfl ?_
      refine R_callV (c_X5_has hr hN _ _) (mvX5_has _) kiX5_has kvX5_has km11_87 rfl rfl (by decide) ⟨rfl, rfl, by decide, by decide⟩ (Nat.le_of_ble_eq_true rfl) dX11_christening_33 (fun v1 sh1 g1 z1 r1 hq => ?_)
      obtain ⟨rfl, rfl, rfl, rfl, rfl⟩ := hq
      refine R_if_ne 41 dX11_christening_36 (by decide) (fun hc36 => ?_) (fun hc36 => ?_)
      · try simp only [b2i_z, bi_z, ne_eq, Classical.not_not] at hc36
        refine R_iload dX11_christening_41 rfl ?_
        refine R_iconst dX11_christening_43 rfl rfl ?_
        refine R_icmp_eq 60 dX11_christening_44 (by decide) (fun hc44 => ?_) (fun hc44 => ?_)
        · refine R_iload dX11_christening_60 rfl ?_
          refine R_iconst dX11_christening_62 rfl rfl ?_
          refine R_icmp_eq 85 dX11_christening_63 (by decide) (fun hc63 => ?_) (fun hc63 => ?_)
          · refine R_aload_n dX11_christening_85 rfl ?_
            refine R_getR _ (hr _ _ _ rfl) fd11_0 kf11_10 rfl dX11_christening_86 ?_
            refine R_getR _ (hr _ _ _ rfl) fd0_2 kf11_111 rfl dX11_christening_89 ?_
            refine R_iload_n dX11_christening_92 rfl ?_
            refine R_iload_n dX11_christening_93 rfl ?_
            refine R_iload_n dX11_christening_94 rfl ?_
            refine R_iload dX11_christening_95 rfl ?_
            refine R_iload dX11_christening_97 rfl ?_
            refine R_callV (c_X4_add hr n hsz hn ho v y f m p) (mvX4_add _) kiX4_add kvX4_add km11_115 rfl rfl (by decide) ⟨rfl, rfl, by decide, by decide⟩ (Nat.le_of_ble_eq_true rfl) dX11_christening_99 (fun v1 sh1 g1 z1 r1 hq => ?_)
            obtain ⟨⟨hk, rfl, o, rfl, ho2⟩ | ⟨hk, rfl, rfl⟩, rfl, rfl, rfl⟩ := hq
            · refine R_istore dX11_christening_102 (by decide) rfl [_, _, _, _, _, _, _, _] rfl ?_
              refine R_aload_n dX11_christening_104 rfl ?_
              refine R_getR _ (hr _ _ _ rfl) fd11_8 kf11_69 rfl dX11_christening_105 ?_
              refine R_callV (c_X10_forget) (mvX10_forget _) kiX10_forget kvX10_forget km11_84 rfl rfl (by decide) ⟨rfl, rfl, by decide, by decide⟩ (Nat.le_of_ble_eq_true rfl) dX11_christening_108 (fun v1 sh1 g1 z1 r1 hq => ?_)
              obtain ⟨⟨rfl, rfl⟩, rfl, rfl, rfl⟩ := hq
              refine R_iload dX11_christening_111 rfl ?_
              refine R_ireturn rfl (by first | rfl | exact nar_b2i | exact nar_bi) (by decide) (by decide) dX11_christening_113 ?_
              exact ⟨Or.inl ⟨⟨by omega, by omega, hk.1, hk.2.1, by unfold nmOK; simp only [vC]; omega, by unfold nmOK; simp only [vC]; omega, by unfold nmOK; simp only [vC]; omega, hk.2.2⟩, rfl, o, rfl, ho2⟩, rfl, rfl, rfl⟩
            · refine R_istore dX11_christening_102 (by decide) rfl [_, _, _, _, _, _, _, _] rfl ?_
              refine R_aload_n dX11_christening_104 rfl ?_
              refine R_getR _ (hr _ _ _ rfl) fd11_8 kf11_69 rfl dX11_christening_105 ?_
              refine R_callV (c_X10_forget) (mvX10_forget _) kiX10_forget kvX10_forget km11_84 rfl rfl (by decide) ⟨rfl, rfl, by decide, by decide⟩ (Nat.le_of_ble_eq_true rfl) dX11_christening_108 (fun v1 sh1 g1 z1 r1 hq => ?_)
              obtain ⟨⟨rfl, rfl⟩, rfl, rfl, rfl⟩ := hq
              refine R_iload dX11_christening_111 rfl ?_
              refine R_ireturn rfl (by first | rfl | exact nar_b2i | exact nar_bi) (by decide) (by decide) dX11_christening_113 ?_
              exact ⟨Or.inr ⟨fun q => hk ⟨q.2.2.1, q.2.2.2.1, q.2.2.2.2.2.2.2⟩, rfl, Or.inr rfl⟩, rfl, rfl, rfl⟩
          · refine R_aload dX11_christening_66 rfl ?_
            refine R_iload dX11_christening_68 rfl ?_
            refine R_aload dX11_christening_70 rfl ?_
            refine R_getR _ (hr _ _ _ rfl) fd5_0 kf11_107 rfl dX11_christening_72 ?_
            refine R_iload_n dX11_christening_75 rfl ?_
            refine R_iald rfl (by omega) (by omega) dX11_christening_76 ?_
            refine R_callV (c_X5_has hr hN _ _) (mvX5_has _) kiX5_has kvX5_has km11_87 rfl rfl (by decide) ⟨rfl, rfl, by decide, by decide⟩ (Nat.le_of_ble_eq_true rfl) dX11_christening_77 (fun v1 sh1 g1 z1 r1 hq => ?_)
            obtain ⟨rfl, rfl, rfl, rfl, rfl⟩ := hq
            refine R_if_ne 85 dX11_christening_80 (by decide) (fun hc80 => ?_) (fun hc80 => ?_)
            · try simp only [b2i_z, bi_z, ne_eq, Classical.not_not] at hc80
              refine R_aload_n dX11_christening_85 rfl ?_
              refine R_getR _ (hr _ _ _ rfl) fd11_0 kf11_10 rfl dX11_christening_86 ?_
              refine R_getR _ (hr _ _ _ rfl) fd0_2 kf11_111 rfl dX11_christening_89 ?_
              refine R_iload_n dX11_christening_92 rfl ?_
              refine R_iload_n dX11_christening_93 rfl ?_
              refine R_iload_n dX11_christening_94 rfl ?_
              refine R_iload dX11_christening_95 rfl ?_
              refine R_iload dX11_christening_97 rfl ?_
              refine R_callV (c_X4_add hr n hsz hn ho v y f m p) (mvX4_add _) kiX4_add kvX4_add km11_115 rfl rfl (by decide) ⟨rfl, rfl, by decide, by decide⟩ (Nat.le_of_ble_eq_true rfl) dX11_christening_99 (fun v1 sh1 g1 z1 r1 hq => ?_)
              obtain ⟨⟨hk, rfl, o, rfl, ho2⟩ | ⟨hk, rfl, rfl⟩, rfl, rfl, rfl⟩ := hq
              · refine R_istore dX11_christening_102 (by decide) rfl [_, _, _, _, _, _, _, _] rfl ?_
                refine R_aload_n dX11_christening_104 rfl ?_
                refine R_getR _ (hr _ _ _ rfl) fd11_8 kf11_69 rfl dX11_christening_105 ?_
                refine R_callV (c_X10_forget) (mvX10_forget _) kiX10_forget kvX10_forget km11_84 rfl rfl (by decide) ⟨rfl, rfl, by decide, by decide⟩ (Nat.le_of_ble_eq_true rfl) dX11_christening_108 (fun v1 sh1 g1 z1 r1 hq => ?_)
                obtain ⟨⟨rfl, rfl⟩, rfl, rfl, rfl⟩ := hq
                refine R_iload dX11_christening_111 rfl ?_
                refine R_ireturn rfl (by first | rfl | exact nar_b2i | exact nar_bi) (by decide) (by decide) dX11_christening_113 ?_
                exact ⟨Or.inl ⟨⟨by omega, by omega, hk.1, hk.2.1, by unfold nmOK; simp only [vC]; omega, by unfold nmOK; simp only [vC]; omega, by unfold nmOK; simp only [vC]; omega, hk.2.2⟩, rfl, o, rfl, ho2⟩, rfl, rfl, rfl⟩
              · refine R_istore dX11_christening_102 (by decide) rfl [_, _, _, _, _, _, _, _] rfl ?_
                refine R_aload_n dX11_christening_104 rfl ?_
                refine R_getR _ (hr _ _ _ rfl) fd11_8 kf11_69 rfl dX11_christening_105 ?_
                refine R_callV (c_X10_forget) (mvX10_forget _) kiX10_forget kvX10_forget km11_84 rfl rfl (by decide) ⟨rfl, rfl, by decide, by decide⟩ (Nat.le_of_ble_eq_true rfl) dX11_christening_108 (fun v1 sh1 g1 z1 r1 hq => ?_)
                obtain ⟨⟨rfl, rfl⟩, rfl, rfl, rfl⟩ := hq
                refine R_iload dX11_christening_111 rfl ?_
                refine R_ireturn rfl (by first | rfl | exact nar_b2i | exact nar_bi) (by decide) (by decide) dX11_christening_113 ?_
                exact ⟨Or.inr ⟨fun q => hk ⟨q.2.2.1, q.2.2.2.1, q.2.2.2.2.2.2.2⟩, rfl, Or.inr rfl⟩, rfl, rfl, rfl⟩
            · try simp only [b2i_z, bi_z, ne_eq, Classical.not_not] at hc80
              refine R_iconst dX11_christening_83 rfl rfl ?_
              refine R_ireturn rfl (by first | rfl | exact nar_b2i | exact nar_bi) (by decide) (by decide) dX11_christening_84 ?_
              exact ⟨Or.inr ⟨fun q => by have q1 := q.2.2.2.2.1; have q2 := q.2.2.2.2.2.1; have q3 := q.2.2.2.2.2.2.1; unfold nmOK at q1 q2 q3; simp only [vC] at q1 q2 q3; have q4 := hv01 q.1 q.2.1; omega, rfl, Or.inl rfl⟩, rfl, rfl, rfl⟩
        · refine R_aload dX11_christening_47 rfl ?_
          refine R_iload dX11_christening_49 rfl ?_
          refine R_iconst dX11_christening_51 rfl rfl ?_
          refine R_callV (c_X5_has hr hN _ _) (mvX5_has _) kiX5_has kvX5_has km11_87 rfl rfl (by decide) ⟨rfl, rfl, by decide, by decide⟩ (Nat.le_of_ble_eq_true rfl) dX11_christening_52 (fun v1 sh1 g1 z1 r1 hq => ?_)
          obtain ⟨rfl, rfl, rfl, rfl, rfl⟩ := hq
          refine R_if_ne 60 dX11_christening_55 (by decide) (fun hc55 => ?_) (fun hc55 => ?_)
          · try simp only [b2i_z, bi_z, ne_eq, Classical.not_not] at hc55
            refine R_iload dX11_christening_60 rfl ?_
            refine R_iconst dX11_christening_62 rfl rfl ?_
            refine R_icmp_eq 85 dX11_christening_63 (by decide) (fun hc63 => ?_) (fun hc63 => ?_)
            · refine R_aload_n dX11_christening_85 rfl ?_
              refine R_getR _ (hr _ _ _ rfl) fd11_0 kf11_10 rfl dX11_christening_86 ?_
              refine R_getR _ (hr _ _ _ rfl) fd0_2 kf11_111 rfl dX11_christening_89 ?_
              refine R_iload_n dX11_christening_92 rfl ?_
              refine R_iload_n dX11_christening_93 rfl ?_
              refine R_iload_n dX11_christening_94 rfl ?_
              refine R_iload dX11_christening_95 rfl ?_
              refine R_iload dX11_christening_97 rfl ?_
              refine R_callV (c_X4_add hr n hsz hn ho v y f m p) (mvX4_add _) kiX4_add kvX4_add km11_115 rfl rfl (by decide) ⟨rfl, rfl, by decide, by decide⟩ (Nat.le_of_ble_eq_true rfl) dX11_christening_99 (fun v1 sh1 g1 z1 r1 hq => ?_)
              obtain ⟨⟨hk, rfl, o, rfl, ho2⟩ | ⟨hk, rfl, rfl⟩, rfl, rfl, rfl⟩ := hq
              · refine R_istore dX11_christening_102 (by decide) rfl [_, _, _, _, _, _, _, _] rfl ?_
                refine R_aload_n dX11_christening_104 rfl ?_
                refine R_getR _ (hr _ _ _ rfl) fd11_8 kf11_69 rfl dX11_christening_105 ?_
                refine R_callV (c_X10_forget) (mvX10_forget _) kiX10_forget kvX10_forget km11_84 rfl rfl (by decide) ⟨rfl, rfl, by decide, by decide⟩ (Nat.le_of_ble_eq_true rfl) dX11_christening_108 (fun v1 sh1 g1 z1 r1 hq => ?_)
                obtain ⟨⟨rfl, rfl⟩, rfl, rfl, rfl⟩ := hq
                refine R_iload dX11_christening_111 rfl ?_
                refine R_ireturn rfl (by first | rfl | exact nar_b2i | exact nar_bi) (by decide) (by decide) dX11_christening_113 ?_
                exact ⟨Or.inl ⟨⟨by omega, by omega, hk.1, hk.2.1, by unfold nmOK; simp only [vC]; omega, by unfold nmOK; simp only [vC]; omega, by unfold nmOK; simp only [vC]; omega, hk.2.2⟩, rfl, o, rfl, ho2⟩, rfl, rfl, rfl⟩
              · refine R_istore dX11_christening_102 (by decide) rfl [_, _, _, _, _, _, _, _] rfl ?_
                refine R_aload_n dX11_christening_104 rfl ?_
                refine R_getR _ (hr _ _ _ rfl) fd11_8 kf11_69 rfl dX11_christening_105 ?_
                refine R_callV (c_X10_forget) (mvX10_forget _) kiX10_forget kvX10_forget km11_84 rfl rfl (by decide) ⟨rfl, rfl, by decide, by decide⟩ (Nat.le_of_ble_eq_true rfl) dX11_christening_108 (fun v1 sh1 g1 z1 r1 hq => ?_)
                obtain ⟨⟨rfl, rfl⟩, rfl, rfl, rfl⟩ := hq
                refine R_iload dX11_christening_111 rfl ?_
                refine R_ireturn rfl (by first | rfl | exact nar_b2i | exact nar_bi) (by decide) (by decide) dX11_christening_113 ?_
                exact ⟨Or.inr ⟨fun q => hk ⟨q.2.2.1, q.2.2.2.1, q.2.2.2.2.2.2.2⟩, rfl, Or.inr rfl⟩, rfl, rfl, rfl⟩
            · refine R_aload dX11_christening_66 rfl ?_
              refine R_iload dX11_christening_68 rfl ?_
              refine R_aload dX11_christening_70 rfl ?_
              refine R_getR _ (hr _ _ _ rfl) fd5_0 kf11_107 rfl dX11_christening_72 ?_
              refine R_iload_n dX11_christening_75 rfl ?_
              refine R_iald rfl (by omega) (by omega) dX11_christening_76 ?_
              refine R_callV (c_X5_has hr hN _ _) (mvX5_has _) kiX5_has kvX5_has km11_87 rfl rfl (by decide) ⟨rfl, rfl, by decide, by decide⟩ (Nat.le_of_ble_eq_true rfl) dX11_christening_77 (fun v1 sh1 g1 z1 r1 hq => ?_)
              obtain ⟨rfl, rfl, rfl, rfl, rfl⟩ := hq
              refine R_if_ne 85 dX11_christening_80 (by decide) (fun hc80 => ?_) (fun hc80 => ?_)
              · try simp only [b2i_z, bi_z, ne_eq, Classical.not_not] at hc80
                refine R_aload_n dX11_christening_85 rfl ?_
                refine R_getR _ (hr _ _ _ rfl) fd11_0 kf11_10 rfl dX11_christening_86 ?_
                refine R_getR _ (hr _ _ _ rfl) fd0_2 kf11_111 rfl dX11_christening_89 ?_
                refine R_iload_n dX11_christening_92 rfl ?_
                refine R_iload_n dX11_christening_93 rfl ?_
                refine R_iload_n dX11_christening_94 rfl ?_
                refine R_iload dX11_christening_95 rfl ?_
                refine R_iload dX11_christening_97 rfl ?_
                refine R_callV (c_X4_add hr n hsz hn ho v y f m p) (mvX4_add _) kiX4_add kvX4_add km11_115 rfl rfl (by decide) ⟨rfl, rfl, by decide, by decide⟩ (Nat.le_of_ble_eq_true rfl) dX11_christening_99 (fun v1 sh1 g1 z1 r1 hq => ?_)
                obtain ⟨⟨hk, rfl, o, rfl, ho2⟩ | ⟨hk, rfl, rfl⟩, rfl, rfl, rfl⟩ := hq
                · refine R_istore dX11_christening_102 (by decide) rfl [_, _, _, _, _, _, _, _] rfl ?_
                  refine R_aload_n dX11_christening_104 rfl ?_
                  refine R_getR _ (hr _ _ _ rfl) fd11_8 kf11_69 rfl dX11_christening_105 ?_
                  refine R_callV (c_X10_forget) (mvX10_forget _) kiX10_forget kvX10_forget km11_84 rfl rfl (by decide) ⟨rfl, rfl, by decide, by decide⟩ (Nat.le_of_ble_eq_true rfl) dX11_christening_108 (fun v1 sh1 g1 z1 r1 hq => ?_)
                  obtain ⟨⟨rfl, rfl⟩, rfl, rfl, rfl⟩ := hq
                  refine R_iload dX11_christening_111 rfl ?_
                  refine R_ireturn rfl (by first | rfl | exact nar_b2i | exact nar_bi) (by decide) (by decide) dX11_christening_113 ?_
                  exact ⟨Or.inl ⟨⟨by omega, by omega, hk.1, hk.2.1, by unfold nmOK; simp only [vC]; omega, by unfold nmOK; simp only [vC]; omega, by unfold nmOK; simp only [vC]; omega, hk.2.2⟩, rfl, o, rfl, ho2⟩, rfl, rfl, rfl⟩
                · refine R_istore dX11_christening_102 (by decide) rfl [_, _, _, _, _, _, _, _] rfl ?_
                  refine R_aload_n dX11_christening_104 rfl ?_
                  refine R_getR _ (hr _ _ _ rfl) fd11_8 kf11_69 rfl dX11_christening_105 ?_
                  refine R_callV (c_X10_forget) (mvX10_forget _) kiX10_forget kvX10_forget km11_84 rfl rfl (by decide) ⟨rfl, rfl, by decide, by decide⟩ (Nat.le_of_ble_eq_true rfl) dX11_christening_108 (fun v1 sh1 g1 z1 r1 hq => ?_)
                  obtain ⟨⟨rfl, rfl⟩, rfl, rfl, rfl⟩ := hq
                  refine R_iload dX11_christening_111 rfl ?_
                  refine R_ireturn rfl (by first | rfl | exact nar_b2i | exact nar_bi) (by decide) (by decide) dX11_christening_113 ?_
                  exact ⟨Or.inr ⟨fun q => hk ⟨q.2.2.1, q.2.2.2.1, q.2.2.2.2.2.2.2⟩, rfl, Or.inr rfl⟩, rfl, rfl, rfl⟩
              · try simp only [b2i_z, bi_z, ne_eq, Classical.not_not] at hc80
                refine R_iconst dX11_christening_83 rfl rfl ?_
                refine R_ireturn rfl (by first | rfl | exact nar_b2i | exact nar_bi) (by decide) (by decide) dX11_christening_84 ?_
                exact ⟨Or.inr ⟨fun q => by have q1 := q.2.2.2.2.1; have q2 := q.2.2.2.2.2.1; have q3 := q.2.2.2.2.2.2.1; unfold nmOK at q1 q2 q3; simp only [vC] at q1 q2 q3; have q4 := hv01 q.1 q.2.1; omega, rfl, Or.inl rfl⟩, rfl, rfl, rfl⟩
          · try simp only [b2i_z, bi_z, ne_eq, Classical.not_not] at hc55
            refine R_iconst dX11_christening_58 rfl rfl ?_
            refine R_ireturn rfl (by first | rfl | exact nar_b2i | exact nar_bi) (by decide) (by decide) dX11_christening_59 ?_
            exact ⟨Or.inr ⟨fun q => by have q1 := q.2.2.2.2.1; have q2 := q.2.2.2.2.2.1; have q3 := q.2.2.2.2.2.2.1; unfold nmOK at q1 q2 q3; simp only [vC] at q1 q2 q3; have q4 := hv01 q.1 q.2.1; omega, rfl, Or.inl rfl⟩, rfl, rfl, rfl⟩
      · try simp only [b2i_z, bi_z, ne_eq, Classical.not_not] at hc36
        refine R_iconst dX11_christening_39 rfl rfl ?_
        refine R_ireturn rfl (by first | rfl | exact nar_b2i | exact nar_bi) (by decide) (by decide) dX11_christening_40 ?_
        exact ⟨Or.inr ⟨fun q => by have q1 := q.2.2.2.2.1; have q2 := q.2.2.2.2.2.1; have q3 := q.2.2.2.2.2.2.1; unfold nmOK at q1 q2 q3; simp only [vC] at q1 q2 q3; have q4 := hv01 q.1 q.2.1; omega, rfl, Or.inl rfl⟩, rfl, rfl, rfl⟩
theorem p_died (hr : RS r) (hF : 0 ≤ g 11 7 ∧ g 11 7 ≤ 10) (i y : Int) : CT (mX11_died (rmD 5 0 0)) 0 0 shW [vR (some 0), vI i, vI y] g z r (qG shW z r fun x g' => ((0 ≤ i ∧ i < g 11 7 ∧ (y = -1 ∨ (g 13 i.toNat ≤ y ∧ y ≤ 299))) ∧ x = some (vI 1) ∧ g' = up2 (up2 g 17 i.toNat y) 41 10 0) ∨ (¬ (0 ≤ i ∧ i < g 11 7 ∧ (y = -1 ∨ (g 13 i.toNat ≤ y ∧ y ≤ 299))) ∧ x = some (vI 0) ∧ g' = g)) := by
  refine CT.of 0 rfl rfl ?_
  refine R_aload_n dX11_died_0 rfl ?_
  refine R_getR _ (hr _ _ _ rfl) fd11_0 kf11_10 rfl dX11_died_1 ?_
  refine R_getR _ (hr _ _ _ rfl) fd0_2 kf11_111 rfl dX11_died_4 ?_
  refine R_iload_n dX11_died_7 rfl ?_
  refine R_callV (c_X4_has hr _) (mvX4_has _) kiX4_has kvX4_has km11_120 rfl rfl (by decide) ⟨rfl, rfl, by decide, by decide⟩ (Nat.le_of_ble_eq_true rfl) dX11_died_8 (fun v1 sh1 g1 z1 r1 hq => ?_)
  obtain ⟨rfl, rfl, rfl, rfl, rfl⟩ := hq
  refine R_if_ne 16 dX11_died_11 (by decide) (fun hc11 => ?_) (fun hc11 => ?_)
  · try simp only [b2i_z, bi_z, ne_eq, Classical.not_not] at hc11
    refine R_iload_n dX11_died_16 rfl ?_
    refine R_iconst dX11_died_17 rfl rfl ?_
    refine R_icmp_eq 46 dX11_died_18 (by decide) (fun hc18 => ?_) (fun hc18 => ?_)
    · refine R_aload_n dX11_died_46 rfl ?_
      refine R_getR _ (hr _ _ _ rfl) fd11_0 kf11_10 rfl dX11_died_47 ?_
      try simp +decide only [up2_far, up2_s, up2_kk]
      refine R_getR _ (hr _ _ _ rfl) fd0_2 kf11_111 rfl dX11_died_50 ?_
      try simp +decide only [up2_far, up2_s, up2_kk]
      refine R_getR _ (hr _ _ _ rfl) fd4_5 kf11_124 rfl dX11_died_53 ?_
      try simp +decide only [up2_far, up2_s, up2_kk]
      refine R_iload_n dX11_died_56 rfl ?_
      refine R_iload_n dX11_died_57 rfl ?_
      refine R_iast rfl (by omega) (by omega) dX11_died_58 ?_
      refine R_aload_n dX11_died_59 rfl ?_
      refine R_getR _ (hr _ _ _ rfl) fd11_8 kf11_69 rfl dX11_died_60 ?_
      try simp +decide only [up2_far, up2_s, up2_kk]
      refine R_callV (c_X10_forget) (mvX10_forget _) kiX10_forget kvX10_forget km11_84 rfl rfl (by decide) ⟨rfl, rfl, by decide, by decide⟩ (Nat.le_of_ble_eq_true rfl) dX11_died_63 (fun v1 sh1 g1 z1 r1 hq => ?_)
      obtain ⟨⟨rfl, rfl⟩, rfl, rfl, rfl⟩ := hq
      refine R_iconst dX11_died_66 rfl rfl ?_
      refine R_ireturn rfl (by first | rfl | exact nar_b2i | exact nar_bi) (by decide) (by decide) dX11_died_67 ?_
      first | exact ⟨Or.inr ⟨by omega, rfl, rfl⟩, rfl, rfl, rfl⟩ | exact ⟨Or.inl ⟨by omega, rfl, rfl⟩, rfl, rfl, rfl⟩
    · refine R_iload_n dX11_died_21 rfl ?_
      refine R_aload_n dX11_died_22 rfl ?_
      refine R_getR _ (hr _ _ _ rfl) fd11_0 kf11_10 rfl dX11_died_23 ?_
      try simp +decide only [up2_far, up2_s, up2_kk]
      refine R_getR _ (hr _ _ _ rfl) fd0_2 kf11_111 rfl dX11_died_26 ?_
      try simp +decide only [up2_far, up2_s, up2_kk]
      refine R_getR _ (hr _ _ _ rfl) fd4_1 kf11_121 rfl dX11_died_29 ?_
      try simp +decide only [up2_far, up2_s, up2_kk]
      refine R_iload_n dX11_died_32 rfl ?_
      refine R_iald rfl (by omega) (by omega) dX11_died_33 ?_
      try simp +decide only [up2_far, up2_s, up2_kk]
      refine R_icmp_lt 44 dX11_died_34 (by decide) (fun hc34 => ?_) (fun hc34 => ?_)
      · refine R_iconst dX11_died_44 rfl rfl ?_
        refine R_ireturn rfl (by first | rfl | exact nar_b2i | exact nar_bi) (by decide) (by decide) dX11_died_45 ?_
        first | exact ⟨Or.inr ⟨by omega, rfl, rfl⟩, rfl, rfl, rfl⟩ | exact ⟨Or.inl ⟨by omega, rfl, rfl⟩, rfl, rfl, rfl⟩
      · refine R_iload_n dX11_died_37 rfl ?_
        refine R_sipush dX11_died_38 rfl (by decide +kernel) ?_
        refine R_icmp_le 46 dX11_died_41 (by decide) (fun hc41 => ?_) (fun hc41 => ?_)
        · refine R_aload_n dX11_died_46 rfl ?_
          refine R_getR _ (hr _ _ _ rfl) fd11_0 kf11_10 rfl dX11_died_47 ?_
          try simp +decide only [up2_far, up2_s, up2_kk]
          refine R_getR _ (hr _ _ _ rfl) fd0_2 kf11_111 rfl dX11_died_50 ?_
          try simp +decide only [up2_far, up2_s, up2_kk]
          refine R_getR _ (hr _ _ _ rfl) fd4_5 kf11_124 rfl dX11_died_53 ?_
          try simp +decide only [up2_far, up2_s, up2_kk]
          refine R_iload_n dX11_died_56 rfl ?_
          refine R_iload_n dX11_died_57 rfl ?_
          refine R_iast rfl (by omega) (by omega) dX11_died_58 ?_
          refine R_aload_n dX11_died_59 rfl ?_
          refine R_getR _ (hr _ _ _ rfl) fd11_8 kf11_69 rfl dX11_died_60 ?_
          try simp +decide only [up2_far, up2_s, up2_kk]
          refine R_callV (c_X10_forget) (mvX10_forget _) kiX10_forget kvX10_forget km11_84 rfl rfl (by decide) ⟨rfl, rfl, by decide, by decide⟩ (Nat.le_of_ble_eq_true rfl) dX11_died_63 (fun v1 sh1 g1 z1 r1 hq => ?_)
          obtain ⟨⟨rfl, rfl⟩, rfl, rfl, rfl⟩ := hq
          refine R_iconst dX11_died_66 rfl rfl ?_
          refine R_ireturn rfl (by first | rfl | exact nar_b2i | exact nar_bi) (by decide) (by decide) dX11_died_67 ?_
          first | exact ⟨Or.inr ⟨by omega, rfl, rfl⟩, rfl, rfl, rfl⟩ | exact ⟨Or.inl ⟨by omega, rfl, rfl⟩, rfl, rfl, rfl⟩
        · refine R_iconst dX11_died_44 rfl rfl ?_
          refine R_ireturn rfl (by first | rfl | exact nar_b2i | exact nar_bi) (by decide) (by decide) dX11_died_45 ?_
          first | exact ⟨Or.inr ⟨by omega, rfl, rfl⟩, rfl, rfl, rfl⟩ | exact ⟨Or.inl ⟨by omega, rfl, rfl⟩, rfl, rfl, rfl⟩
  · try simp only [b2i_z, bi_z, ne_eq, Classical.not_not] at hc11
    refine R_iconst dX11_died_14 rfl rfl ?_
    refine R_ireturn rfl (by first | rfl | exact nar_b2i | exact nar_bi) (by decide) (by decide) dX11_died_15 ?_
    first | exact ⟨Or.inr ⟨by omega, rfl, rfl⟩, rfl, rfl, rfl⟩ | exact ⟨Or.inl ⟨by omega, rfl, rfl⟩, rfl, rfl, rfl⟩
theorem p_weighs (hr : RS r) (a b : Int) : CT (mX11_weighs (rmD 5 0 0)) 0 0 shW [vR (some 0), vI a, vI b] g z r (qG shW z r fun x g' => ((0 ≤ a ∧ a ≤ 100 ∧ 0 ≤ b ∧ b ≤ 1000) ∧ x = some (vI 1) ∧ g' = up2 (up2 (up2 g 1 3 a) 1 4 b) 41 10 0) ∨ (¬ (0 ≤ a ∧ a ≤ 100 ∧ 0 ≤ b ∧ b ≤ 1000) ∧ x = some (vI 0) ∧ g' = g)) := by
  refine CT.of 0 rfl rfl ?_
  refine R_iload_n dX11_weighs_0 rfl ?_
  refine R_if_lt 21 dX11_weighs_1 (by decide) (fun hc1 => ?_) (fun hc1 => ?_)
  · refine R_iconst dX11_weighs_21 rfl rfl ?_
    refine R_ireturn rfl (by first | rfl | exact nar_b2i | exact nar_bi) (by decide) (by decide) dX11_weighs_22 ?_
    first | exact ⟨Or.inr ⟨by omega, rfl, rfl⟩, rfl, rfl, rfl⟩ | exact ⟨Or.inl ⟨by omega, rfl, rfl⟩, rfl, rfl, rfl⟩
  · refine R_iload_n dX11_weighs_4 rfl ?_
    refine R_bipush dX11_weighs_5 rfl (by decide +kernel) ?_
    refine R_icmp_gt 21 dX11_weighs_7 (by decide) (fun hc7 => ?_) (fun hc7 => ?_)
    · refine R_iconst dX11_weighs_21 rfl rfl ?_
      refine R_ireturn rfl (by first | rfl | exact nar_b2i | exact nar_bi) (by decide) (by decide) dX11_weighs_22 ?_
      first | exact ⟨Or.inr ⟨by omega, rfl, rfl⟩, rfl, rfl, rfl⟩ | exact ⟨Or.inl ⟨by omega, rfl, rfl⟩, rfl, rfl, rfl⟩
    · refine R_iload_n dX11_weighs_10 rfl ?_
      refine R_if_lt 21 dX11_weighs_11 (by decide) (fun hc11 => ?_) (fun hc11 => ?_)
      · refine R_iconst dX11_weighs_21 rfl rfl ?_
        refine R_ireturn rfl (by first | rfl | exact nar_b2i | exact nar_bi) (by decide) (by decide) dX11_weighs_22 ?_
        first | exact ⟨Or.inr ⟨by omega, rfl, rfl⟩, rfl, rfl, rfl⟩ | exact ⟨Or.inl ⟨by omega, rfl, rfl⟩, rfl, rfl, rfl⟩
      · refine R_iload_n dX11_weighs_14 rfl ?_
        refine R_sipush dX11_weighs_15 rfl (by decide +kernel) ?_
        refine R_icmp_le 23 dX11_weighs_18 (by decide) (fun hc18 => ?_) (fun hc18 => ?_)
        · refine R_aload_n dX11_weighs_23 rfl ?_
          refine R_getR _ (hr _ _ _ rfl) fd11_0 kf11_10 rfl dX11_weighs_24 ?_
          refine R_iload_n dX11_weighs_27 rfl ?_
          refine R_putI fd0_3 rfl kf11_127 rfl dX11_weighs_28 ?_
          refine R_aload_n dX11_weighs_31 rfl ?_
          refine R_getR _ (hr _ _ _ rfl) fd11_0 kf11_10 rfl dX11_weighs_32 ?_
          try simp +decide only [up2_far, up2_s, up2_kk]
          refine R_iload_n dX11_weighs_35 rfl ?_
          refine R_putI fd0_4 rfl kf11_131 rfl dX11_weighs_36 ?_
          refine R_aload_n dX11_weighs_39 rfl ?_
          refine R_getR _ (hr _ _ _ rfl) fd11_8 kf11_69 rfl dX11_weighs_40 ?_
          try simp +decide only [up2_far, up2_s, up2_kk]
          refine R_callV (c_X10_forget) (mvX10_forget _) kiX10_forget kvX10_forget km11_84 rfl rfl (by decide) ⟨rfl, rfl, by decide, by decide⟩ (Nat.le_of_ble_eq_true rfl) dX11_weighs_43 (fun v1 sh1 g1 z1 r1 hq => ?_)
          obtain ⟨⟨rfl, rfl⟩, rfl, rfl, rfl⟩ := hq
          refine R_iconst dX11_weighs_46 rfl rfl ?_
          refine R_ireturn rfl (by first | rfl | exact nar_b2i | exact nar_bi) (by decide) (by decide) dX11_weighs_47 ?_
          first | exact ⟨Or.inr ⟨by omega, rfl, rfl⟩, rfl, rfl, rfl⟩ | exact ⟨Or.inl ⟨by omega, rfl, rfl⟩, rfl, rfl, rfl⟩
        · refine R_iconst dX11_weighs_21 rfl rfl ?_
          refine R_ireturn rfl (by first | rfl | exact nar_b2i | exact nar_bi) (by decide) (by decide) dX11_weighs_22 ?_
          first | exact ⟨Or.inr ⟨by omega, rfl, rfl⟩, rfl, rfl, rfl⟩ | exact ⟨Or.inl ⟨by omega, rfl, rfl⟩, rfl, rfl, rfl⟩
theorem p_customs (hr : RS r) (a b y : Int) : CT (mX11_customs (rmD 5 0 0)) 0 0 shW [vR (some 0), vI a, vI b, vI y] g z r (qG shW z r fun x g' => ((0 ≤ a ∧ a < 4 ∧ 0 ≤ b ∧ b < 4 ∧ 0 ≤ y ∧ y ≤ 300) ∧ x = some (vI 1) ∧ g' = up2 (up2 (up2 (up2 g 30 1 a) 30 2 b) 30 3 y) 41 10 0) ∨ (¬ (0 ≤ a ∧ a < 4 ∧ 0 ≤ b ∧ b < 4 ∧ 0 ≤ y ∧ y ≤ 300) ∧ x = some (vI 0) ∧ g' = g)) := by
  refine CT.of 0 rfl rfl ?_
  refine R_iload_n dX11_customs_0 rfl ?_
  refine R_if_lt 37 dX11_customs_1 (by decide) (fun hc1 => ?_) (fun hc1 => ?_)
  · refine R_iconst dX11_customs_37 rfl rfl ?_
    refine R_ireturn rfl (by first | rfl | exact nar_b2i | exact nar_bi) (by decide) (by decide) dX11_customs_38 ?_
    first | exact ⟨Or.inr ⟨by omega, rfl, rfl⟩, rfl, rfl, rfl⟩ | exact ⟨Or.inl ⟨by omega, rfl, rfl⟩, rfl, rfl, rfl⟩
  · refine R_iload_n dX11_customs_4 rfl ?_
    refine R_aload_n dX11_customs_5 rfl ?_
    refine R_getR _ (hr _ _ _ rfl) fd11_2 kf11_25 rfl dX11_customs_6 ?_
    refine R_alen18 rfl (by decide) dX11_customs_9 ?_
    refine R_icmp_ge 37 dX11_customs_10 (by decide) (fun hc10 => ?_) (fun hc10 => ?_)
    · refine R_iconst dX11_customs_37 rfl rfl ?_
      refine R_ireturn rfl (by first | rfl | exact nar_b2i | exact nar_bi) (by decide) (by decide) dX11_customs_38 ?_
      first | exact ⟨Or.inr ⟨by omega, rfl, rfl⟩, rfl, rfl, rfl⟩ | exact ⟨Or.inl ⟨by omega, rfl, rfl⟩, rfl, rfl, rfl⟩
    · refine R_iload_n dX11_customs_13 rfl ?_
      refine R_if_lt 37 dX11_customs_14 (by decide) (fun hc14 => ?_) (fun hc14 => ?_)
      · refine R_iconst dX11_customs_37 rfl rfl ?_
        refine R_ireturn rfl (by first | rfl | exact nar_b2i | exact nar_bi) (by decide) (by decide) dX11_customs_38 ?_
        first | exact ⟨Or.inr ⟨by omega, rfl, rfl⟩, rfl, rfl, rfl⟩ | exact ⟨Or.inl ⟨by omega, rfl, rfl⟩, rfl, rfl, rfl⟩
      · refine R_iload_n dX11_customs_17 rfl ?_
        refine R_aload_n dX11_customs_18 rfl ?_
        refine R_getR _ (hr _ _ _ rfl) fd11_2 kf11_25 rfl dX11_customs_19 ?_
        refine R_alen18 rfl (by decide) dX11_customs_22 ?_
        refine R_icmp_ge 37 dX11_customs_23 (by decide) (fun hc23 => ?_) (fun hc23 => ?_)
        · refine R_iconst dX11_customs_37 rfl rfl ?_
          refine R_ireturn rfl (by first | rfl | exact nar_b2i | exact nar_bi) (by decide) (by decide) dX11_customs_38 ?_
          first | exact ⟨Or.inr ⟨by omega, rfl, rfl⟩, rfl, rfl, rfl⟩ | exact ⟨Or.inl ⟨by omega, rfl, rfl⟩, rfl, rfl, rfl⟩
        · refine R_iload_n dX11_customs_26 rfl ?_
          refine R_if_lt 37 dX11_customs_27 (by decide) (fun hc27 => ?_) (fun hc27 => ?_)
          · refine R_iconst dX11_customs_37 rfl rfl ?_
            refine R_ireturn rfl (by first | rfl | exact nar_b2i | exact nar_bi) (by decide) (by decide) dX11_customs_38 ?_
            first | exact ⟨Or.inr ⟨by omega, rfl, rfl⟩, rfl, rfl, rfl⟩ | exact ⟨Or.inl ⟨by omega, rfl, rfl⟩, rfl, rfl, rfl⟩
          · refine R_iload_n dX11_customs_30 rfl ?_
            refine R_sipush dX11_customs_31 rfl (by decide +kernel) ?_
            refine R_icmp_le 39 dX11_customs_34 (by decide) (fun hc34 => ?_) (fun hc34 => ?_)
            · refine R_aload_n dX11_customs_39 rfl ?_
              refine R_getR _ (hr _ _ _ rfl) fd11_4 kf11_41 rfl dX11_customs_40 ?_
              refine R_iload_n dX11_customs_43 rfl ?_
              refine R_iload_n dX11_customs_44 rfl ?_
              refine R_iload_n dX11_customs_45 rfl ?_
              refine R_callV (c_X9_tell 30 rfl _ _ _) (mvX9_tell _) kiX9_tell kvX9_tell km11_160 rfl rfl (by decide) ⟨rfl, rfl, by decide, by decide⟩ (Nat.le_of_ble_eq_true rfl) dX11_customs_46 (fun v1 sh1 g1 z1 r1 hq => ?_)
              obtain ⟨⟨rfl, rfl⟩, rfl, rfl, rfl⟩ := hq
              refine R_aload_n dX11_customs_49 rfl ?_
              refine R_getR _ (hr _ _ _ rfl) fd11_8 kf11_69 rfl dX11_customs_50 ?_
              try simp +decide only [up2_far, up2_s, up2_kk]
              refine R_callV (c_X10_forget) (mvX10_forget _) kiX10_forget kvX10_forget km11_84 rfl rfl (by decide) ⟨rfl, rfl, by decide, by decide⟩ (Nat.le_of_ble_eq_true rfl) dX11_customs_53 (fun v1 sh1 g1 z1 r1 hq => ?_)
              obtain ⟨⟨rfl, rfl⟩, rfl, rfl, rfl⟩ := hq
              refine R_iconst dX11_customs_56 rfl rfl ?_
              refine R_ireturn rfl (by first | rfl | exact nar_b2i | exact nar_bi) (by decide) (by decide) dX11_customs_57 ?_
              first | exact ⟨Or.inr ⟨by omega, rfl, rfl⟩, rfl, rfl, rfl⟩ | exact ⟨Or.inl ⟨by omega, rfl, rfl⟩, rfl, rfl, rfl⟩
            · refine R_iconst dX11_customs_37 rfl rfl ?_
              refine R_ireturn rfl (by first | rfl | exact nar_b2i | exact nar_bi) (by decide) (by decide) dX11_customs_38 ?_
              first | exact ⟨Or.inr ⟨by omega, rfl, rfl⟩, rfl, rfl, rfl⟩ | exact ⟨Or.inl ⟨by omega, rfl, rfl⟩, rfl, rfl, rfl⟩
theorem p_tie (hr : RS r) (hC : 0 ≤ g 5 5 ∧ g 5 5 ≤ 6) (hF : 0 ≤ g 11 7 ∧ g 11 7 ≤ 10) (i c : Int) : CT (mX11_tie (rmD 5 0 0)) 0 0 shW [vR (some 0), vI i, vI c] g z r (qP shW g z r (some (vI (if 0 ≤ i ∧ i < g 11 7 ∧ 0 ≤ c ∧ c < g 5 5 then bi (canTie (vC g) i.toNat c.toNat) else -1)))) := by
  refine CT.of 0 rfl rfl ?_
  refine R_aload_n dX11_tie_0 rfl ?_
  refine R_getR _ (hr _ _ _ rfl) fd11_0 kf11_10 rfl dX11_tie_1 ?_
  refine R_getR _ (hr _ _ _ rfl) fd0_2 kf11_111 rfl dX11_tie_4 ?_
  refine R_iload_n dX11_tie_7 rfl ?_
  refine R_callV (c_X4_has hr _) (mvX4_has _) kiX4_has kvX4_has km11_120 rfl rfl (by decide) ⟨rfl, rfl, by decide, by decide⟩ (Nat.le_of_ble_eq_true rfl) dX11_tie_8 (fun v1 sh1 g1 z1 r1 hq => ?_)
  obtain ⟨rfl, rfl, rfl, rfl, rfl⟩ := hq
  refine R_if_eq 28 dX11_tie_11 (by decide) (fun hc11 => ?_) (fun hc11 => ?_)
  · try simp only [b2i_z, bi_z, ne_eq, Classical.not_not] at hc11
    refine R_iconst dX11_tie_28 rfl rfl ?_
    refine R_ireturn rfl (by first | rfl | exact nar_b2i | exact nar_bi) (by decide) (by decide) dX11_tie_29 ?_
    first | exact ⟨by rw [if_neg (by omega)], rfl, rfl, rfl, rfl⟩ | exact ⟨by rw [if_pos (by omega)]; first | rw [bi_t hc39] | rw [bi_f hc39], rfl, rfl, rfl, rfl⟩
  · try simp only [b2i_z, bi_z, ne_eq, Classical.not_not] at hc11
    refine R_aload_n dX11_tie_14 rfl ?_
    refine R_getR _ (hr _ _ _ rfl) fd11_0 kf11_10 rfl dX11_tie_15 ?_
    refine R_getR _ (hr _ _ _ rfl) fd0_1 kf11_91 rfl dX11_tie_18 ?_
    refine R_iload_n dX11_tie_21 rfl ?_
    refine R_callV (c_X1_has hr _) (mvX1_has _) kiX1_has kvX1_has km11_100 rfl rfl (by decide) ⟨rfl, rfl, by decide, by decide⟩ (Nat.le_of_ble_eq_true rfl) dX11_tie_22 (fun v1 sh1 g1 z1 r1 hq => ?_)
    obtain ⟨rfl, rfl, rfl, rfl, rfl⟩ := hq
    refine R_if_ne 30 dX11_tie_25 (by decide) (fun hc25 => ?_) (fun hc25 => ?_)
    · try simp only [b2i_z, bi_z, ne_eq, Classical.not_not] at hc25
      refine R_aload_n dX11_tie_30 rfl ?_
      refine R_getR _ (hr _ _ _ rfl) fd11_0 kf11_10 rfl dX11_tie_31 ?_
      refine R_iload_n dX11_tie_34 rfl ?_
      refine R_iload_n dX11_tie_35 rfl ?_
      refine R_callV (c_X0_canTie hr _ _ (by omega) (by omega)) (mvX0_canTie _) kiX0_canTie kvX0_canTie km11_163 rfl rfl (by decide) ⟨rfl, rfl, by decide, by decide⟩ (Nat.le_of_ble_eq_true rfl) dX11_tie_36 (fun v1 sh1 g1 z1 r1 hq => ?_)
      obtain ⟨rfl, rfl, rfl, rfl, rfl⟩ := hq
      refine R_if_eq 46 dX11_tie_39 (by decide) (fun hc39 => ?_) (fun hc39 => ?_)
      · try simp only [b2i_z, bi_z, ne_eq, Classical.not_not] at hc39
        refine R_iconst dX11_tie_46 rfl rfl ?_
        refine R_ireturn rfl (by first | rfl | exact nar_b2i | exact nar_bi) (by decide) (by decide) dX11_tie_47 ?_
        first | exact ⟨by rw [if_neg (by omega)], rfl, rfl, rfl, rfl⟩ | exact ⟨by rw [if_pos (by omega)]; first | rw [bi_t hc39] | rw [bi_f hc39], rfl, rfl, rfl, rfl⟩
      · try simp only [b2i_z, bi_z, ne_eq, Classical.not_not] at hc39
        refine R_iconst dX11_tie_42 rfl rfl ?_
        refine R_goto 47 dX11_tie_43 (by decide) ?_
        refine R_ireturn rfl (by first | rfl | exact nar_b2i | exact nar_bi) (by decide) (by decide) dX11_tie_47 ?_
        first | exact ⟨by rw [if_neg (by omega)], rfl, rfl, rfl, rfl⟩ | exact ⟨by rw [if_pos (by omega)]; first | rw [bi_t hc39] | rw [bi_f hc39], rfl, rfl, rfl, rfl⟩
    · try simp only [b2i_z, bi_z, ne_eq, Classical.not_not] at hc25
      refine R_iconst dX11_tie_28 rfl rfl ?_
      refine R_ireturn rfl (by first | rfl | exact nar_b2i | exact nar_bi) (by decide) (by decide) dX11_tie_29 ?_
      first | exact ⟨by rw [if_neg (by omega)], rfl, rfl, rfl, rfl⟩ | exact ⟨by rw [if_pos (by omega)]; first | rw [bi_t hc39] | rw [bi_f hc39], rfl, rfl, rfl, rfl⟩
/-- look -/
def lookS (s : VW) (i w : Int) : Int := if 0 ≤ i ∧ i < s 0 2 ∧ 0 ≤ w ∧ w ≤ 5 then s (8 + w.toNat) i.toNat else -1
theorem p_look (hr : RS r) (hF : 0 ≤ g 11 7 ∧ g 11 7 ≤ 10) (i w : Int) : CT (mX11_look (rmD 5 0 0)) 0 0 shW [vR (some 0), vI i, vI w] g z r (qP shW g z r (some (vI (lookS (vC g) i w)))) := by
  refine CT.of 0 rfl rfl ?_
  have e : (vC g) 0 2 = g 11 7 := rfl
  refine R_aload_n dX11_look_0 rfl ?_
  refine R_getR _ (hr _ _ _ rfl) fd11_0 kf11_10 rfl dX11_look_1 ?_
  refine R_getR _ (hr _ _ _ rfl) fd0_2 kf11_111 rfl dX11_look_4 ?_
  refine R_iload_n dX11_look_7 rfl ?_
  refine R_callV (c_X4_has hr _) (mvX4_has _) kiX4_has kvX4_has km11_120 rfl rfl (by decide) ⟨rfl, rfl, by decide, by decide⟩ (Nat.le_of_ble_eq_true rfl) dX11_look_8 (fun v1 sh1 g1 z1 r1 hq => ?_)
  obtain ⟨rfl, rfl, rfl, rfl, rfl⟩ := hq
  refine R_if_ne 16 dX11_look_11 (by decide) (fun hc11 => ?_) (fun hc11 => ?_)
  · try simp only [b2i_z, bi_z, ne_eq, Classical.not_not] at hc11
    refine R_iload_n dX11_look_16 rfl ?_
    refine R_ts [56, 69, 82, 95, 108, 121] 134 dX11_look_17 (by decide) (by decide) (by decide) (fun i17 t17 ht17 ha17 => ?_) (fun hc17 => ?_)
    · match i17, ht17 with
      | 0, ht17 =>
        cases ht17
        refine R_aload_n dX11_look_56 rfl ?_
        refine R_getR _ (hr _ _ _ rfl) fd11_0 kf11_10 rfl dX11_look_57 ?_
        refine R_getR _ (hr _ _ _ rfl) fd0_2 kf11_111 rfl dX11_look_60 ?_
        refine R_getR _ (hr _ _ _ rfl) fd4_0 kf11_272 rfl dX11_look_63 ?_
        refine R_iload_n dX11_look_66 rfl ?_
        refine R_iald rfl (by omega) (by omega) dX11_look_67 ?_
        refine R_ireturn rfl (by first | rfl | exact nar_b2i | exact nar_bi) (by decide) (by decide) dX11_look_68 ?_
        first | exact ⟨by rw [lookS, e, if_neg (by omega)], rfl, rfl, rfl, rfl⟩ | exact ⟨by rw [ha17, lookS, e, if_pos (by omega)]; rfl, rfl, rfl, rfl, rfl⟩
      | 1, ht17 =>
        cases ht17
        refine R_aload_n dX11_look_69 rfl ?_
        refine R_getR _ (hr _ _ _ rfl) fd11_0 kf11_10 rfl dX11_look_70 ?_
        refine R_getR _ (hr _ _ _ rfl) fd0_2 kf11_111 rfl dX11_look_73 ?_
        refine R_getR _ (hr _ _ _ rfl) fd4_1 kf11_121 rfl dX11_look_76 ?_
        refine R_iload_n dX11_look_79 rfl ?_
        refine R_iald rfl (by omega) (by omega) dX11_look_80 ?_
        refine R_ireturn rfl (by first | rfl | exact nar_b2i | exact nar_bi) (by decide) (by decide) dX11_look_81 ?_
        first | exact ⟨by rw [lookS, e, if_neg (by omega)], rfl, rfl, rfl, rfl⟩ | exact ⟨by rw [ha17, lookS, e, if_pos (by omega)]; rfl, rfl, rfl, rfl, rfl⟩
      | 2, ht17 =>
        cases ht17
        refine R_aload_n dX11_look_82 rfl ?_
        refine R_getR _ (hr _ _ _ rfl) fd11_0 kf11_10 rfl dX11_look_83 ?_
        refine R_getR _ (hr _ _ _ rfl) fd0_2 kf11_111 rfl dX11_look_86 ?_
        refine R_getR _ (hr _ _ _ rfl) fd4_2 kf11_275 rfl dX11_look_89 ?_
        refine R_iload_n dX11_look_92 rfl ?_
        refine R_iald rfl (by omega) (by omega) dX11_look_93 ?_
        refine R_ireturn rfl (by first | rfl | exact nar_b2i | exact nar_bi) (by decide) (by decide) dX11_look_94 ?_
        first | exact ⟨by rw [lookS, e, if_neg (by omega)], rfl, rfl, rfl, rfl⟩ | exact ⟨by rw [ha17, lookS, e, if_pos (by omega)]; rfl, rfl, rfl, rfl, rfl⟩
      | 3, ht17 =>
        cases ht17
        refine R_aload_n dX11_look_95 rfl ?_
        refine R_getR _ (hr _ _ _ rfl) fd11_0 kf11_10 rfl dX11_look_96 ?_
        refine R_getR _ (hr _ _ _ rfl) fd0_2 kf11_111 rfl dX11_look_99 ?_
        refine R_getR _ (hr _ _ _ rfl) fd4_3 kf11_278 rfl dX11_look_102 ?_
        refine R_iload_n dX11_look_105 rfl ?_
        refine R_iald rfl (by omega) (by omega) dX11_look_106 ?_
        refine R_ireturn rfl (by first | rfl | exact nar_b2i | exact nar_bi) (by decide) (by decide) dX11_look_107 ?_
        first | exact ⟨by rw [lookS, e, if_neg (by omega)], rfl, rfl, rfl, rfl⟩ | exact ⟨by rw [ha17, lookS, e, if_pos (by omega)]; rfl, rfl, rfl, rfl, rfl⟩
      | 4, ht17 =>
        cases ht17
        refine R_aload_n dX11_look_108 rfl ?_
        refine R_getR _ (hr _ _ _ rfl) fd11_0 kf11_10 rfl dX11_look_109 ?_
        refine R_getR _ (hr _ _ _ rfl) fd0_2 kf11_111 rfl dX11_look_112 ?_
        refine R_getR _ (hr _ _ _ rfl) fd4_4 kf11_281 rfl dX11_look_115 ?_
        refine R_iload_n dX11_look_118 rfl ?_
        refine R_iald rfl (by omega) (by omega) dX11_look_119 ?_
        refine R_ireturn rfl (by first | rfl | exact nar_b2i | exact nar_bi) (by decide) (by decide) dX11_look_120 ?_
        first | exact ⟨by rw [lookS, e, if_neg (by omega)], rfl, rfl, rfl, rfl⟩ | exact ⟨by rw [ha17, lookS, e, if_pos (by omega)]; rfl, rfl, rfl, rfl, rfl⟩
      | 5, ht17 =>
        cases ht17
        refine R_aload_n dX11_look_121 rfl ?_
        refine R_getR _ (hr _ _ _ rfl) fd11_0 kf11_10 rfl dX11_look_122 ?_
        refine R_getR _ (hr _ _ _ rfl) fd0_2 kf11_111 rfl dX11_look_125 ?_
        refine R_getR _ (hr _ _ _ rfl) fd4_5 kf11_124 rfl dX11_look_128 ?_
        refine R_iload_n dX11_look_131 rfl ?_
        refine R_iald rfl (by omega) (by omega) dX11_look_132 ?_
        refine R_ireturn rfl (by first | rfl | exact nar_b2i | exact nar_bi) (by decide) (by decide) dX11_look_133 ?_
        first | exact ⟨by rw [lookS, e, if_neg (by omega)], rfl, rfl, rfl, rfl⟩ | exact ⟨by rw [ha17, lookS, e, if_pos (by omega)]; rfl, rfl, rfl, rfl, rfl⟩
      | n17 + 6, ht17 => exact absurd (List.getElem?_eq_some_iff.mp ht17).1 (by simp)
    · refine R_iconst dX11_look_134 rfl rfl ?_
      refine R_ireturn rfl (by first | rfl | exact nar_b2i | exact nar_bi) (by decide) (by decide) dX11_look_135 ?_
      first | exact ⟨by rw [lookS, e, if_neg (by omega)], rfl, rfl, rfl, rfl⟩ | exact ⟨by rw [ha17, lookS, e, if_pos (by omega)]; rfl, rfl, rfl, rfl, rfl⟩
  · try simp only [b2i_z, bi_z, ne_eq, Classical.not_not] at hc11
    refine R_iconst dX11_look_14 rfl rfl ?_
    refine R_ireturn rfl (by first | rfl | exact nar_b2i | exact nar_bi) (by decide) (by decide) dX11_look_15 ?_
    first | exact ⟨by rw [lookS, e, if_neg (by omega)], rfl, rfl, rfl, rfl⟩ | exact ⟨by rw [ha17, lookS, e, if_pos (by omega)]; rfl, rfl, rfl, rfl, rfl⟩
/-- count, but for the CLAUSES -/
theorem p_count (hr : RS r) (hT : TL r) (w : Int) : CT (mX11_count (rmD 5 0 0)) 0 0 shW [vR (some 0), vI w] g z r (qP shW g z r (some (vI (if 10 ≤ w ∧ w < 14 then nCl g r (w - 10) else if 0 ≤ w ∧ w ≤ 2 then vC g 0 w.toNat else if w = 3 then g 19 1 else if 4 ≤ w ∧ w ≤ 6 then vC g 0 (w.toNat + 1) else -1)))) := by
  refine CT.of 0 rfl rfl ?_
  refine R_iload_n dX11_count_0 rfl ?_
  refine R_bipush dX11_count_1 rfl (by decide +kernel) ?_
  refine R_icmp_lt 30 dX11_count_3 (by decide) (fun hc3 => ?_) (fun hc3 => ?_)
  · refine R_iload_n dX11_count_30 rfl ?_
    refine R_ts [72, 83, 94, 105, 113, 121, 129] 137 dX11_count_31 (by decide) (by decide) (by decide) (fun i31 t31 ht31 ha31 => ?_) (fun hc31 => ?_)
    · match i31, ht31 with
      | 0, ht31 =>
        cases ht31
        refine R_aload_n dX11_count_72 rfl ?_
        refine R_getR _ (hr _ _ _ rfl) fd11_0 kf11_10 rfl dX11_count_73 ?_
        refine R_getR _ (hr _ _ _ rfl) fd0_0 kf11_74 rfl dX11_count_76 ?_
        refine R_getI fd5_2 kf11_284 rfl dX11_count_79 ?_
        refine R_ireturn rfl (by first | rfl | exact nar_b2i | exact nar_bi) (by decide) (by decide) dX11_count_82 ?_
        first | (exfalso; omega) | exact ⟨by rw [if_pos (by omega)], rfl, rfl, rfl, rfl⟩ | exact ⟨by subst ha31; rfl, rfl, rfl, rfl, rfl⟩ | exact ⟨by rw [if_neg (by omega), if_neg (by omega), if_neg (by omega), if_neg (by omega)], rfl, rfl, rfl, rfl⟩
      | 1, ht31 =>
        cases ht31
        refine R_aload_n dX11_count_83 rfl ?_
        refine R_getR _ (hr _ _ _ rfl) fd11_0 kf11_10 rfl dX11_count_84 ?_
        refine R_getR _ (hr _ _ _ rfl) fd0_1 kf11_91 rfl dX11_count_87 ?_
        refine R_getI fd1_5 kf11_285 rfl dX11_count_90 ?_
        refine R_ireturn rfl (by first | rfl | exact nar_b2i | exact nar_bi) (by decide) (by decide) dX11_count_93 ?_
        first | (exfalso; omega) | exact ⟨by rw [if_pos (by omega)], rfl, rfl, rfl, rfl⟩ | exact ⟨by subst ha31; rfl, rfl, rfl, rfl, rfl⟩ | exact ⟨by rw [if_neg (by omega), if_neg (by omega), if_neg (by omega), if_neg (by omega)], rfl, rfl, rfl, rfl⟩
      | 2, ht31 =>
        cases ht31
        refine R_aload_n dX11_count_94 rfl ?_
        refine R_getR _ (hr _ _ _ rfl) fd11_0 kf11_10 rfl dX11_count_95 ?_
        refine R_getR _ (hr _ _ _ rfl) fd0_2 kf11_111 rfl dX11_count_98 ?_
        refine R_getI fd4_7 kf11_240 rfl dX11_count_101 ?_
        refine R_ireturn rfl (by first | rfl | exact nar_b2i | exact nar_bi) (by decide) (by decide) dX11_count_104 ?_
        first | (exfalso; omega) | exact ⟨by rw [if_pos (by omega)], rfl, rfl, rfl, rfl⟩ | exact ⟨by subst ha31; rfl, rfl, rfl, rfl, rfl⟩ | exact ⟨by rw [if_neg (by omega), if_neg (by omega), if_neg (by omega), if_neg (by omega)], rfl, rfl, rfl, rfl⟩
      | 3, ht31 =>
        cases ht31
        refine R_aload_n dX11_count_105 rfl ?_
        refine R_getR _ (hr _ _ _ rfl) fd11_1 kf11_19 rfl dX11_count_106 ?_
        refine R_getI fd8_1 kf11_142 rfl dX11_count_109 ?_
        refine R_ireturn rfl (by first | rfl | exact nar_b2i | exact nar_bi) (by decide) (by decide) dX11_count_112 ?_
        first | (exfalso; omega) | exact ⟨by rw [if_pos (by omega)], rfl, rfl, rfl, rfl⟩ | exact ⟨by subst ha31; rfl, rfl, rfl, rfl, rfl⟩ | exact ⟨by rw [if_neg (by omega), if_neg (by omega), if_neg (by omega), if_neg (by omega)], rfl, rfl, rfl, rfl⟩
      | 4, ht31 =>
        cases ht31
        refine R_aload_n dX11_count_113 rfl ?_
        refine R_getR _ (hr _ _ _ rfl) fd11_4 kf11_41 rfl dX11_count_114 ?_
        refine R_getI fd9_1 kf11_257 rfl dX11_count_117 ?_
        refine R_ireturn rfl (by first | rfl | exact nar_b2i | exact nar_bi) (by decide) (by decide) dX11_count_120 ?_
        first | (exfalso; omega) | exact ⟨by rw [if_pos (by omega)], rfl, rfl, rfl, rfl⟩ | exact ⟨by subst ha31; rfl, rfl, rfl, rfl, rfl⟩ | exact ⟨by rw [if_neg (by omega), if_neg (by omega), if_neg (by omega), if_neg (by omega)], rfl, rfl, rfl, rfl⟩
      | 5, ht31 =>
        cases ht31
        refine R_aload_n dX11_count_121 rfl ?_
        refine R_getR _ (hr _ _ _ rfl) fd11_4 kf11_41 rfl dX11_count_122 ?_
        refine R_getI fd9_2 kf11_260 rfl dX11_count_125 ?_
        refine R_ireturn rfl (by first | rfl | exact nar_b2i | exact nar_bi) (by decide) (by decide) dX11_count_128 ?_
        first | (exfalso; omega) | exact ⟨by rw [if_pos (by omega)], rfl, rfl, rfl, rfl⟩ | exact ⟨by subst ha31; rfl, rfl, rfl, rfl, rfl⟩ | exact ⟨by rw [if_neg (by omega), if_neg (by omega), if_neg (by omega), if_neg (by omega)], rfl, rfl, rfl, rfl⟩
      | 6, ht31 =>
        cases ht31
        refine R_aload_n dX11_count_129 rfl ?_
        refine R_getR _ (hr _ _ _ rfl) fd11_4 kf11_41 rfl dX11_count_130 ?_
        refine R_getI fd9_3 kf11_263 rfl dX11_count_133 ?_
        refine R_ireturn rfl (by first | rfl | exact nar_b2i | exact nar_bi) (by decide) (by decide) dX11_count_136 ?_
        first | (exfalso; omega) | exact ⟨by rw [if_pos (by omega)], rfl, rfl, rfl, rfl⟩ | exact ⟨by subst ha31; rfl, rfl, rfl, rfl, rfl⟩ | exact ⟨by rw [if_neg (by omega), if_neg (by omega), if_neg (by omega), if_neg (by omega)], rfl, rfl, rfl, rfl⟩
      | n31 + 7, ht31 => exact absurd (List.getElem?_eq_some_iff.mp ht31).1 (by simp)
    · refine R_iconst dX11_count_137 rfl rfl ?_
      refine R_ireturn rfl (by first | rfl | exact nar_b2i | exact nar_bi) (by decide) (by decide) dX11_count_138 ?_
      first | (exfalso; omega) | exact ⟨by rw [if_pos (by omega)], rfl, rfl, rfl, rfl⟩ | exact ⟨by subst ha31; rfl, rfl, rfl, rfl, rfl⟩ | exact ⟨by rw [if_neg (by omega), if_neg (by omega), if_neg (by omega), if_neg (by omega)], rfl, rfl, rfl, rfl⟩
  · refine R_iload_n dX11_count_6 rfl ?_
    refine R_bipush dX11_count_7 rfl (by decide +kernel) ?_
    refine R_aload_n dX11_count_9 rfl ?_
    refine R_getR _ (hr _ _ _ rfl) fd11_2 kf11_25 rfl dX11_count_10 ?_
    refine R_alen18 rfl (by decide) dX11_count_13 ?_
    refine R_iaddN dX11_count_14 (by unfold inI; omega) ?_
    refine R_icmp_ge 30 dX11_count_15 (by decide) (fun hc15 => ?_) (fun hc15 => ?_)
    · refine R_iload_n dX11_count_30 rfl ?_
      refine R_ts [72, 83, 94, 105, 113, 121, 129] 137 dX11_count_31 (by decide) (by decide) (by decide) (fun i31 t31 ht31 ha31 => ?_) (fun hc31 => ?_)
      · match i31, ht31 with
        | 0, ht31 =>
          cases ht31
          refine R_aload_n dX11_count_72 rfl ?_
          refine R_getR _ (hr _ _ _ rfl) fd11_0 kf11_10 rfl dX11_count_73 ?_
          refine R_getR _ (hr _ _ _ rfl) fd0_0 kf11_74 rfl dX11_count_76 ?_
          refine R_getI fd5_2 kf11_284 rfl dX11_count_79 ?_
          refine R_ireturn rfl (by first | rfl | exact nar_b2i | exact nar_bi) (by decide) (by decide) dX11_count_82 ?_
          first | (exfalso; omega) | exact ⟨by rw [if_pos (by omega)], rfl, rfl, rfl, rfl⟩ | exact ⟨by subst ha31; rfl, rfl, rfl, rfl, rfl⟩ | exact ⟨by rw [if_neg (by omega), if_neg (by omega), if_neg (by omega), if_neg (by omega)], rfl, rfl, rfl, rfl⟩
        | 1, ht31 =>
          cases ht31
          refine R_aload_n dX11_count_83 rfl ?_
          refine R_getR _ (hr _ _ _ rfl) fd11_0 kf11_10 rfl dX11_count_84 ?_
          refine R_getR _ (hr _ _ _ rfl) fd0_1 kf11_91 rfl dX11_count_87 ?_
          refine R_getI fd1_5 kf11_285 rfl dX11_count_90 ?_
          refine R_ireturn rfl (by first | rfl | exact nar_b2i | exact nar_bi) (by decide) (by decide) dX11_count_93 ?_
          first | (exfalso; omega) | exact ⟨by rw [if_pos (by omega)], rfl, rfl, rfl, rfl⟩ | exact ⟨by subst ha31; rfl, rfl, rfl, rfl, rfl⟩ | exact ⟨by rw [if_neg (by omega), if_neg (by omega), if_neg (by omega), if_neg (by omega)], rfl, rfl, rfl, rfl⟩
        | 2, ht31 =>
          cases ht31
          refine R_aload_n dX11_count_94 rfl ?_
          refine R_getR _ (hr _ _ _ rfl) fd11_0 kf11_10 rfl dX11_count_95 ?_
          refine R_getR _ (hr _ _ _ rfl) fd0_2 kf11_111 rfl dX11_count_98 ?_
          refine R_getI fd4_7 kf11_240 rfl dX11_count_101 ?_
          refine R_ireturn rfl (by first | rfl | exact nar_b2i | exact nar_bi) (by decide) (by decide) dX11_count_104 ?_
          first | (exfalso; omega) | exact ⟨by rw [if_pos (by omega)], rfl, rfl, rfl, rfl⟩ | exact ⟨by subst ha31; rfl, rfl, rfl, rfl, rfl⟩ | exact ⟨by rw [if_neg (by omega), if_neg (by omega), if_neg (by omega), if_neg (by omega)], rfl, rfl, rfl, rfl⟩
        | 3, ht31 =>
          cases ht31
          refine R_aload_n dX11_count_105 rfl ?_
          refine R_getR _ (hr _ _ _ rfl) fd11_1 kf11_19 rfl dX11_count_106 ?_
          refine R_getI fd8_1 kf11_142 rfl dX11_count_109 ?_
          refine R_ireturn rfl (by first | rfl | exact nar_b2i | exact nar_bi) (by decide) (by decide) dX11_count_112 ?_
          first | (exfalso; omega) | exact ⟨by rw [if_pos (by omega)], rfl, rfl, rfl, rfl⟩ | exact ⟨by subst ha31; rfl, rfl, rfl, rfl, rfl⟩ | exact ⟨by rw [if_neg (by omega), if_neg (by omega), if_neg (by omega), if_neg (by omega)], rfl, rfl, rfl, rfl⟩
        | 4, ht31 =>
          cases ht31
          refine R_aload_n dX11_count_113 rfl ?_
          refine R_getR _ (hr _ _ _ rfl) fd11_4 kf11_41 rfl dX11_count_114 ?_
          refine R_getI fd9_1 kf11_257 rfl dX11_count_117 ?_
          refine R_ireturn rfl (by first | rfl | exact nar_b2i | exact nar_bi) (by decide) (by decide) dX11_count_120 ?_
          first | (exfalso; omega) | exact ⟨by rw [if_pos (by omega)], rfl, rfl, rfl, rfl⟩ | exact ⟨by subst ha31; rfl, rfl, rfl, rfl, rfl⟩ | exact ⟨by rw [if_neg (by omega), if_neg (by omega), if_neg (by omega), if_neg (by omega)], rfl, rfl, rfl, rfl⟩
        | 5, ht31 =>
          cases ht31
          refine R_aload_n dX11_count_121 rfl ?_
          refine R_getR _ (hr _ _ _ rfl) fd11_4 kf11_41 rfl dX11_count_122 ?_
          refine R_getI fd9_2 kf11_260 rfl dX11_count_125 ?_
          refine R_ireturn rfl (by first | rfl | exact nar_b2i | exact nar_bi) (by decide) (by decide) dX11_count_128 ?_
          first | (exfalso; omega) | exact ⟨by rw [if_pos (by omega)], rfl, rfl, rfl, rfl⟩ | exact ⟨by subst ha31; rfl, rfl, rfl, rfl, rfl⟩ | exact ⟨by rw [if_neg (by omega), if_neg (by omega), if_neg (by omega), if_neg (by omega)], rfl, rfl, rfl, rfl⟩
        | 6, ht31 =>
          cases ht31
          refine R_aload_n dX11_count_129 rfl ?_
          refine R_getR _ (hr _ _ _ rfl) fd11_4 kf11_41 rfl dX11_count_130 ?_
          refine R_getI fd9_3 kf11_263 rfl dX11_count_133 ?_
          refine R_ireturn rfl (by first | rfl | exact nar_b2i | exact nar_bi) (by decide) (by decide) dX11_count_136 ?_
          first | (exfalso; omega) | exact ⟨by rw [if_pos (by omega)], rfl, rfl, rfl, rfl⟩ | exact ⟨by subst ha31; rfl, rfl, rfl, rfl, rfl⟩ | exact ⟨by rw [if_neg (by omega), if_neg (by omega), if_neg (by omega), if_neg (by omega)], rfl, rfl, rfl, rfl⟩
        | n31 + 7, ht31 => exact absurd (List.getElem?_eq_some_iff.mp ht31).1 (by simp)
      · refine R_iconst dX11_count_137 rfl rfl ?_
        refine R_ireturn rfl (by first | rfl | exact nar_b2i | exact nar_bi) (by decide) (by decide) dX11_count_138 ?_
        first | (exfalso; omega) | exact ⟨by rw [if_pos (by omega)], rfl, rfl, rfl, rfl⟩ | exact ⟨by subst ha31; rfl, rfl, rfl, rfl, rfl⟩ | exact ⟨by rw [if_neg (by omega), if_neg (by omega), if_neg (by omega), if_neg (by omega)], rfl, rfl, rfl, rfl⟩
    · refine R_aload_n dX11_count_18 rfl ?_
      refine R_getR _ (hr _ _ _ rfl) fd11_4 kf11_41 rfl dX11_count_19 ?_
      refine R_iload_n dX11_count_22 rfl ?_
      refine R_bipush dX11_count_23 rfl (by decide +kernel) ?_
      refine R_isubN dX11_count_25 (by unfold inI; omega) ?_
      refine R_callV (c_X9_clausesOf hT 30 rfl (hr _ _ _ rfl) _) (mvX9_clausesOf _) kiX9_clausesOf kvX9_clausesOf km11_156 rfl rfl (by decide) ⟨rfl, rfl, by decide, by decide⟩ (Nat.le_of_ble_eq_true rfl) dX11_count_26 (fun v1 sh1 g1 z1 r1 hq => ?_)
      obtain ⟨rfl, rfl, rfl, rfl, rfl⟩ := hq
      refine R_ireturn rfl (by first | rfl | exact nar_b2i | exact nar_bi) (by decide) (by decide) dX11_count_29 ?_
      first | (exfalso; omega) | exact ⟨by rw [if_pos (by omega)], rfl, rfl, rfl, rfl⟩ | exact ⟨by subst ha31; rfl, rfl, rfl, rfl, rfl⟩ | exact ⟨by rw [if_neg (by omega), if_neg (by omega), if_neg (by omega), if_neg (by omega)], rfl, rfl, rfl, rfl⟩
end PUB3
