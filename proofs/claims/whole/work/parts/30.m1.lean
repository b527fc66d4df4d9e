theorem nar_b2i {p : Prop} [Decidable p] : narrow .boolean (.int (i32 (b2i p))) = .int (i32 (b2i p)) := by unfold b2i; split <;> rfl
theorem nar_bi {b : Bool} : narrow .boolean (.int (i32 (bi b))) = .int (i32 (bi b)) := by cases b <;> rfl
theorem lcm_lt {a b : Int} : (lcm a b < 0) = (a < b) := by unfold lcm; split; simp; omega; split <;> simp <;> omega
theorem lcm_gt {a b : Int} : (0 < lcm a b) = (b < a) := by unfold lcm; split; simp; omega; split <;> simp <;> omega
theorem lcm_ge {a b : Int} : (0 ≤ lcm a b) = (b ≤ a) := by unfold lcm; split; simp; omega; split <;> simp <;> omega
theorem lcm_le {a b : Int} : (lcm a b ≤ 0) = (a ≤ b) := by unfold lcm; split; simp; omega; split <;> simp <;> omega
/-- what is told, as the reference holds it -/
def vM (g : GG) : VW := fun f i => match f with
  | 0 => (match i with | 0 => g 74 2 | 1 => g 74 3 | 2 => g 74 4 | 3 => g 74 8 | 4 => g 74 9 | 5 => g 74 5 | 6 => g 74 6 | 7 => g 74 7 | _ => 0)
  | 1 => g 76 i | 2 => g 77 i | 3 => g 78 i | 4 => g 79 i | 5 => g 80 i | 6 => g 81 i | 7 => g 82 i | 8 => g 83 i | 9 => g 84 i | 10 => g 85 i | 11 => g 86 i | 12 => g 87 i | 13 => g 88 i | _ => 0
section M1
variable {g z : GG} {r : RR}
theorem m_lies (a b c : Int) : CT (mX12_lies (rmD 0 0 0)) 0 0 shW [vL a, vL b, vL c] g z r (qP shW g z r (some (vI (b2i (b ≤ a ∧ a ≤ c))))) := by
  refine CT.of 0 rfl rfl ?_
  refine R_lload_n dX12_lies_0 rfl ?_
  refine R_lload_n dX12_lies_1 rfl ?_
  refine R_lcmp dX12_lies_2 ?_
  refine R_if_lt 17 dX12_lies_3 (by decide) (fun hc3 => ?_) (fun hc3 => ?_)
  · refine R_iconst dX12_lies_17 rfl rfl ?_
    refine R_ireturn rfl (by first | rfl | exact nar_b2i | exact nar_bi) (by decide) (by decide) dX12_lies_18 ?_
    simp only [lcm_lt, lcm_gt] at *; first | exact ⟨by rw [b2i_f (by omega)], rfl, rfl, rfl, rfl⟩ | exact ⟨by rw [b2i_t (by omega)], rfl, rfl, rfl, rfl⟩
  · refine R_lload_n dX12_lies_6 rfl ?_
    refine R_lload dX12_lies_7 rfl ?_
    refine R_lcmp dX12_lies_9 ?_
    refine R_if_gt 17 dX12_lies_10 (by decide) (fun hc10 => ?_) (fun hc10 => ?_)
    · refine R_iconst dX12_lies_17 rfl rfl ?_
      refine R_ireturn rfl (by first | rfl | exact nar_b2i | exact nar_bi) (by decide) (by decide) dX12_lies_18 ?_
      simp only [lcm_lt, lcm_gt] at *; first | exact ⟨by rw [b2i_f (by omega)], rfl, rfl, rfl, rfl⟩ | exact ⟨by rw [b2i_t (by omega)], rfl, rfl, rfl, rfl⟩
    · refine R_iconst dX12_lies_13 rfl rfl ?_
      refine R_goto 18 dX12_lies_14 (by decide) ?_
      refine R_ireturn rfl (by first | rfl | exact nar_b2i | exact nar_bi) (by decide) (by decide) dX12_lies_18 ?_
      simp only [lcm_lt, lcm_gt] at *; first | exact ⟨by rw [b2i_f (by omega)], rfl, rfl, rfl, rfl⟩ | exact ⟨by rw [b2i_t (by omega)], rfl, rfl, rfl, rfl⟩
theorem m_isName (hN : 0 ≤ g 74 2 ∧ g 74 2 ≤ 16) (a : Int) : CT (mX12_isName (rmD 1 0 0)) 0 0 shW [vR (some 74), vI a] g z r (qP shW g z r (some (vI (b2i (0 ≤ a ∧ a < g 74 2))))) := by
  refine CT.of 0 rfl rfl ?_
  refine R_iload_n dX12_isName_0 rfl ?_
  refine R_i2l dX12_isName_1 ?_
  refine R_lconst dX12_isName_2 ?_
  refine R_aload_n dX12_isName_3 rfl ?_
  refine R_getI fd12_2 kf12_161 rfl dX12_isName_4 ?_
  refine R_iconst dX12_isName_7 rfl rfl ?_
  refine R_isubN dX12_isName_8 (by unfold inI; omega) ?_
  refine R_i2l dX12_isName_9 ?_
  refine R_callS (m_lies _ _ _) (mvX12_lies _) ksX12_lies km12_164 ⟨rfl, rfl, by decide, by decide⟩ (Nat.le_of_ble_eq_true rfl) dX12_isName_10 (fun v1 sh1 g1 z1 r1 hq => ?_)
  obtain ⟨rfl, rfl, rfl, rfl, rfl⟩ := hq
  refine R_ireturn rfl (by first | rfl | exact nar_b2i | exact nar_bi) (by decide) (by decide) dX12_isName_13 ?_
  exact ⟨congrArg (fun x => some (vI x)) (by unfold b2i; congr 1; simp; omega), rfl, rfl, rfl, rfl⟩
theorem m_isCouple (hC : 0 ≤ g 74 3 ∧ g 74 3 ≤ 6) (a : Int) : CT (mX12_isCouple (rmD 1 0 0)) 0 0 shW [vR (some 74), vI a] g z r (qP shW g z r (some (vI (b2i (0 ≤ a ∧ a < g 74 3))))) := by
  refine CT.of 0 rfl rfl ?_
  refine R_iload_n dX12_isCouple_0 rfl ?_
  refine R_i2l dX12_isCouple_1 ?_
  refine R_lconst dX12_isCouple_2 ?_
  refine R_aload_n dX12_isCouple_3 rfl ?_
  refine R_getI fd12_3 kf12_172 rfl dX12_isCouple_4 ?_
  refine R_iconst dX12_isCouple_7 rfl rfl ?_
  refine R_isubN dX12_isCouple_8 (by unfold inI; omega) ?_
  refine R_i2l dX12_isCouple_9 ?_
  refine R_callS (m_lies _ _ _) (mvX12_lies _) ksX12_lies km12_164 ⟨rfl, rfl, by decide, by decide⟩ (Nat.le_of_ble_eq_true rfl) dX12_isCouple_10 (fun v1 sh1 g1 z1 r1 hq => ?_)
  obtain ⟨rfl, rfl, rfl, rfl, rfl⟩ := hq
  refine R_ireturn rfl (by first | rfl | exact nar_b2i | exact nar_bi) (by decide) (by decide) dX12_isCouple_13 ?_
  exact ⟨congrArg (fun x => some (vI x)) (by unfold b2i; congr 1; simp; omega), rfl, rfl, rfl, rfl⟩
theorem m_isFont (hF : 0 ≤ g 74 4 ∧ g 74 4 ≤ 10) (a : Int) : CT (mX12_isFont (rmD 1 0 0)) 0 0 shW [vR (some 74), vI a] g z r (qP shW g z r (some (vI (b2i (0 ≤ a ∧ a < g 74 4))))) := by
  refine CT.of 0 rfl rfl ?_
  refine R_iload_n dX12_isFont_0 rfl ?_
  refine R_i2l dX12_isFont_1 ?_
  refine R_lconst dX12_isFont_2 ?_
  refine R_aload_n dX12_isFont_3 rfl ?_
  refine R_getI fd12_4 kf12_175 rfl dX12_isFont_4 ?_
  refine R_iconst dX12_isFont_7 rfl rfl ?_
  refine R_isubN dX12_isFont_8 (by unfold inI; omega) ?_
  refine R_i2l dX12_isFont_9 ?_
  refine R_callS (m_lies _ _ _) (mvX12_lies _) ksX12_lies km12_164 ⟨rfl, rfl, by decide, by decide⟩ (Nat.le_of_ble_eq_true rfl) dX12_isFont_10 (fun v1 sh1 g1 z1 r1 hq => ?_)
  obtain ⟨rfl, rfl, rfl, rfl, rfl⟩ := hq
  refine R_ireturn rfl (by first | rfl | exact nar_b2i | exact nar_bi) (by decide) (by decide) dX12_isFont_13 ?_
  exact ⟨congrArg (fun x => some (vI x)) (by unfold b2i; congr 1; simp; omega), rfl, rfl, rfl, rfl⟩
theorem m_isYear (a : Int) : CT (mX12_isYear (rmD 1 0 0)) 0 0 shW [vI a] g z r (qP shW g z r (some (vI (b2i (0 ≤ a ∧ a ≤ 299))))) := by
  refine CT.of 0 rfl rfl ?_
  refine R_iload_n dX12_isYear_0 rfl ?_
  refine R_i2l dX12_isYear_1 ?_
  refine R_lconst dX12_isYear_2 ?_
  refine R_ldc2_w (v := 299) kk12_178 dX12_isYear_3 (by decide) ?_
  refine R_callS (m_lies _ _ _) (mvX12_lies _) ksX12_lies km12_164 ⟨rfl, rfl, by decide, by decide⟩ (Nat.le_of_ble_eq_true rfl) dX12_isYear_6 (fun v1 sh1 g1 z1 r1 hq => ?_)
  obtain ⟨rfl, rfl, rfl, rfl, rfl⟩ := hq
  refine R_ireturn rfl (by first | rfl | exact nar_b2i | exact nar_bi) (by decide) (by decide) dX12_isYear_9 ?_
  exact ⟨rfl, rfl, rfl, rfl, rfl⟩
theorem m_isOf (hr : RS r) (hN : 0 ≤ g 74 2 ∧ g 74 2 ≤ 16) (a b : Int) : CT (mX12_isOf (rmD 2 0 0)) 0 0 shW [vR (some 74), vI a, vI b] g z r (qP shW g z r (some (vI (b2i (0 ≤ a ∧ a < g 74 2 ∧ g 76 a.toNat = b))))) := by
  refine CT.of 0 rfl rfl ?_
  refine R_aload_n dX12_isOf_0 rfl ?_
  refine R_iload_n dX12_isOf_1 rfl ?_
  refine R_callV (m_isName hN _) (mvX12_isName _) kiX12_isName kvX12_isName km12_168 rfl rfl (by decide) ⟨rfl, rfl, by decide, by decide⟩ (Nat.le_of_ble_eq_true rfl) dX12_isOf_2 (fun v1 sh1 g1 z1 r1 hq => ?_)
  obtain ⟨rfl, rfl, rfl, rfl, rfl⟩ := hq
  refine R_if_eq 22 dX12_isOf_5 (by decide) (fun hc5 => ?_) (fun hc5 => ?_)
  · try simp only [b2i_z, bi_z, ne_eq, Classical.not_not] at hc5
    refine R_iconst dX12_isOf_22 rfl rfl ?_
    refine R_ireturn rfl (by first | rfl | exact nar_b2i | exact nar_bi) (by decide) (by decide) dX12_isOf_23 ?_
    first | exact ⟨by rw [b2i_f (by omega)], rfl, rfl, rfl, rfl⟩ | exact ⟨by rw [b2i_t (by omega)], rfl, rfl, rfl, rfl⟩
  · try simp only [b2i_z, bi_z, ne_eq, Classical.not_not] at hc5
    refine R_aload_n dX12_isOf_8 rfl ?_
    refine R_getR _ (hr _ _ _ rfl) fd12_10 kf12_29 rfl dX12_isOf_9 ?_
    refine R_iload_n dX12_isOf_12 rfl ?_
    refine R_iald rfl (by omega) (by omega) dX12_isOf_13 ?_
    refine R_iload_n dX12_isOf_14 rfl ?_
    refine R_icmp_ne 22 dX12_isOf_15 (by decide) (fun hc15 => ?_) (fun hc15 => ?_)
    · refine R_iconst dX12_isOf_22 rfl rfl ?_
      refine R_ireturn rfl (by first | rfl | exact nar_b2i | exact nar_bi) (by decide) (by decide) dX12_isOf_23 ?_
      first | exact ⟨by rw [b2i_f (by omega)], rfl, rfl, rfl, rfl⟩ | exact ⟨by rw [b2i_t (by omega)], rfl, rfl, rfl, rfl⟩
    · refine R_iconst dX12_isOf_18 rfl rfl ?_
      refine R_goto 23 dX12_isOf_19 (by decide) ?_
      refine R_ireturn rfl (by first | rfl | exact nar_b2i | exact nar_bi) (by decide) (by decide) dX12_isOf_23 ?_
      first | exact ⟨by rw [b2i_f (by omega)], rfl, rfl, rfl, rfl⟩ | exact ⟨by rw [b2i_t (by omega)], rfl, rfl, rfl, rfl⟩
theorem m_name (hr : RS r) (hN : 0 ≤ g 74 2 ∧ g 74 2 ≤ 16) (a b : Int) : CT (mX12_name (rmD 5 0 0)) 0 0 shW [vR (some 74), vI a, vI b] g z r (qG shW z r fun v g' => ((0 ≤ a ∧ a ≤ 1 ∧ 1 ≤ b ∧ b ≤ 100 ∧ g 74 2 < 16) ∧ v = some (vI (g 74 2)) ∧ g' = up2 (up2 (up2 (up2 g 76 (g 74 2).toNat a) 77 (g 74 2).toNat b) 74 2 (g 74 2 + 1)) 74 23 0) ∨ (¬ (0 ≤ a ∧ a ≤ 1 ∧ 1 ≤ b ∧ b ≤ 100 ∧ g 74 2 < 16) ∧ v = some (vI (-1)) ∧ g' = g)) := by
  refine CT.of 0 rfl rfl ?_
  refine R_aload_n dX12_name_0 rfl ?_
  refine R_getI fd12_2 kf12_161 rfl dX12_name_1 ?_
  refine R_bipush dX12_name_4 rfl (by decide +kernel) ?_
  refine R_icmp_eq 31 dX12_name_6 (by decide) (fun hc6 => ?_) (fun hc6 => ?_)
  · refine R_iconst dX12_name_31 rfl rfl ?_
    refine R_ireturn rfl (by first | rfl | exact nar_b2i | exact nar_bi) (by decide) (by decide) dX12_name_32 ?_
    first | exact ⟨Or.inr ⟨by omega, rfl, rfl⟩, rfl, rfl, rfl⟩ | exact ⟨Or.inl ⟨by omega, by congr 2; omega, rfl⟩, rfl, rfl, rfl⟩
  · refine R_iload_n dX12_name_9 rfl ?_
    refine R_i2l dX12_name_10 ?_
    refine R_lconst dX12_name_11 ?_
    refine R_lconst dX12_name_12 ?_
    refine R_callS (m_lies _ _ _) (mvX12_lies _) ksX12_lies km12_164 ⟨rfl, rfl, by decide, by decide⟩ (Nat.le_of_ble_eq_true rfl) dX12_name_13 (fun v1 sh1 g1 z1 r1 hq => ?_)
    obtain ⟨rfl, rfl, rfl, rfl, rfl⟩ := hq
    refine R_if_eq 31 dX12_name_16 (by decide) (fun hc16 => ?_) (fun hc16 => ?_)
    · try simp only [b2i_z, bi_z, ne_eq, Classical.not_not] at hc16
      refine R_iconst dX12_name_31 rfl rfl ?_
      refine R_ireturn rfl (by first | rfl | exact nar_b2i | exact nar_bi) (by decide) (by decide) dX12_name_32 ?_
      first | exact ⟨Or.inr ⟨by omega, rfl, rfl⟩, rfl, rfl, rfl⟩ | exact ⟨Or.inl ⟨by omega, by congr 2; omega, rfl⟩, rfl, rfl, rfl⟩
    · try simp only [b2i_z, bi_z, ne_eq, Classical.not_not] at hc16
      refine R_iload_n dX12_name_19 rfl ?_
      refine R_i2l dX12_name_20 ?_
      refine R_lconst dX12_name_21 ?_
      refine R_ldc2_w (v := 100) kk12_180 dX12_name_22 (by decide) ?_
      refine R_callS (m_lies _ _ _) (mvX12_lies _) ksX12_lies km12_164 ⟨rfl, rfl, by decide, by decide⟩ (Nat.le_of_ble_eq_true rfl) dX12_name_25 (fun v1 sh1 g1 z1 r1 hq => ?_)
      obtain ⟨rfl, rfl, rfl, rfl, rfl⟩ := hq
      refine R_if_ne 33 dX12_name_28 (by decide) (fun hc28 => ?_) (fun hc28 => ?_)
      · try simp only [b2i_z, bi_z, ne_eq, Classical.not_not] at hc28
        refine R_aload_n dX12_name_33 rfl ?_
        refine R_getR _ (hr _ _ _ rfl) fd12_10 kf12_29 rfl dX12_name_34 ?_
        refine R_aload_n dX12_name_37 rfl ?_
        refine R_getI fd12_2 kf12_161 rfl dX12_name_38 ?_
        refine R_iload_n dX12_name_41 rfl ?_
        refine R_iast rfl (by omega) (by omega) dX12_name_42 ?_
        refine R_aload_n dX12_name_43 rfl ?_
        refine R_getR _ (hr _ _ _ rfl) fd12_11 kf12_33 rfl dX12_name_44 ?_
        try simp +decide only [up2_far, up2_s, up2_kk]
        refine R_aload_n dX12_name_47 rfl ?_
        refine R_getI fd12_2 kf12_161 rfl dX12_name_48 ?_
        try simp +decide only [up2_far, up2_s, up2_kk]
        refine R_iload_n dX12_name_51 rfl ?_
        refine R_iast rfl (by omega) (by omega) dX12_name_52 ?_
        refine R_aload_n dX12_name_53 rfl ?_
        refine R_dup dX12_name_54 (fun _ h => by cases h) ?_
        refine R_getI fd12_2 kf12_161 rfl dX12_name_55 ?_
        try simp +decide only [up2_far, up2_s, up2_kk]
        refine R_iconst dX12_name_58 rfl rfl ?_
        refine R_iaddN dX12_name_59 (by unfold inI; omega) ?_
        refine R_putI fd12_2 rfl kf12_161 rfl dX12_name_60 ?_
        refine R_aload_n dX12_name_63 rfl ?_
        refine R_iconst dX12_name_64 rfl rfl ?_
        refine R_putZ (by first | exact Or.inl rfl | exact Or.inr rfl | omega) fd12_23 rfl kf12_182 rfl dX12_name_65 ?_
        refine R_aload_n dX12_name_68 rfl ?_
        refine R_getI fd12_2 kf12_161 rfl dX12_name_69 ?_
        try simp +decide only [up2_far, up2_s, up2_kk]
        refine R_iconst dX12_name_72 rfl rfl ?_
        refine R_isubN dX12_name_73 (by unfold inI; omega) ?_
        refine R_ireturn rfl (by first | rfl | exact nar_b2i | exact nar_bi) (by decide) (by decide) dX12_name_74 ?_
        first | exact ⟨Or.inr ⟨by omega, rfl, rfl⟩, rfl, rfl, rfl⟩ | exact ⟨Or.inl ⟨by omega, by congr 2; omega, rfl⟩, rfl, rfl, rfl⟩
      · try simp only [b2i_z, bi_z, ne_eq, Classical.not_not] at hc28
        refine R_iconst dX12_name_31 rfl rfl ?_
        refine R_ireturn rfl (by first | rfl | exact nar_b2i | exact nar_bi) (by decide) (by decide) dX12_name_32 ?_
        first | exact ⟨Or.inr ⟨by omega, rfl, rfl⟩, rfl, rfl, rfl⟩ | exact ⟨Or.inl ⟨by omega, by congr 2; omega, rfl⟩, rfl, rfl, rfl⟩
theorem m_weighs (a b : Int) : CT (mX12_weighs (rmD 5 0 0)) 0 0 shW [vR (some 74), vI a, vI b] g z r (qG shW z r fun v g' => ((0 ≤ a ∧ a ≤ 100 ∧ 0 ≤ b ∧ b ≤ 1000) ∧ v = some (vI 1) ∧ g' = up2 (up2 (up2 g 74 8 a) 74 9 b) 74 23 0) ∨ (¬ (0 ≤ a ∧ a ≤ 100 ∧ 0 ≤ b ∧ b ≤ 1000) ∧ v = some (vI 0) ∧ g' = g)) := by
  refine CT.of 0 rfl rfl ?_
  refine R_iload_n dX12_weighs_0 rfl ?_
  refine R_i2l dX12_weighs_1 ?_
  refine R_lconst dX12_weighs_2 ?_
  refine R_ldc2_w (v := 100) kk12_180 dX12_weighs_3 (by decide) ?_
  refine R_callS (m_lies _ _ _) (mvX12_lies _) ksX12_lies km12_164 ⟨rfl, rfl, by decide, by decide⟩ (Nat.le_of_ble_eq_true rfl) dX12_weighs_6 (fun v1 sh1 g1 z1 r1 hq => ?_)
  obtain ⟨rfl, rfl, rfl, rfl, rfl⟩ := hq
  refine R_if_eq 24 dX12_weighs_9 (by decide) (fun hc9 => ?_) (fun hc9 => ?_)
  · try simp only [b2i_z, bi_z, ne_eq, Classical.not_not] at hc9
    refine R_iconst dX12_weighs_24 rfl rfl ?_
    refine R_ireturn rfl (by first | rfl | exact nar_b2i | exact nar_bi) (by decide) (by decide) dX12_weighs_25 ?_
    first | exact ⟨Or.inr ⟨by omega, rfl, rfl⟩, rfl, rfl, rfl⟩ | exact ⟨Or.inl ⟨by omega, rfl, rfl⟩, rfl, rfl, rfl⟩
  · try simp only [b2i_z, bi_z, ne_eq, Classical.not_not] at hc9
    refine R_iload_n dX12_weighs_12 rfl ?_
    refine R_i2l dX12_weighs_13 ?_
    refine R_lconst dX12_weighs_14 ?_
    refine R_ldc2_w (v := 1000) kk12_201 dX12_weighs_15 (by decide) ?_
    refine R_callS (m_lies _ _ _) (mvX12_lies _) ksX12_lies km12_164 ⟨rfl, rfl, by decide, by decide⟩ (Nat.le_of_ble_eq_true rfl) dX12_weighs_18 (fun v1 sh1 g1 z1 r1 hq => ?_)
    obtain ⟨rfl, rfl, rfl, rfl, rfl⟩ := hq
    refine R_if_ne 26 dX12_weighs_21 (by decide) (fun hc21 => ?_) (fun hc21 => ?_)
    · try simp only [b2i_z, bi_z, ne_eq, Classical.not_not] at hc21
      refine R_aload_n dX12_weighs_26 rfl ?_
      refine R_iload_n dX12_weighs_27 rfl ?_
      refine R_putI fd12_8 rfl kf12_23 rfl dX12_weighs_28 ?_
      refine R_aload_n dX12_weighs_31 rfl ?_
      refine R_iload_n dX12_weighs_32 rfl ?_
      refine R_putI fd12_9 rfl kf12_26 rfl dX12_weighs_33 ?_
      refine R_aload_n dX12_weighs_36 rfl ?_
      refine R_iconst dX12_weighs_37 rfl rfl ?_
      refine R_putZ (by first | exact Or.inl rfl | exact Or.inr rfl | omega) fd12_23 rfl kf12_182 rfl dX12_weighs_38 ?_
      refine R_iconst dX12_weighs_41 rfl rfl ?_
      refine R_ireturn rfl (by first | rfl | exact nar_b2i | exact nar_bi) (by decide) (by decide) dX12_weighs_42 ?_
      first | exact ⟨Or.inr ⟨by omega, rfl, rfl⟩, rfl, rfl, rfl⟩ | exact ⟨Or.inl ⟨by omega, rfl, rfl⟩, rfl, rfl, rfl⟩
    · try simp only [b2i_z, bi_z, ne_eq, Classical.not_not] at hc21
      refine R_iconst dX12_weighs_24 rfl rfl ?_
      refine R_ireturn rfl (by first | rfl | exact nar_b2i | exact nar_bi) (by decide) (by decide) dX12_weighs_25 ?_
      first | exact ⟨Or.inr ⟨by omega, rfl, rfl⟩, rfl, rfl, rfl⟩ | exact ⟨Or.inl ⟨by omega, rfl, rfl⟩, rfl, rfl, rfl⟩
theorem m_customs (a b y : Int) : CT (mX12_customs (rmD 5 0 0)) 0 0 shW [vR (some 74), vI a, vI b, vI y] g z r (qG shW z r fun v g' => ((0 ≤ a ∧ a < 4 ∧ 0 ≤ b ∧ b < 4 ∧ 0 ≤ y ∧ y ≤ 300) ∧ v = some (vI 1) ∧ g' = up2 (up2 (up2 (up2 g 74 5 a) 74 6 b) 74 7 y) 74 23 0) ∨ (¬ (0 ≤ a ∧ a < 4 ∧ 0 ≤ b ∧ b < 4 ∧ 0 ≤ y ∧ y ≤ 300) ∧ v = some (vI 0) ∧ g' = g)) := by
  refine CT.of 0 rfl rfl ?_
  refine R_iload_n dX12_customs_0 rfl ?_
  refine R_i2l dX12_customs_1 ?_
  refine R_lconst dX12_customs_2 ?_
  refine R_ldc2_w (v := 3) kk12_196 dX12_customs_3 (by decide) ?_
  refine R_callS (m_lies _ _ _) (mvX12_lies _) ksX12_lies km12_164 ⟨rfl, rfl, by decide, by decide⟩ (Nat.le_of_ble_eq_true rfl) dX12_customs_6 (fun v1 sh1 g1 z1 r1 hq => ?_)
  obtain ⟨rfl, rfl, rfl, rfl, rfl⟩ := hq
  refine R_if_eq 36 dX12_customs_9 (by decide) (fun hc9 => ?_) (fun hc9 => ?_)
  · try simp only [b2i_z, bi_z, ne_eq, Classical.not_not] at hc9
    refine R_iconst dX12_customs_36 rfl rfl ?_
    refine R_ireturn rfl (by first | rfl | exact nar_b2i | exact nar_bi) (by decide) (by decide) dX12_customs_37 ?_
    first | exact ⟨Or.inr ⟨by omega, rfl, rfl⟩, rfl, rfl, rfl⟩ | exact ⟨Or.inl ⟨by omega, rfl, rfl⟩, rfl, rfl, rfl⟩
  · try simp only [b2i_z, bi_z, ne_eq, Classical.not_not] at hc9
    refine R_iload_n dX12_customs_12 rfl ?_
    refine R_i2l dX12_customs_13 ?_
    refine R_lconst dX12_customs_14 ?_
    refine R_ldc2_w (v := 3) kk12_196 dX12_customs_15 (by decide) ?_
    refine R_callS (m_lies _ _ _) (mvX12_lies _) ksX12_lies km12_164 ⟨rfl, rfl, by decide, by decide⟩ (Nat.le_of_ble_eq_true rfl) dX12_customs_18 (fun v1 sh1 g1 z1 r1 hq => ?_)
    obtain ⟨rfl, rfl, rfl, rfl, rfl⟩ := hq
    refine R_if_eq 36 dX12_customs_21 (by decide) (fun hc21 => ?_) (fun hc21 => ?_)
    · try simp only [b2i_z, bi_z, ne_eq, Classical.not_not] at hc21
      refine R_iconst dX12_customs_36 rfl rfl ?_
      refine R_ireturn rfl (by first | rfl | exact nar_b2i | exact nar_bi) (by decide) (by decide) dX12_customs_37 ?_
      first | exact ⟨Or.inr ⟨by omega, rfl, rfl⟩, rfl, rfl, rfl⟩ | exact ⟨Or.inl ⟨by omega, rfl, rfl⟩, rfl, rfl, rfl⟩
    · try simp only [b2i_z, bi_z, ne_eq, Classical.not_not] at hc21
      refine R_iload_n dX12_customs_24 rfl ?_
      refine R_i2l dX12_customs_25 ?_
      refine R_lconst dX12_customs_26 ?_
      refine R_ldc2_w (v := 300) kk12_316 dX12_customs_27 (by decide) ?_
      refine R_callS (m_lies _ _ _) (mvX12_lies _) ksX12_lies km12_164 ⟨rfl, rfl, by decide, by decide⟩ (Nat.le_of_ble_eq_true rfl) dX12_customs_30 (fun v1 sh1 g1 z1 r1 hq => ?_)
      obtain ⟨rfl, rfl, rfl, rfl, rfl⟩ := hq
      refine R_if_ne 38 dX12_customs_33 (by decide) (fun hc33 => ?_) (fun hc33 => ?_)
      · try simp only [b2i_z, bi_z, ne_eq, Classical.not_not] at hc33
        refine R_aload_n dX12_customs_38 rfl ?_
        refine R_iload_n dX12_customs_39 rfl ?_
        refine R_putI fd12_5 rfl kf12_13 rfl dX12_customs_40 ?_
        refine R_aload_n dX12_customs_43 rfl ?_
        refine R_iload_n dX12_customs_44 rfl ?_
        refine R_putI fd12_6 rfl kf12_17 rfl dX12_customs_45 ?_
        refine R_aload_n dX12_customs_48 rfl ?_
        refine R_iload_n dX12_customs_49 rfl ?_
        refine R_putI fd12_7 rfl kf12_20 rfl dX12_customs_50 ?_
        refine R_aload_n dX12_customs_53 rfl ?_
        refine R_iconst dX12_customs_54 rfl rfl ?_
        refine R_putZ (by first | exact Or.inl rfl | exact Or.inr rfl | omega) fd12_23 rfl kf12_182 rfl dX12_customs_55 ?_
        refine R_iconst dX12_customs_58 rfl rfl ?_
        refine R_ireturn rfl (by first | rfl | exact nar_b2i | exact nar_bi) (by decide) (by decide) dX12_customs_59 ?_
        first | exact ⟨Or.inr ⟨by omega, rfl, rfl⟩, rfl, rfl, rfl⟩ | exact ⟨Or.inl ⟨by omega, rfl, rfl⟩, rfl, rfl, rfl⟩
      · try simp only [b2i_z, bi_z, ne_eq, Classical.not_not] at hc33
        refine R_iconst dX12_customs_36 rfl rfl ?_
        refine R_ireturn rfl (by first | rfl | exact nar_b2i | exact nar_bi) (by decide) (by decide) dX12_customs_37 ?_
        first | exact ⟨Or.inr ⟨by omega, rfl, rfl⟩, rfl, rfl, rfl⟩ | exact ⟨Or.inl ⟨by omega, rfl, rfl⟩, rfl, rfl, rfl⟩
theorem m_died (hr : RS r) (hF : 0 ≤ g 74 4 ∧ g 74 4 ≤ 10) (i y : Int) : CT (mX12_died (rmD 5 0 0)) 0 0 shW [vR (some 74), vI i, vI y] g z r (qG shW z r fun v g' => ((0 ≤ i ∧ i < g 74 4 ∧ (y = -1 ∨ (g 84 i.toNat ≤ y ∧ y ≤ 299))) ∧ v = some (vI 1) ∧ g' = up2 (up2 g 88 i.toNat y) 74 23 0) ∨ (¬ (0 ≤ i ∧ i < g 74 4 ∧ (y = -1 ∨ (g 84 i.toNat ≤ y ∧ y ≤ 299))) ∧ v = some (vI 0) ∧ g' = g)) := by
  refine CT.of 0 rfl rfl ?_
  refine R_aload_n dX12_died_0 rfl ?_
  refine R_iload_n dX12_died_1 rfl ?_
  refine R_callV (m_isFont hF _) (mvX12_isFont _) kiX12_isFont kvX12_isFont km12_198 rfl rfl (by decide) ⟨rfl, rfl, by decide, by decide⟩ (Nat.le_of_ble_eq_true rfl) dX12_died_2 (fun v1 sh1 g1 z1 r1 hq => ?_)
  obtain ⟨rfl, rfl, rfl, rfl, rfl⟩ := hq
  refine R_if_eq 31 dX12_died_5 (by decide) (fun hc5 => ?_) (fun hc5 => ?_)
  · try simp only [b2i_z, bi_z, ne_eq, Classical.not_not] at hc5
    refine R_iconst dX12_died_31 rfl rfl ?_
    refine R_ireturn rfl (by first | rfl | exact nar_b2i | exact nar_bi) (by decide) (by decide) dX12_died_32 ?_
    first | exact ⟨Or.inr ⟨by omega, rfl, rfl⟩, rfl, rfl, rfl⟩ | exact ⟨Or.inl ⟨by omega, rfl, rfl⟩, rfl, rfl, rfl⟩
  · try simp only [b2i_z, bi_z, ne_eq, Classical.not_not] at hc5
    refine R_iload_n dX12_died_8 rfl ?_
    refine R_iconst dX12_died_9 rfl rfl ?_
    refine R_icmp_eq 33 dX12_died_10 (by decide) (fun hc10 => ?_) (fun hc10 => ?_)
    · refine R_aload_n dX12_died_33 rfl ?_
      refine R_getR _ (hr _ _ _ rfl) fd12_22 kf12_66 rfl dX12_died_34 ?_
      refine R_iload_n dX12_died_37 rfl ?_
      refine R_iload_n dX12_died_38 rfl ?_
      refine R_iast rfl (by omega) (by omega) dX12_died_39 ?_
      refine R_aload_n dX12_died_40 rfl ?_
      refine R_iconst dX12_died_41 rfl rfl ?_
      refine R_putZ (by first | exact Or.inl rfl | exact Or.inr rfl | omega) fd12_23 rfl kf12_182 rfl dX12_died_42 ?_
      refine R_iconst dX12_died_45 rfl rfl ?_
      refine R_ireturn rfl (by first | rfl | exact nar_b2i | exact nar_bi) (by decide) (by decide) dX12_died_46 ?_
      first | exact ⟨Or.inr ⟨by omega, rfl, rfl⟩, rfl, rfl, rfl⟩ | exact ⟨Or.inl ⟨by omega, rfl, rfl⟩, rfl, rfl, rfl⟩
    · refine R_iload_n dX12_died_13 rfl ?_
      refine R_i2l dX12_died_14 ?_
      refine R_aload_n dX12_died_15 rfl ?_
      refine R_getR _ (hr _ _ _ rfl) fd12_18 kf12_54 rfl dX12_died_16 ?_
      refine R_iload_n dX12_died_19 rfl ?_
      refine R_iald rfl (by omega) (by omega) dX12_died_20 ?_
      refine R_i2l dX12_died_21 ?_
      refine R_ldc2_w (v := 299) kk12_178 dX12_died_22 (by decide) ?_
      refine R_callS (m_lies _ _ _) (mvX12_lies _) ksX12_lies km12_164 ⟨rfl, rfl, by decide, by decide⟩ (Nat.le_of_ble_eq_true rfl) dX12_died_25 (fun v1 sh1 g1 z1 r1 hq => ?_)
      obtain ⟨rfl, rfl, rfl, rfl, rfl⟩ := hq
      refine R_if_ne 33 dX12_died_28 (by decide) (fun hc28 => ?_) (fun hc28 => ?_)
      · try simp only [b2i_z, bi_z, ne_eq, Classical.not_not] at hc28
        refine R_aload_n dX12_died_33 rfl ?_
        refine R_getR _ (hr _ _ _ rfl) fd12_22 kf12_66 rfl dX12_died_34 ?_
        refine R_iload_n dX12_died_37 rfl ?_
        refine R_iload_n dX12_died_38 rfl ?_
        refine R_iast rfl (by omega) (by omega) dX12_died_39 ?_
        refine R_aload_n dX12_died_40 rfl ?_
        refine R_iconst dX12_died_41 rfl rfl ?_
        refine R_putZ (by first | exact Or.inl rfl | exact Or.inr rfl | omega) fd12_23 rfl kf12_182 rfl dX12_died_42 ?_
        refine R_iconst dX12_died_45 rfl rfl ?_
        refine R_ireturn rfl (by first | rfl | exact nar_b2i | exact nar_bi) (by decide) (by decide) dX12_died_46 ?_
        first | exact ⟨Or.inr ⟨by omega, rfl, rfl⟩, rfl, rfl, rfl⟩ | exact ⟨Or.inl ⟨by omega, rfl, rfl⟩, rfl, rfl, rfl⟩
      · try simp only [b2i_z, bi_z, ne_eq, Classical.not_not] at hc28
        refine R_iconst dX12_died_31 rfl rfl ?_
        refine R_ireturn rfl (by first | rfl | exact nar_b2i | exact nar_bi) (by decide) (by decide) dX12_died_32 ?_
        first | exact ⟨Or.inr ⟨by omega, rfl, rfl⟩, rfl, rfl, rfl⟩ | exact ⟨Or.inl ⟨by omega, rfl, rfl⟩, rfl, rfl, rfl⟩
theorem m_canTie (hr : RS r) (i c : Int) (hi : 0 ≤ i ∧ i < 10) (hc : 0 ≤ c ∧ c < 6) : CT (mX12_canTie (rmD 1 0 0)) 0 0 shW [vR (some 74), vI i, vI c] g z r (qP shW g z r (some (vI (bi (canTie (vM g) i.toNat c.toNat))))) := by
  have e : canTie (vM g) i.toNat c.toNat = decide (g 85 i.toNat = g 78 c.toNat ∧ (g 86 i.toNat = -1 ∨ g 86 i.toNat = g 79 c.toNat) ∧ g 80 c.toNat ≤ g 84 i.toNat ∧ g 84 i.toNat ≤ g 81 c.toNat) := rfl
  rw [e]
  refine CT.of 0 rfl rfl ?_
  refine R_aload_n dX12_canTie_0 rfl ?_
  refine R_getR _ (hr _ _ _ rfl) fd12_19 kf12_57 rfl dX12_canTie_1 ?_
  refine R_iload_n dX12_canTie_4 rfl ?_
  refine R_iald rfl (by omega) (by omega) dX12_canTie_5 ?_
  refine R_aload_n dX12_canTie_6 rfl ?_
  refine R_getR _ (hr _ _ _ rfl) fd12_12 kf12_36 rfl dX12_canTie_7 ?_
  refine R_iload_n dX12_canTie_10 rfl ?_
  refine R_iald rfl (by omega) (by omega) dX12_canTie_11 ?_
  refine R_icmp_ne 40 dX12_canTie_12 (by decide) (fun hd12 => ?_) (fun hd12 => ?_)
  · refine R_iconst dX12_canTie_40 rfl rfl ?_
    refine R_ireturn rfl (by first | rfl | exact nar_b2i | exact nar_bi) (by decide) (by decide) dX12_canTie_41 ?_
    first | exact ⟨by rw [bi_f (by simp; omega)], rfl, rfl, rfl, rfl⟩ | exact ⟨congrArg (fun x => some (vI x)) (by unfold b2i bi; congr 1; simp; omega), rfl, rfl, rfl, rfl⟩
  · refine R_aload_n dX12_canTie_15 rfl ?_
    refine R_getR _ (hr _ _ _ rfl) fd12_20 kf12_60 rfl dX12_canTie_16 ?_
    refine R_iload_n dX12_canTie_19 rfl ?_
    refine R_iald rfl (by omega) (by omega) dX12_canTie_20 ?_
    refine R_iconst dX12_canTie_21 rfl rfl ?_
    refine R_icmp_eq 42 dX12_canTie_22 (by decide) (fun hd22 => ?_) (fun hd22 => ?_)
    · refine R_aload_n dX12_canTie_42 rfl ?_
      refine R_getR _ (hr _ _ _ rfl) fd12_18 kf12_54 rfl dX12_canTie_43 ?_
      refine R_iload_n dX12_canTie_46 rfl ?_
      refine R_iald rfl (by omega) (by omega) dX12_canTie_47 ?_
      refine R_i2l dX12_canTie_48 ?_
      refine R_aload_n dX12_canTie_49 rfl ?_
      refine R_getR _ (hr _ _ _ rfl) fd12_14 kf12_42 rfl dX12_canTie_50 ?_
      refine R_iload_n dX12_canTie_53 rfl ?_
      refine R_iald rfl (by omega) (by omega) dX12_canTie_54 ?_
      refine R_i2l dX12_canTie_55 ?_
      refine R_aload_n dX12_canTie_56 rfl ?_
      refine R_getR _ (hr _ _ _ rfl) fd12_15 kf12_45 rfl dX12_canTie_57 ?_
      refine R_iload_n dX12_canTie_60 rfl ?_
      refine R_iald rfl (by omega) (by omega) dX12_canTie_61 ?_
      refine R_i2l dX12_canTie_62 ?_
      refine R_callS (m_lies _ _ _) (mvX12_lies _) ksX12_lies km12_164 ⟨rfl, rfl, by decide, by decide⟩ (Nat.le_of_ble_eq_true rfl) dX12_canTie_63 (fun v1 sh1 g1 z1 r1 hq => ?_)
      obtain ⟨rfl, rfl, rfl, rfl, rfl⟩ := hq
      refine R_ireturn rfl (by first | rfl | exact nar_b2i | exact nar_bi) (by decide) (by decide) dX12_canTie_66 ?_
      first | exact ⟨by rw [bi_f (by simp; omega)], rfl, rfl, rfl, rfl⟩ | exact ⟨congrArg (fun x => some (vI x)) (by unfold b2i bi; congr 1; simp; omega), rfl, rfl, rfl, rfl⟩
    · refine R_aload_n dX12_canTie_25 rfl ?_
      refine R_getR _ (hr _ _ _ rfl) fd12_20 kf12_60 rfl dX12_canTie_26 ?_
      refine R_iload_n dX12_canTie_29 rfl ?_
      refine R_iald rfl (by omega) (by omega) dX12_canTie_30 ?_
      refine R_aload_n dX12_canTie_31 rfl ?_
      refine R_getR _ (hr _ _ _ rfl) fd12_13 kf12_39 rfl dX12_canTie_32 ?_
      refine R_iload_n dX12_canTie_35 rfl ?_
      refine R_iald rfl (by omega) (by omega) dX12_canTie_36 ?_
      refine R_icmp_eq 42 dX12_canTie_37 (by decide) (fun hd37 => ?_) (fun hd37 => ?_)
      · refine R_aload_n dX12_canTie_42 rfl ?_
        refine R_getR _ (hr _ _ _ rfl) fd12_18 kf12_54 rfl dX12_canTie_43 ?_
        refine R_iload_n dX12_canTie_46 rfl ?_
        refine R_iald rfl (by omega) (by omega) dX12_canTie_47 ?_
        refine R_i2l dX12_canTie_48 ?_
        refine R_aload_n dX12_canTie_49 rfl ?_
        refine R_getR _ (hr _ _ _ rfl) fd12_14 kf12_42 rfl dX12_canTie_50 ?_
        refine R_iload_n dX12_canTie_53 rfl ?_
        refine R_iald rfl (by omega) (by omega) dX12_canTie_54 ?_
        refine R_i2l dX12_canTie_55 ?_
        refine R_aload_n dX12_canTie_56 rfl ?_
        refine R_getR _ (hr _ _ _ rfl) fd12_15 kf12_45 rfl dX12_canTie_57 ?_
        refine R_iload_n dX12_canTie_60 rfl ?_
        refine R_iald rfl (by omega) (by omega) dX12_canTie_61 ?_
        refine R_i2l dX12_canTie_62 ?_
        refine R_callS (m_lies _ _ _) (mvX12_lies _) ksX12_lies km12_164 ⟨rfl, rfl, by decide, by decide⟩ (Nat.le_of_ble_eq_true rfl) dX12_canTie_63 (fun v1 sh1 g1 z1 r1 hq => ?_)
        obtain ⟨rfl, rfl, rfl, rfl, rfl⟩ := hq
        refine R_ireturn rfl (by first | rfl | exact nar_b2i | exact nar_bi) (by decide) (by decide) dX12_canTie_66 ?_
        first | exact ⟨by rw [bi_f (by simp; omega)], rfl, rfl, rfl, rfl⟩ | exact ⟨congrArg (fun x => some (vI x)) (by unfold b2i bi; congr 1; simp; omega), rfl, rfl, rfl, rfl⟩
      · refine R_iconst dX12_canTie_40 rfl rfl ?_
        refine R_ireturn rfl (by first | rfl | exact nar_b2i | exact nar_bi) (by decide) (by decide) dX12_canTie_41 ?_
        first | exact ⟨by rw [bi_f (by simp; omega)], rfl, rfl, rfl, rfl⟩ | exact ⟨congrArg (fun x => some (vI x)) (by unfold b2i bi; congr 1; simp; omega), rfl, rfl, rfl, rfl⟩
theorem m_isGone (hr : RS r) (a y : Int) (ha : 0 ≤ a ∧ a < 10) : CT (mX12_isGone (rmD 0 0 0)) 0 0 shW [vR (some 74), vI a, vI y] g z r (qP shW g z r (some (vI (bi (isGone (vM g) a.toNat y))))) := by
  have e : isGone (vM g) a.toNat y = decide (g 88 a.toNat ≠ -1 ∧ g 88 a.toNat ≤ y) := rfl
  rw [e]
  refine CT.of 0 rfl rfl ?_
  refine R_aload_n dX12_isGone_0 rfl ?_
  refine R_getR _ (hr _ _ _ rfl) fd12_22 kf12_66 rfl dX12_isGone_1 ?_
  refine R_iload_n dX12_isGone_4 rfl ?_
  refine R_iald rfl (by omega) (by omega) dX12_isGone_5 ?_
  refine R_iconst dX12_isGone_6 rfl rfl ?_
  refine R_icmp_eq 24 dX12_isGone_7 (by decide) (fun hc7 => ?_) (fun hc7 => ?_)
  · refine R_iconst dX12_isGone_24 rfl rfl ?_
    refine R_ireturn rfl (by first | rfl | exact nar_b2i | exact nar_bi) (by decide) (by decide) dX12_isGone_25 ?_
    first | exact ⟨by rw [bi_f (by simp; omega)], rfl, rfl, rfl, rfl⟩ | exact ⟨by rw [bi_t (by simp; omega)], rfl, rfl, rfl, rfl⟩
  · refine R_aload_n dX12_isGone_10 rfl ?_
    refine R_getR _ (hr _ _ _ rfl) fd12_22 kf12_66 rfl dX12_isGone_11 ?_
    refine R_iload_n dX12_isGone_14 rfl ?_
    refine R_iald rfl (by omega) (by omega) dX12_isGone_15 ?_
    refine R_iload_n dX12_isGone_16 rfl ?_
    refine R_icmp_gt 24 dX12_isGone_17 (by decide) (fun hc17 => ?_) (fun hc17 => ?_)
    · refine R_iconst dX12_isGone_24 rfl rfl ?_
      refine R_ireturn rfl (by first | rfl | exact nar_b2i | exact nar_bi) (by decide) (by decide) dX12_isGone_25 ?_
      first | exact ⟨by rw [bi_f (by simp; omega)], rfl, rfl, rfl, rfl⟩ | exact ⟨by rw [bi_t (by simp; omega)], rfl, rfl, rfl, rfl⟩
    · refine R_iconst dX12_isGone_20 rfl rfl ?_
      refine R_goto 25 dX12_isGone_21 (by decide) ?_
      refine R_ireturn rfl (by first | rfl | exact nar_b2i | exact nar_bi) (by decide) (by decide) dX12_isGone_25 ?_
      first | exact ⟨by rw [bi_f (by simp; omega)], rfl, rfl, rfl, rfl⟩ | exact ⟨by rw [bi_t (by simp; omega)], rfl, rfl, rfl, rfl⟩
theorem m_tie (hr : RS r) (hC : 0 ≤ g 74 3 ∧ g 74 3 ≤ 6) (hF : 0 ≤ g 74 4 ∧ g 74 4 ≤ 10) (i c : Int) : CT (mX12_tie (rmD 5 0 0)) 0 0 shW [vR (some 74), vI i, vI c] g z r (qP shW g z r (some (vI (if 0 ≤ i ∧ i < g 74 4 ∧ 0 ≤ c ∧ c < g 74 3 then bi (canTie (vM g) i.toNat c.toNat) else -1)))) := by
  refine CT.of 0 rfl rfl ?_
  refine R_aload_n dX12_tie_0 rfl ?_
  refine R_iload_n dX12_tie_1 rfl ?_
  refine R_callV (m_isFont hF _) (mvX12_isFont _) kiX12_isFont kvX12_isFont km12_198 rfl rfl (by decide) ⟨rfl, rfl, by decide, by decide⟩ (Nat.le_of_ble_eq_true rfl) dX12_tie_2 (fun v1 sh1 g1 z1 r1 hq => ?_)
  obtain ⟨rfl, rfl, rfl, rfl, rfl⟩ := hq
  refine R_if_eq 33 dX12_tie_5 (by decide) (fun hc5 => ?_) (fun hc5 => ?_)
  · try simp only [b2i_z, bi_z, ne_eq, Classical.not_not] at hc5
    refine R_iconst dX12_tie_33 rfl rfl ?_
    refine R_ireturn rfl (by first | rfl | exact nar_b2i | exact nar_bi) (by decide) (by decide) dX12_tie_34 ?_
    first | exact ⟨by rw [if_neg (by omega)], rfl, rfl, rfl, rfl⟩ | exact ⟨by rw [if_pos (by omega)]; first | rw [bi_t hc22] | rw [bi_f hc22], rfl, rfl, rfl, rfl⟩
  · try simp only [b2i_z, bi_z, ne_eq, Classical.not_not] at hc5
    refine R_aload_n dX12_tie_8 rfl ?_
    refine R_iload_n dX12_tie_9 rfl ?_
    refine R_callV (m_isCouple hC _) (mvX12_isCouple _) kiX12_isCouple kvX12_isCouple km12_193 rfl rfl (by decide) ⟨rfl, rfl, by decide, by decide⟩ (Nat.le_of_ble_eq_true rfl) dX12_tie_10 (fun v1 sh1 g1 z1 r1 hq => ?_)
    obtain ⟨rfl, rfl, rfl, rfl, rfl⟩ := hq
    refine R_if_eq 33 dX12_tie_13 (by decide) (fun hc13 => ?_) (fun hc13 => ?_)
    · try simp only [b2i_z, bi_z, ne_eq, Classical.not_not] at hc13
      refine R_iconst dX12_tie_33 rfl rfl ?_
      refine R_ireturn rfl (by first | rfl | exact nar_b2i | exact nar_bi) (by decide) (by decide) dX12_tie_34 ?_
      first | exact ⟨by rw [if_neg (by omega)], rfl, rfl, rfl, rfl⟩ | exact ⟨by rw [if_pos (by omega)]; first | rw [bi_t hc22] | rw [bi_f hc22], rfl, rfl, rfl, rfl⟩
    · try simp only [b2i_z, bi_z, ne_eq, Classical.not_not] at hc13
      refine R_aload_n dX12_tie_16 rfl ?_
      refine R_iload_n dX12_tie_17 rfl ?_
      refine R_iload_n dX12_tie_18 rfl ?_
      refine R_callV (m_canTie hr _ _ (by omega) (by omega)) (mvX12_canTie _) kiX12_canTie kvX12_canTie km12_330 rfl rfl (by decide) ⟨rfl, rfl, by decide, by decide⟩ (Nat.le_of_ble_eq_true rfl) dX12_tie_19 (fun v1 sh1 g1 z1 r1 hq => ?_)
      obtain ⟨rfl, rfl, rfl, rfl, rfl⟩ := hq
      refine R_if_eq 29 dX12_tie_22 (by decide) (fun hc22 => ?_) (fun hc22 => ?_)
      · try simp only [b2i_z, bi_z, ne_eq, Classical.not_not] at hc22
        refine R_iconst dX12_tie_29 rfl rfl ?_
        refine R_goto 34 dX12_tie_30 (by decide) ?_
        refine R_ireturn rfl (by first | rfl | exact nar_b2i | exact nar_bi) (by decide) (by decide) dX12_tie_34 ?_
        first | exact ⟨by rw [if_neg (by omega)], rfl, rfl, rfl, rfl⟩ | exact ⟨by rw [if_pos (by omega)]; first | rw [bi_t hc22] | rw [bi_f hc22], rfl, rfl, rfl, rfl⟩
      · try simp only [b2i_z, bi_z, ne_eq, Classical.not_not] at hc22
        refine R_iconst dX12_tie_25 rfl rfl ?_
        refine R_goto 34 dX12_tie_26 (by decide) ?_
        refine R_ireturn rfl (by first | rfl | exact nar_b2i | exact nar_bi) (by decide) (by decide) dX12_tie_34 ?_
        first | exact ⟨by rw [if_neg (by omega)], rfl, rfl, rfl, rfl⟩ | exact ⟨by rw [if_pos (by omega)]; first | rw [bi_t hc22] | rw [bi_f hc22], rfl, rfl, rfl, rfl⟩
theorem m_look (hr : RS r) (hF : 0 ≤ g 74 4 ∧ g 74 4 ≤ 10) (i w : Int) : CT (mX12_look (rmD 5 0 0)) 0 0 shW [vR (some 74), vI i, vI w] g z r (qP shW g z r (some (vI (lookS (vM g) i w)))) := by
  refine CT.of 0 rfl rfl ?_
  have e : (vM g) 0 2 = g 74 4 := rfl
  refine R_aload_n dX12_look_0 rfl ?_
  refine R_iload_n dX12_look_1 rfl ?_
  refine R_callV (m_isFont hF _) (mvX12_isFont _) kiX12_isFont kvX12_isFont km12_198 rfl rfl (by decide) ⟨rfl, rfl, by decide, by decide⟩ (Nat.le_of_ble_eq_true rfl) dX12_look_2 (fun v1 sh1 g1 z1 r1 hq => ?_)
  obtain ⟨rfl, rfl, rfl, rfl, rfl⟩ := hq
  refine R_if_ne 10 dX12_look_5 (by decide) (fun hc5 => ?_) (fun hc5 => ?_)
  · try simp only [b2i_z, bi_z, ne_eq, Classical.not_not] at hc5
    refine R_iload_n dX12_look_10 rfl ?_
    refine R_ts [48, 55, 62, 69, 76, 83] 90 dX12_look_11 (by decide) (by decide) (by decide) (fun i11 t11 ht11 ha11 => ?_) (fun hc11 => ?_)
    · match i11, ht11 with
      | 0, ht11 =>
        cases ht11
        refine R_aload_n dX12_look_48 rfl ?_
        refine R_getR _ (hr _ _ _ rfl) fd12_17 kf12_51 rfl dX12_look_49 ?_
        refine R_iload_n dX12_look_52 rfl ?_
        refine R_iald rfl (by omega) (by omega) dX12_look_53 ?_
        refine R_ireturn rfl (by first | rfl | exact nar_b2i | exact nar_bi) (by decide) (by decide) dX12_look_54 ?_
        first | exact ⟨by rw [lookS, e, if_neg (by omega)], rfl, rfl, rfl, rfl⟩ | exact ⟨by rw [ha11, lookS, e, if_pos (by omega)]; rfl, rfl, rfl, rfl, rfl⟩
      | 1, ht11 =>
        cases ht11
        refine R_aload_n dX12_look_55 rfl ?_
        refine R_getR _ (hr _ _ _ rfl) fd12_18 kf12_54 rfl dX12_look_56 ?_
        refine R_iload_n dX12_look_59 rfl ?_
        refine R_iald rfl (by omega) (by omega) dX12_look_60 ?_
        refine R_ireturn rfl (by first | rfl | exact nar_b2i | exact nar_bi) (by decide) (by decide) dX12_look_61 ?_
        first | exact ⟨by rw [lookS, e, if_neg (by omega)], rfl, rfl, rfl, rfl⟩ | exact ⟨by rw [ha11, lookS, e, if_pos (by omega)]; rfl, rfl, rfl, rfl, rfl⟩
      | 2, ht11 =>
        cases ht11
        refine R_aload_n dX12_look_62 rfl ?_
        refine R_getR _ (hr _ _ _ rfl) fd12_19 kf12_57 rfl dX12_look_63 ?_
        refine R_iload_n dX12_look_66 rfl ?_
        refine R_iald rfl (by omega) (by omega) dX12_look_67 ?_
        refine R_ireturn rfl (by first | rfl | exact nar_b2i | exact nar_bi) (by decide) (by decide) dX12_look_68 ?_
        first | exact ⟨by rw [lookS, e, if_neg (by omega)], rfl, rfl, rfl, rfl⟩ | exact ⟨by rw [ha11, lookS, e, if_pos (by omega)]; rfl, rfl, rfl, rfl, rfl⟩
      | 3, ht11 =>
        cases ht11
        refine R_aload_n dX12_look_69 rfl ?_
        refine R_getR _ (hr _ _ _ rfl) fd12_20 kf12_60 rfl dX12_look_70 ?_
        refine R_iload_n dX12_look_73 rfl ?_
        refine R_iald rfl (by omega) (by omega) dX12_look_74 ?_
        refine R_ireturn rfl (by first | rfl | exact nar_b2i | exact nar_bi) (by decide) (by decide) dX12_look_75 ?_
        first | exact ⟨by rw [lookS, e, if_neg (by omega)], rfl, rfl, rfl, rfl⟩ | exact ⟨by rw [ha11, lookS, e, if_pos (by omega)]; rfl, rfl, rfl, rfl, rfl⟩
      | 4, ht11 =>
        cases ht11
        refine R_aload_n dX12_look_76 rfl ?_
        refine R_getR _ (hr _ _ _ rfl) fd12_21 kf12_63 rfl dX12_look_77 ?_
        refine R_iload_n dX12_look_80 rfl ?_
        refine R_iald rfl (by omega) (by omega) dX12_look_81 ?_
        refine R_ireturn rfl (by first | rfl | exact nar_b2i | exact nar_bi) (by decide) (by decide) dX12_look_82 ?_
        first | exact ⟨by rw [lookS, e, if_neg (by omega)], rfl, rfl, rfl, rfl⟩ | exact ⟨by rw [ha11, lookS, e, if_pos (by omega)]; rfl, rfl, rfl, rfl, rfl⟩
      | 5, ht11 =>
        cases ht11
        refine R_aload_n dX12_look_83 rfl ?_
        refine R_getR _ (hr _ _ _ rfl) fd12_22 kf12_66 rfl dX12_look_84 ?_
        refine R_iload_n dX12_look_87 rfl ?_
        refine R_iald rfl (by omega) (by omega) dX12_look_88 ?_
        refine R_ireturn rfl (by first | rfl | exact nar_b2i | exact nar_bi) (by decide) (by decide) dX12_look_89 ?_
        first | exact ⟨by rw [lookS, e, if_neg (by omega)], rfl, rfl, rfl, rfl⟩ | exact ⟨by rw [ha11, lookS, e, if_pos (by omega)]; rfl, rfl, rfl, rfl, rfl⟩
      | n11 + 6, ht11 => exact absurd (List.getElem?_eq_some_iff.mp ht11).1 (by simp)
    · refine R_iconst dX12_look_90 rfl rfl ?_
      refine R_ireturn rfl (by first | rfl | exact nar_b2i | exact nar_bi) (by decide) (by decide) dX12_look_91 ?_
      first | exact ⟨by rw [lookS, e, if_neg (by omega)], rfl, rfl, rfl, rfl⟩ | exact ⟨by rw [ha11, lookS, e, if_pos (by omega)]; rfl, rfl, rfl, rfl, rfl⟩
  · try simp only [b2i_z, bi_z, ne_eq, Classical.not_not] at hc5
    refine R_iconst dX12_look_8 rfl rfl ?_
    refine R_ireturn rfl (by first | rfl | exact nar_b2i | exact nar_bi) (by decide) (by decide) dX12_look_9 ?_
    first | exact ⟨by rw [lookS, e, if_neg (by omega)], rfl, rfl, rfl, rfl⟩ | exact ⟨by rw [ha11, lookS, e, if_pos (by omega)]; rfl, rfl, rfl, rfl, rfl⟩
theorem m_count (hr : RS r) (w : Int) : CT (mX12_count (rmD 5 0 0)) 0 0 shW [vR (some 74), vI w] g z r (qP shW g z r (some (vI (if 10 ≤ w ∧ w < 14 then g 89 (w - 10).toNat else if 0 ≤ w ∧ w ≤ 2 then vM g 0 w.toNat else if w = 3 then g 74 1 else if 4 ≤ w ∧ w ≤ 6 then vM g 0 (w.toNat + 1) else -1)))) := by
  refine CT.of 0 rfl rfl ?_
  refine R_iload_n dX12_count_0 rfl ?_
  refine R_i2l dX12_count_1 ?_
  refine R_ldc2_w (v := 10) kk12_462 dX12_count_2 (by decide) ?_
  refine R_ldc2_w (v := 13) kk12_464 dX12_count_5 (by decide) ?_
  refine R_callS (m_lies _ _ _) (mvX12_lies _) ksX12_lies km12_164 ⟨rfl, rfl, by decide, by decide⟩ (Nat.le_of_ble_eq_true rfl) dX12_count_8 (fun v1 sh1 g1 z1 r1 hq => ?_)
  obtain ⟨rfl, rfl, rfl, rfl, rfl⟩ := hq
  refine R_if_eq 24 dX12_count_11 (by decide) (fun hc11 => ?_) (fun hc11 => ?_)
  · try simp only [b2i_z, bi_z, ne_eq, Classical.not_not] at hc11
    refine R_iload_n dX12_count_24 rfl ?_
    refine R_ts [68, 73, 78, 83, 88, 93, 98] 103 dX12_count_25 (by decide) (by decide) (by decide) (fun i25 t25 ht25 ha25 => ?_) (fun hc25 => ?_)
    · match i25, ht25 with
      | 0, ht25 =>
        cases ht25
        refine R_aload_n dX12_count_68 rfl ?_
        refine R_getI fd12_2 kf12_161 rfl dX12_count_69 ?_
        refine R_ireturn rfl (by first | rfl | exact nar_b2i | exact nar_bi) (by decide) (by decide) dX12_count_72 ?_
        first | (exfalso; omega) | exact ⟨by rw [if_pos (by omega)], rfl, rfl, rfl, rfl⟩ | exact ⟨by subst ha25; rfl, rfl, rfl, rfl, rfl⟩ | exact ⟨by rw [if_neg (by omega), if_neg (by omega), if_neg (by omega), if_neg (by omega)], rfl, rfl, rfl, rfl⟩
      | 1, ht25 =>
        cases ht25
        refine R_aload_n dX12_count_73 rfl ?_
        refine R_getI fd12_3 kf12_172 rfl dX12_count_74 ?_
        refine R_ireturn rfl (by first | rfl | exact nar_b2i | exact nar_bi) (by decide) (by decide) dX12_count_77 ?_
        first | (exfalso; omega) | exact ⟨by rw [if_pos (by omega)], rfl, rfl, rfl, rfl⟩ | exact ⟨by subst ha25; rfl, rfl, rfl, rfl, rfl⟩ | exact ⟨by rw [if_neg (by omega), if_neg (by omega), if_neg (by omega), if_neg (by omega)], rfl, rfl, rfl, rfl⟩
      | 2, ht25 =>
        cases ht25
        refine R_aload_n dX12_count_78 rfl ?_
        refine R_getI fd12_4 kf12_175 rfl dX12_count_79 ?_
        refine R_ireturn rfl (by first | rfl | exact nar_b2i | exact nar_bi) (by decide) (by decide) dX12_count_82 ?_
        first | (exfalso; omega) | exact ⟨by rw [if_pos (by omega)], rfl, rfl, rfl, rfl⟩ | exact ⟨by subst ha25; rfl, rfl, rfl, rfl, rfl⟩ | exact ⟨by rw [if_neg (by omega), if_neg (by omega), if_neg (by omega), if_neg (by omega)], rfl, rfl, rfl, rfl⟩
      | 3, ht25 =>
        cases ht25
        refine R_aload_n dX12_count_83 rfl ?_
        refine R_getI fd12_1 kf12_203 rfl dX12_count_84 ?_
        refine R_ireturn rfl (by first | rfl | exact nar_b2i | exact nar_bi) (by decide) (by decide) dX12_count_87 ?_
        first | (exfalso; omega) | exact ⟨by rw [if_pos (by omega)], rfl, rfl, rfl, rfl⟩ | exact ⟨by subst ha25; rfl, rfl, rfl, rfl, rfl⟩ | exact ⟨by rw [if_neg (by omega), if_neg (by omega), if_neg (by omega), if_neg (by omega)], rfl, rfl, rfl, rfl⟩
      | 4, ht25 =>
        cases ht25
        refine R_aload_n dX12_count_88 rfl ?_
        refine R_getI fd12_5 kf12_13 rfl dX12_count_89 ?_
        refine R_ireturn rfl (by first | rfl | exact nar_b2i | exact nar_bi) (by decide) (by decide) dX12_count_92 ?_
        first | (exfalso; omega) | exact ⟨by rw [if_pos (by omega)], rfl, rfl, rfl, rfl⟩ | exact ⟨by subst ha25; rfl, rfl, rfl, rfl, rfl⟩ | exact ⟨by rw [if_neg (by omega), if_neg (by omega), if_neg (by omega), if_neg (by omega)], rfl, rfl, rfl, rfl⟩
      | 5, ht25 =>
        cases ht25
        refine R_aload_n dX12_count_93 rfl ?_
        refine R_getI fd12_6 kf12_17 rfl dX12_count_94 ?_
        refine R_ireturn rfl (by first | rfl | exact nar_b2i | exact nar_bi) (by decide) (by decide) dX12_count_97 ?_
        first | (exfalso; omega) | exact ⟨by rw [if_pos (by omega)], rfl, rfl, rfl, rfl⟩ | exact ⟨by subst ha25; rfl, rfl, rfl, rfl, rfl⟩ | exact ⟨by rw [if_neg (by omega), if_neg (by omega), if_neg (by omega), if_neg (by omega)], rfl, rfl, rfl, rfl⟩
      | 6, ht25 =>
        cases ht25
        refine R_aload_n dX12_count_98 rfl ?_
        refine R_getI fd12_7 kf12_20 rfl dX12_count_99 ?_
        refine R_ireturn rfl (by first | rfl | exact nar_b2i | exact nar_bi) (by decide) (by decide) dX12_count_102 ?_
        first | (exfalso; omega) | exact ⟨by rw [if_pos (by omega)], rfl, rfl, rfl, rfl⟩ | exact ⟨by subst ha25; rfl, rfl, rfl, rfl, rfl⟩ | exact ⟨by rw [if_neg (by omega), if_neg (by omega), if_neg (by omega), if_neg (by omega)], rfl, rfl, rfl, rfl⟩
      | n25 + 7, ht25 => exact absurd (List.getElem?_eq_some_iff.mp ht25).1 (by simp)
    · refine R_iconst dX12_count_103 rfl rfl ?_
      refine R_ireturn rfl (by first | rfl | exact nar_b2i | exact nar_bi) (by decide) (by decide) dX12_count_104 ?_
      first | (exfalso; omega) | exact ⟨by rw [if_pos (by omega)], rfl, rfl, rfl, rfl⟩ | exact ⟨by subst ha25; rfl, rfl, rfl, rfl, rfl⟩ | exact ⟨by rw [if_neg (by omega), if_neg (by omega), if_neg (by omega), if_neg (by omega)], rfl, rfl, rfl, rfl⟩
  · try simp only [b2i_z, bi_z, ne_eq, Classical.not_not] at hc11
    refine R_aload_n dX12_count_14 rfl ?_
    refine R_getR _ (hr _ _ _ rfl) fd12_24 kf12_69 rfl dX12_count_15 ?_
    refine R_iload_n dX12_count_18 rfl ?_
    refine R_bipush dX12_count_19 rfl (by decide +kernel) ?_
    refine R_isubN dX12_count_21 (by unfold inI; omega) ?_
    refine R_iald rfl (by omega) (by omega) dX12_count_22 ?_
    refine R_ireturn rfl (by first | rfl | exact nar_b2i | exact nar_bi) (by decide) (by decide) dX12_count_23 ?_
    first | (exfalso; omega) | exact ⟨by rw [if_pos (by omega)], rfl, rfl, rfl, rfl⟩ | exact ⟨by subst ha25; rfl, rfl, rfl, rfl, rfl⟩ | exact ⟨by rw [if_neg (by omega), if_neg (by omega), if_neg (by omega), if_neg (by omega)], rfl, rfl, rfl, rfl⟩
end M1
