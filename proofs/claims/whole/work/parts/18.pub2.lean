section PUB2
variable {g z : GG} {r : RR}
def nmOK (s : VW) (v x : Int) : Prop := 0 ≤ v ∧ v < s 0 0 ∧ s 1 v.toNat = x
theorem p_name (hr : RS r) (hN : 0 ≤ g 2 2 ∧ g 2 2 ≤ 16) (a b : Int) : CT (mX11_name (rmD 5 0 0)) 0 0 shW [vR (some 0), vI a, vI b] g z r (qG shW z r fun v g' => ((0 ≤ a ∧ a ≤ 1 ∧ 1 ≤ b ∧ b ≤ 100 ∧ g 2 2 < 16) ∧ v = some (vI (g 2 2)) ∧ g' = up2 (up2 (up2 (up2 g 3 (g 2 2).toNat a) 4 (g 2 2).toNat b) 2 2 (g 2 2 + 1)) 41 10 0) ∨ (¬ (0 ≤ a ∧ a ≤ 1 ∧ 1 ≤ b ∧ b ≤ 100 ∧ g 2 2 < 16) ∧ v = some (vI (-1)) ∧ g' = up2 g 41 10 0)) := by
  refine CT.of 1 rfl rfl ?_
  refine R_aload_n dX11_name_0 rfl ?_
  refine R_getR _ (hr _ _ _ rfl) fd11_0 kf11_10 rfl dX11_name_1 ?_
  refine R_getR _ (hr _ _ _ rfl) fd0_0 kf11_74 rfl dX11_name_4 ?_
  refine R_iload_n dX11_name_7 rfl ?_
  refine R_iload_n dX11_name_8 rfl ?_
  refine R_callV (c_X5_add hr hN a b) (mvX5_add _) kiX5_add kvX5_add km11_78 rfl rfl (by decide) ⟨rfl, rfl, by decide, by decide⟩ (by decide) dX11_name_9 (fun v1 sh1 g1 z1 r1 hq => ?_)
  obtain ⟨⟨hk, rfl, rfl⟩ | ⟨hk, rfl, rfl⟩, rfl, rfl, rfl⟩ := hq
  all_goals simp only [Option.toList_some, List.cons_append, List.nil_append]
  · refine R_istore_n dX11_name_12 (by decide) rfl [_, _, _, _] rfl ?_
    refine R_aload_n dX11_name_13 rfl ?_
    refine R_getR _ (hr _ _ _ rfl) fd11_8 kf11_69 rfl dX11_name_14 ?_
    refine R_callV (c_X10_forget) (mvX10_forget _) kiX10_forget kvX10_forget km11_84 rfl rfl (by decide) ⟨rfl, rfl, by decide, by decide⟩ (by decide) dX11_name_17 (fun v1 sh1 g1 z1 r1 hq => ?_)
    obtain ⟨⟨rfl, rfl⟩, rfl, rfl, rfl⟩ := hq
    refine R_iload_n dX11_name_20 rfl ?_
    refine R_ireturn rfl (by rfl) (by decide) (by decide) dX11_name_21 ?_
    exact ⟨Or.inl ⟨hk, rfl, rfl⟩, rfl, rfl, rfl⟩
  · refine R_istore_n dX11_name_12 (by decide) rfl [_, _, _, _] rfl ?_
    refine R_aload_n dX11_name_13 rfl ?_
    refine R_getR _ (hr _ _ _ rfl) fd11_8 kf11_69 rfl dX11_name_14 ?_
    refine R_callV (c_X10_forget) (mvX10_forget _) kiX10_forget kvX10_forget km11_84 rfl rfl (by decide) ⟨rfl, rfl, by decide, by decide⟩ (by decide) dX11_name_17 (fun v1 sh1 g1 z1 r1 hq => ?_)
    obtain ⟨⟨rfl, rfl⟩, rfl, rfl, rfl⟩ := hq
    refine R_iload_n dX11_name_20 rfl ?_
    refine R_ireturn rfl (by rfl) (by decide) (by decide) dX11_name_21 ?_
    exact ⟨Or.inr ⟨hk, rfl, rfl⟩, rfl, rfl, rfl⟩
theorem p_couple (hr : RS r) (hN : 0 ≤ g 2 2 ∧ g 2 2 ≤ 16) (hC : 0 ≤ g 5 5 ∧ g 5 5 ≤ 6) (a b w l : Int) : CT (mX11_couple (rmD 5 0 0)) 0 0 shW [vR (some 0), vI a, vI b, vI w, vI l] g z r (qG shW z r fun v g' => ((nmOK (vC g) a 0 ∧ nmOK (vC g) b 1 ∧ 0 ≤ w ∧ w ≤ l ∧ l ≤ 299 ∧ g 5 5 < 6) ∧ v = some (vI (g 5 5)) ∧ g' = up2 (up2 (up2 (up2 (up2 (up2 (up2 (up2 (up2 (up2 g 6 (g 5 5).toNat a) 7 (g 5 5).toNat b) 8 (g 5 5).toNat w) 9 (g 5 5).toNat l) 10 (g 5 5 * 4 + 0).toNat (-1)) 10 (g 5 5 * 4 + 1).toNat (-1)) 10 (g 5 5 * 4 + 2).toNat (-1)) 10 (g 5 5 * 4 + 3).toNat (-1)) 5 5 (g 5 5 + 1)) 41 10 0) ∨ (¬ (nmOK (vC g) a 0 ∧ nmOK (vC g) b 1 ∧ 0 ≤ w ∧ w ≤ l ∧ l ≤ 299 ∧ g 5 5 < 6) ∧ v = some (vI (-1)) ∧ (g' = g ∨ g' = up2 g 41 10 0))) := by
  refine CT.of 1 rfl rfl ?_
  refine R_aload_n dX11_couple_0 rfl ?_
  refine R_getR _ (hr _ _ _ rfl) fd11_0 kf11_10 rfl dX11_couple_1 ?_
  refine R_getR _ (hr _ _ _ rfl) fd0_0 kf11_74 rfl dX11_couple_4 ?_
  refine R_iload_n dX11_couple_7 rfl ?_
  refine R_iconst dX11_couple_8 rfl rfl ?_
  refine R_callV (c_X5_has hr hN _ _) (mvX5_has _) kiX5_has kvX5_has km11_87 rfl rfl (by decide) ⟨rfl, rfl, by decide, by decide⟩ (by decide) dX11_couple_9 (fun v1 sh1 g1 z1 r1 hq => ?_)
  obtain ⟨rfl, rfl, rfl, rfl, rfl⟩ := hq
  refine R_if_eq 30 dX11_couple_12 (by decide) (fun hc12 => ?_) (fun hc12 => ?_)
  · try simp only [b2i_z, bi_z, ne_eq, Classical.not_not] at hc12
    refine R_iconst dX11_couple_30 rfl rfl ?_
    refine R_ireturn rfl (by rfl) (by decide) (by decide) dX11_couple_31 ?_
    exact ⟨Or.inr ⟨fun q => by have q1 := q.1; have q2 := q.2.1; unfold nmOK at q1 q2; simp only [vC] at q1 q2; omega, rfl, Or.inl rfl⟩, rfl, rfl, rfl⟩
  · try simp only [b2i_z, bi_z, ne_eq, Classical.not_not] at hc12
    refine R_aload_n dX11_couple_15 rfl ?_
    refine R_getR _ (hr _ _ _ rfl) fd11_0 kf11_10 rfl dX11_couple_16 ?_
    refine R_getR _ (hr _ _ _ rfl) fd0_0 kf11_74 rfl dX11_couple_19 ?_
    refine R_iload_n dX11_couple_22 rfl ?_
    refine R_iconst dX11_couple_23 rfl rfl ?_
    refine R_callV (c_X5_has hr hN _ _) (mvX5_has _) kiX5_has kvX5_has km11_87 rfl rfl (by decide) ⟨rfl, rfl, by decide, by decide⟩ (by decide) dX11_couple_24 (fun v1 sh1 g1 z1 r1 hq => ?_)
    obtain ⟨rfl, rfl, rfl, rfl, rfl⟩ := hq
    refine R_if_ne 32 dX11_couple_27 (by decide) (fun hc27 => ?_) (fun hc27 => ?_)
    · try simp only [b2i_z, bi_z, ne_eq, Classical.not_not] at hc27
      have hnn : nmOK (vC g) a 0 ∧ nmOK (vC g) b 1 := by unfold nmOK; simp only [vC]; omega
      refine R_aload_n dX11_couple_32 rfl ?_
      refine R_getR _ (hr _ _ _ rfl) fd11_0 kf11_10 rfl dX11_couple_33 ?_
      refine R_getR _ (hr _ _ _ rfl) fd0_1 kf11_91 rfl dX11_couple_36 ?_
      refine R_iload_n dX11_couple_39 rfl ?_
      refine R_iload_n dX11_couple_40 rfl ?_
      refine R_iload_n dX11_couple_41 rfl ?_
      refine R_iload dX11_couple_42 rfl ?_
      refine R_callV (c_X1_add hr hC a b w l) (mvX1_add _) kiX1_add kvX1_add km11_95 rfl rfl (by decide) ⟨rfl, rfl, by decide, by decide⟩ (by decide) dX11_couple_44 (fun v1 sh1 g1 z1 r1 hq => ?_)
      obtain ⟨⟨hk, rfl, rfl⟩ | ⟨hk, rfl, rfl⟩, rfl, rfl, rfl⟩ := hq
      · refine R_istore dX11_couple_47 (by decide) rfl [_, _, _, _, _, _] rfl ?_
        refine R_aload_n dX11_couple_49 rfl ?_
        refine R_getR _ (hr _ _ _ rfl) fd11_8 kf11_69 rfl dX11_couple_50 ?_
        refine R_callV (c_X10_forget) (mvX10_forget _) kiX10_forget kvX10_forget km11_84 rfl rfl (by decide) ⟨rfl, rfl, by decide, by decide⟩ (by decide) dX11_couple_53 (fun v1 sh1 g1 z1 r1 hq => ?_)
        obtain ⟨⟨rfl, rfl⟩, rfl, rfl, rfl⟩ := hq
        refine R_iload dX11_couple_56 rfl ?_
        refine R_ireturn rfl (by rfl) (by decide) (by decide) dX11_couple_58 ?_
        exact ⟨Or.inl ⟨⟨hnn.1, hnn.2, hk⟩, rfl, rfl⟩, rfl, rfl, rfl⟩
      · refine R_istore dX11_couple_47 (by decide) rfl [_, _, _, _, _, _] rfl ?_
        refine R_aload_n dX11_couple_49 rfl ?_
        refine R_getR _ (hr _ _ _ rfl) fd11_8 kf11_69 rfl dX11_couple_50 ?_
        refine R_callV (c_X10_forget) (mvX10_forget _) kiX10_forget kvX10_forget km11_84 rfl rfl (by decide) ⟨rfl, rfl, by decide, by decide⟩ (by decide) dX11_couple_53 (fun v1 sh1 g1 z1 r1 hq => ?_)
        obtain ⟨⟨rfl, rfl⟩, rfl, rfl, rfl⟩ := hq
        refine R_iload dX11_couple_56 rfl ?_
        refine R_ireturn rfl (by rfl) (by decide) (by decide) dX11_couple_58 ?_
        exact ⟨Or.inr ⟨fun q => hk q.2.2, rfl, Or.inr rfl⟩, rfl, rfl, rfl⟩
    · try simp only [b2i_z, bi_z, ne_eq, Classical.not_not] at hc27
      refine R_iconst dX11_couple_30 rfl rfl ?_
      refine R_ireturn rfl (by rfl) (by decide) (by decide) dX11_couple_31 ?_
      exact ⟨Or.inr ⟨fun q => by have q1 := q.1; have q2 := q.2.1; unfold nmOK at q1 q2; simp only [vC] at q1 q2; omega, rfl, Or.inl rfl⟩, rfl, rfl, rfl⟩
end PUB2
