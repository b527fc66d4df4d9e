theorem b2i_z {p : Prop} [Decidable p] : (b2i p = 0) = ¬ p := by unfold b2i; split <;> simp_all
theorem bi_z {b : Bool} : (bi b = 0) = (¬ b = true) := by cases b <;> simp [bi]
section PUB1
variable {g z : GG} {r : RR}
theorem c_X10_forget : CT (mX10_forget (rmD 0 0 0)) 0 0 shW [vR (some 41)] g z r (qG shW z r fun v g' => v = none ∧ g' = up2 g 41 10 0) := by
  refine CT.of 0 rfl rfl ?_
  refine R_aload_n dX10_forget_0 rfl ?_
  refine R_iconst dX10_forget_1 rfl rfl ?_
  refine R_putZ (by first | exact Or.inl rfl | exact Or.inr rfl | omega) fd10_10 rfl kf10_49 rfl dX10_forget_2 ?_
  refine R_return rfl (by decide) (by decide) dX10_forget_5 ?_
  exact ⟨⟨rfl, rfl⟩, rfl, rfl, rfl⟩
/-- Fonts.add -/
theorem c_X4_add (hr : RS r) (n : Nat) (hsz : g 11 7 = (n : Int)) (hn : n ≤ 10) (ho : ∀ (j a : Nat), (ordL (g 13) n)[j]? = some a → g 18 j = (a : Int)) (v y f m p : Int) : CT (mX4_add (rmD 1 0 0)) 0 0 shW [vR (some 11), vI v, vI y, vI f, vI m, vI p] g z r (qG shW z r fun x g' => ((0 ≤ y ∧ y ≤ 299 ∧ n < 10) ∧ x = some (vI (n : Int)) ∧ ∃ o, g' = up2 (upC (up2 (up2 (up2 (up2 (up2 (up2 g 12 n v) 13 n y) 14 n f) 15 n m) 16 n p) 17 n (-1)) 18 o) 11 7 ((n : Int) + 1) ∧ ∀ (j a : Nat), (ordL (fun i => if i = n then y else g 13 i) (n + 1))[j]? = some a → o j = (a : Int)) ∨ (¬ (0 ≤ y ∧ y ≤ 299 ∧ n < 10) ∧ x = some (vI (-1)) ∧ g' = g)) := by
  refine CT.of 0 rfl rfl ?_
  have hy2 : (up2 (up2 (up2 (up2 (up2 (up2 g 12 n v) 13 n y) 14 n f) 15 n m) 16 n p) 17 n (-1)) 13 = fun i => if i = n then y else g 13 i := by
    funext i
    simp +decide only [up2_far]
    simp [up2]
  have hoo : ∀ (j a : Nat), (ordL ((up2 (up2 (up2 (up2 (up2 (up2 g 12 n v) 13 n y) 14 n f) 15 n m) 16 n p) 17 n (-1)) 13) n)[j]? = some a → (up2 (up2 (up2 (up2 (up2 (up2 g 12 n v) 13 n y) 14 n f) 15 n m) 16 n p) 17 n (-1)) 18 j = (a : Int) := by
    intro j a h
    simp +decide only [up2_far]
    rw [hy2, ordL_congr (yr' := g 13) (fun i hi => by rw [if_neg (by omega)])] at h
    exact ho j a h
  refine R_iload_n dX4_add_0 rfl ?_
  refine R_if_lt 20 dX4_add_1 (by decide) (fun hc1 => ?_) (fun hc1 => ?_)
  · refine R_iconst dX4_add_20 rfl rfl ?_
    refine R_ireturn rfl (by rfl) (by decide) (by decide) dX4_add_21 ?_
    exact ⟨Or.inr ⟨by omega, rfl, rfl⟩, rfl, rfl, rfl⟩
  · refine R_iload_n dX4_add_4 rfl ?_
    refine R_sipush dX4_add_5 rfl (by decide +kernel) ?_
    refine R_icmp_gt 20 dX4_add_8 (by decide) (fun hc8 => ?_) (fun hc8 => ?_)
    · refine R_iconst dX4_add_20 rfl rfl ?_
      refine R_ireturn rfl (by rfl) (by decide) (by decide) dX4_add_21 ?_
      exact ⟨Or.inr ⟨by omega, rfl, rfl⟩, rfl, rfl, rfl⟩
    · refine R_aload_n dX4_add_11 rfl ?_
      refine R_getI fd4_7 kf4_33 rfl dX4_add_12 ?_
      refine R_bipush dX4_add_15 rfl (by decide +kernel) ?_
      refine R_icmp_lt 22 dX4_add_17 (by decide) (fun hc17 => ?_) (fun hc17 => ?_)
      · refine R_aload_n dX4_add_22 rfl ?_
        refine R_getR _ (hr _ _ _ rfl) fd4_0 kf4_9 rfl dX4_add_23 ?_
        refine R_aload_n dX4_add_26 rfl ?_
        refine R_getI fd4_7 kf4_33 rfl dX4_add_27 ?_
        refine R_iload_n dX4_add_30 rfl ?_
        refine R_iast rfl (by omega) (by omega) dX4_add_31 ?_
        refine R_aload_n dX4_add_32 rfl ?_
        refine R_getR _ (hr _ _ _ rfl) fd4_1 kf4_15 rfl dX4_add_33 ?_
        try simp +decide only [up2_far, up2_s, up2_kk]
        refine R_aload_n dX4_add_36 rfl ?_
        refine R_getI fd4_7 kf4_33 rfl dX4_add_37 ?_
        try simp +decide only [up2_far, up2_s, up2_kk]
        refine R_iload_n dX4_add_40 rfl ?_
        refine R_iast rfl (by omega) (by omega) dX4_add_41 ?_
        refine R_aload_n dX4_add_42 rfl ?_
        refine R_getR _ (hr _ _ _ rfl) fd4_2 kf4_18 rfl dX4_add_43 ?_
        try simp +decide only [up2_far, up2_s, up2_kk]
        refine R_aload_n dX4_add_46 rfl ?_
        refine R_getI fd4_7 kf4_33 rfl dX4_add_47 ?_
        try simp +decide only [up2_far, up2_s, up2_kk]
        refine R_iload_n dX4_add_50 rfl ?_
        refine R_iast rfl (by omega) (by omega) dX4_add_51 ?_
        refine R_aload_n dX4_add_52 rfl ?_
        refine R_getR _ (hr _ _ _ rfl) fd4_3 kf4_21 rfl dX4_add_53 ?_
        try simp +decide only [up2_far, up2_s, up2_kk]
        refine R_aload_n dX4_add_56 rfl ?_
        refine R_getI fd4_7 kf4_33 rfl dX4_add_57 ?_
        try simp +decide only [up2_far, up2_s, up2_kk]
        refine R_iload dX4_add_60 rfl ?_
        refine R_iast rfl (by omega) (by omega) dX4_add_62 ?_
        refine R_aload_n dX4_add_63 rfl ?_
        refine R_getR _ (hr _ _ _ rfl) fd4_4 kf4_24 rfl dX4_add_64 ?_
        try simp +decide only [up2_far, up2_s, up2_kk]
        refine R_aload_n dX4_add_67 rfl ?_
        refine R_getI fd4_7 kf4_33 rfl dX4_add_68 ?_
        try simp +decide only [up2_far, up2_s, up2_kk]
        refine R_iload dX4_add_71 rfl ?_
        refine R_iast rfl (by omega) (by omega) dX4_add_73 ?_
        refine R_aload_n dX4_add_74 rfl ?_
        refine R_getR _ (hr _ _ _ rfl) fd4_5 kf4_27 rfl dX4_add_75 ?_
        try simp +decide only [up2_far, up2_s, up2_kk]
        refine R_aload_n dX4_add_78 rfl ?_
        refine R_getI fd4_7 kf4_33 rfl dX4_add_79 ?_
        try simp +decide only [up2_far, up2_s, up2_kk]
        refine R_iconst dX4_add_82 rfl rfl ?_
        refine R_iast rfl (by omega) (by omega) dX4_add_83 ?_
        refine R_aload_n dX4_add_84 rfl ?_
        refine R_aload_n dX4_add_85 rfl ?_
        refine R_getI fd4_7 kf4_33 rfl dX4_add_86 ?_
        try simp +decide only [up2_far, up2_s, up2_kk]
        rw [hsz]
        simp only [Int.toNat_natCast]
        refine R_callV (c_X4_putInOrder hr n (by omega) hoo) (mvX4_putInOrder _) kiX4_putInOrder kvX4_putInOrder km4_37 rfl rfl (by decide) ⟨rfl, rfl, by decide, by decide⟩ (by decide) dX4_add_89 (fun v1 sh1 g1 z1 r1 hq => ?_)
        obtain ⟨⟨rfl, o, rfl, ho2⟩, rfl, rfl, rfl⟩ := hq
        rw [hy2] at ho2
        refine R_aload_n dX4_add_92 rfl ?_
        refine R_dup dX4_add_93 (fun _ h => by cases h) ?_
        refine R_getI fd4_7 kf4_33 rfl dX4_add_94 ?_
        simp +decide only [upC_far, up2_far, hsz]
        refine R_iconst dX4_add_97 rfl rfl ?_
        refine R_iaddN dX4_add_98 (by unfold inI; omega) ?_
        refine R_putI fd4_7 rfl kf4_33 rfl dX4_add_99 ?_
        refine R_aload_n dX4_add_102 rfl ?_
        refine R_getI fd4_7 kf4_33 rfl dX4_add_103 ?_
        try simp +decide only [up2_far, up2_s, up2_kk]
        refine R_iconst dX4_add_106 rfl rfl ?_
        refine R_isubN dX4_add_107 (by unfold inI; omega) ?_
        refine R_ireturn rfl (by rfl) (by decide) (by decide) dX4_add_108 ?_
        exact ⟨Or.inl ⟨by omega, by congr 2; omega, o, rfl, ho2⟩, rfl, rfl, rfl⟩
      · refine R_iconst dX4_add_20 rfl rfl ?_
        refine R_ireturn rfl (by rfl) (by decide) (by decide) dX4_add_21 ?_
        exact ⟨Or.inr ⟨by omega, rfl, rfl⟩, rfl, rfl, rfl⟩
end PUB1
