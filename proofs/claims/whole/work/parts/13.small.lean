abbrev VW : Type := Nat → Nat → Int
def bi (b : Bool) : Int := if b then 1 else 0
theorem bi_t {b : Bool} (h : b = true) : bi b = 1 := by rw [h]; rfl
theorem bi_f {b : Bool} (h : ¬ b = true) : bi b = 0 := by rw [Bool.eq_false_iff.mpr h]; rfl
/-- what is told, as the class holds it: 0 sizes, LOSS, ALONE, A, B, CHANGE; 1 sex, 2 says; 3 husband .. 7 parents; 8 name .. 13 DIED -/
def vC (g : GG) : VW := fun f i => match f with
  | 0 => (match i with | 0 => g 2 2 | 1 => g 5 5 | 2 => g 11 7 | 3 => g 1 3 | 4 => g 1 4 | 5 => g 30 1 | 6 => g 30 2 | 7 => g 30 3 | _ => 0)
  | 1 => g 3 i | 2 => g 4 i | 3 => g 6 i | 4 => g 7 i | 5 => g 8 i | 6 => g 9 i | 7 => g 10 i | 8 => g 12 i | 9 => g 13 i | 10 => g 14 i | 11 => g 15 i | 12 => g 16 i | 13 => g 17 i | _ => 0
def canTie (s : VW) (i c : Nat) : Bool := decide (s 10 i = s 3 c ∧ (s 11 i = -1 ∨ s 11 i = s 4 c) ∧ s 5 c ≤ s 9 i ∧ s 9 i ≤ s 6 c)
def isGone (s : VW) (i : Nat) (y : Int) : Bool := decide (s 13 i ≠ -1 ∧ s 13 i ≤ y)
section SMALL
variable {g z : GG} {r : RR}
/-- Couples.add -/
theorem c_X1_add (hr : RS r) (hsz : 0 ≤ g 5 5 ∧ g 5 5 ≤ 6) (a b w l : Int) : CT (mX1_add (rmD 0 0 0)) 0 0 shW [vR (some 5), vI a, vI b, vI w, vI l] g z r (qG shW z r fun v g' => ((0 ≤ w ∧ w ≤ l ∧ l ≤ 299 ∧ g 5 5 < 6) ∧ v = some (vI (g 5 5)) ∧ g' = up2 (up2 (up2 (up2 (up2 (up2 (up2 (up2 (up2 g 6 (g 5 5).toNat a) 7 (g 5 5).toNat b) 8 (g 5 5).toNat w) 9 (g 5 5).toNat l) 10 (g 5 5 * 4 + 0).toNat (-1)) 10 (g 5 5 * 4 + 1).toNat (-1)) 10 (g 5 5 * 4 + 2).toNat (-1)) 10 (g 5 5 * 4 + 3).toNat (-1)) 5 5 (g 5 5 + 1)) ∨ (¬ (0 ≤ w ∧ w ≤ l ∧ l ≤ 299 ∧ g 5 5 < 6) ∧ v = some (vI (-1)) ∧ g' = g)) := by
  refine CT.of 1 rfl rfl ?_
  refine R_iload_n dX1_add_0 rfl ?_
  refine R_if_lt 27 dX1_add_1 (by decide) (fun hc1 => ?_) (fun hc1 => ?_)
  · refine R_iconst dX1_add_27 rfl rfl ?_
    refine R_ireturn rfl (by first | rfl | exact nar_b2i | exact nar_bi) (by decide) (by decide) dX1_add_28 ?_
    exact ⟨Or.inr ⟨by omega, rfl, rfl⟩, rfl, rfl, rfl⟩
  · refine R_iload dX1_add_4 rfl ?_
    refine R_iload_n dX1_add_6 rfl ?_
    refine R_icmp_lt 27 dX1_add_7 (by decide) (fun hc7 => ?_) (fun hc7 => ?_)
    · refine R_iconst dX1_add_27 rfl rfl ?_
      refine R_ireturn rfl (by first | rfl | exact nar_b2i | exact nar_bi) (by decide) (by decide) dX1_add_28 ?_
      exact ⟨Or.inr ⟨by omega, rfl, rfl⟩, rfl, rfl, rfl⟩
    · refine R_iload dX1_add_10 rfl ?_
      refine R_sipush dX1_add_12 rfl (by decide +kernel) ?_
      refine R_icmp_gt 27 dX1_add_15 (by decide) (fun hc15 => ?_) (fun hc15 => ?_)
      · refine R_iconst dX1_add_27 rfl rfl ?_
        refine R_ireturn rfl (by first | rfl | exact nar_b2i | exact nar_bi) (by decide) (by decide) dX1_add_28 ?_
        exact ⟨Or.inr ⟨by omega, rfl, rfl⟩, rfl, rfl, rfl⟩
      · refine R_aload_n dX1_add_18 rfl ?_
        refine R_getI fd1_5 kf1_27 rfl dX1_add_19 ?_
        refine R_bipush dX1_add_22 rfl (by decide +kernel) ?_
        refine R_icmp_lt 29 dX1_add_24 (by decide) (fun hc24 => ?_) (fun hc24 => ?_)
        · refine R_aload_n dX1_add_29 rfl ?_
          refine R_getR _ (hr _ _ _ rfl) fd1_0 kf1_9 rfl dX1_add_30 ?_
          refine R_aload_n dX1_add_33 rfl ?_
          refine R_getI fd1_5 kf1_27 rfl dX1_add_34 ?_
          refine R_iload_n dX1_add_37 rfl ?_
          refine R_iast rfl (by omega) (by omega) dX1_add_38 ?_
          refine R_aload_n dX1_add_39 rfl ?_
          refine R_getR _ (hr _ _ _ rfl) fd1_1 kf1_15 rfl dX1_add_40 ?_
          try simp +decide only [up2_far, up2_s, up2_kk]
          refine R_aload_n dX1_add_43 rfl ?_
          refine R_getI fd1_5 kf1_27 rfl dX1_add_44 ?_
          try simp +decide only [up2_far, up2_s, up2_kk]
          refine R_iload_n dX1_add_47 rfl ?_
          refine R_iast rfl (by omega) (by omega) dX1_add_48 ?_
          refine R_aload_n dX1_add_49 rfl ?_
          refine R_getR _ (hr _ _ _ rfl) fd1_2 kf1_18 rfl dX1_add_50 ?_
          try simp +decide only [up2_far, up2_s, up2_kk]
          refine R_aload_n dX1_add_53 rfl ?_
          refine R_getI fd1_5 kf1_27 rfl dX1_add_54 ?_
          try simp +decide only [up2_far, up2_s, up2_kk]
          refine R_iload_n dX1_add_57 rfl ?_
          refine R_iast rfl (by omega) (by omega) dX1_add_58 ?_
          refine R_aload_n dX1_add_59 rfl ?_
          refine R_getR _ (hr _ _ _ rfl) fd1_3 kf1_21 rfl dX1_add_60 ?_
          try simp +decide only [up2_far, up2_s, up2_kk]
          refine R_aload_n dX1_add_63 rfl ?_
          refine R_getI fd1_5 kf1_27 rfl dX1_add_64 ?_
          try simp +decide only [up2_far, up2_s, up2_kk]
          refine R_iload dX1_add_67 rfl ?_
          refine R_iast rfl (by omega) (by omega) dX1_add_69 ?_
          refine R_iconst dX1_add_70 rfl rfl ?_
          refine R_istore dX1_add_71 (by decide) rfl [_, _, _, _, _, _] rfl ?_
          refine R_iload dX1_add_73 rfl ?_
          refine R_iconst dX1_add_75 rfl rfl ?_
          refine R_icmp_ge 100 dX1_add_76 (by decide) (fun hc76 => ?_) (fun hc76 => ?_)
          · exact absurd hc76 (by omega)
          refine R_aload_n dX1_add_79 rfl ?_
          refine R_getR _ (hr _ _ _ rfl) fd1_4 kf1_24 rfl dX1_add_80 ?_
          try simp +decide only [up2_far, up2_s, up2_kk]
          refine R_aload_n dX1_add_83 rfl ?_
          refine R_getI fd1_5 kf1_27 rfl dX1_add_84 ?_
          try simp +decide only [up2_far, up2_s, up2_kk]
          refine R_iconst dX1_add_87 rfl rfl ?_
          refine R_imulN dX1_add_88 (by unfold inI; omega) ?_
          refine R_iload dX1_add_89 rfl ?_
          refine R_iaddN dX1_add_91 (by unfold inI; omega) ?_
          refine R_iconst dX1_add_92 rfl rfl ?_
          refine R_iast rfl (by omega) (by omega) dX1_add_93 ?_
          refine R_iincN dX1_add_94 rfl (by decide) rfl (by unfold inI; omega) [_, _, _, _, _, _] rfl ?_
          refine R_goto 73 dX1_add_97 (by decide) ?_
          refine R_iload dX1_add_73 rfl ?_
          refine R_iconst dX1_add_75 rfl rfl ?_
          refine R_icmp_ge 100 dX1_add_76 (by decide) (fun hc76 => ?_) (fun hc76 => ?_)
          · exact absurd hc76 (by omega)
          refine R_aload_n dX1_add_79 rfl ?_
          refine R_getR _ (hr _ _ _ rfl) fd1_4 kf1_24 rfl dX1_add_80 ?_
          try simp +decide only [up2_far, up2_s, up2_kk]
          refine R_aload_n dX1_add_83 rfl ?_
          refine R_getI fd1_5 kf1_27 rfl dX1_add_84 ?_
          try simp +decide only [up2_far, up2_s, up2_kk]
          refine R_iconst dX1_add_87 rfl rfl ?_
          refine R_imulN dX1_add_88 (by unfold inI; omega) ?_
          refine R_iload dX1_add_89 rfl ?_
          refine R_iaddN dX1_add_91 (by unfold inI; omega) ?_
          refine R_iconst dX1_add_92 rfl rfl ?_
          refine R_iast rfl (by omega) (by omega) dX1_add_93 ?_
          refine R_iincN dX1_add_94 rfl (by decide) rfl (by unfold inI; omega) [_, _, _, _, _, _] rfl ?_
          refine R_goto 73 dX1_add_97 (by decide) ?_
          refine R_iload dX1_add_73 rfl ?_
          refine R_iconst dX1_add_75 rfl rfl ?_
          refine R_icmp_ge 100 dX1_add_76 (by decide) (fun hc76 => ?_) (fun hc76 => ?_)
          · exact absurd hc76 (by omega)
          refine R_aload_n dX1_add_79 rfl ?_
          refine R_getR _ (hr _ _ _ rfl) fd1_4 kf1_24 rfl dX1_add_80 ?_
          try simp +decide only [up2_far, up2_s, up2_kk]
          refine R_aload_n dX1_add_83 rfl ?_
          refine R_getI fd1_5 kf1_27 rfl dX1_add_84 ?_
          try simp +decide only [up2_far, up2_s, up2_kk]
          refine R_iconst dX1_add_87 rfl rfl ?_
          refine R_imulN dX1_add_88 (by unfold inI; omega) ?_
          refine R_iload dX1_add_89 rfl ?_
          refine R_iaddN dX1_add_91 (by unfold inI; omega) ?_
          refine R_iconst dX1_add_92 rfl rfl ?_
          refine R_iast rfl (by omega) (by omega) dX1_add_93 ?_
          refine R_iincN dX1_add_94 rfl (by decide) rfl (by unfold inI; omega) [_, _, _, _, _, _] rfl ?_
          refine R_goto 73 dX1_add_97 (by decide) ?_
          refine R_iload dX1_add_73 rfl ?_
          refine R_iconst dX1_add_75 rfl rfl ?_
          refine R_icmp_ge 100 dX1_add_76 (by decide) (fun hc76 => ?_) (fun hc76 => ?_)
          · exact absurd hc76 (by omega)
          refine R_aload_n dX1_add_79 rfl ?_
          refine R_getR _ (hr _ _ _ rfl) fd1_4 kf1_24 rfl dX1_add_80 ?_
          try simp +decide only [up2_far, up2_s, up2_kk]
          refine R_aload_n dX1_add_83 rfl ?_
          refine R_getI fd1_5 kf1_27 rfl dX1_add_84 ?_
          try simp +decide only [up2_far, up2_s, up2_kk]
          refine R_iconst dX1_add_87 rfl rfl ?_
          refine R_imulN dX1_add_88 (by unfold inI; omega) ?_
          refine R_iload dX1_add_89 rfl ?_
          refine R_iaddN dX1_add_91 (by unfold inI; omega) ?_
          refine R_iconst dX1_add_92 rfl rfl ?_
          refine R_iast rfl (by omega) (by omega) dX1_add_93 ?_
          refine R_iincN dX1_add_94 rfl (by decide) rfl (by unfold inI; omega) [_, _, _, _, _, _] rfl ?_
          refine R_goto 73 dX1_add_97 (by decide) ?_
          refine R_iload dX1_add_73 rfl ?_
          refine R_iconst dX1_add_75 rfl rfl ?_
          refine R_icmp_ge 100 dX1_add_76 (by decide) (fun hc76 => ?_) (fun hc76 => ?_)
          · refine R_aload_n dX1_add_100 rfl ?_
            refine R_dup dX1_add_101 (fun _ h => by cases h) ?_
            refine R_getI fd1_5 kf1_27 rfl dX1_add_102 ?_
            try simp +decide only [up2_far, up2_s, up2_kk]
            refine R_iconst dX1_add_105 rfl rfl ?_
            refine R_iaddN dX1_add_106 (by unfold inI; omega) ?_
            refine R_putI fd1_5 rfl kf1_27 rfl dX1_add_107 ?_
            refine R_aload_n dX1_add_110 rfl ?_
            refine R_getI fd1_5 kf1_27 rfl dX1_add_111 ?_
            try simp +decide only [up2_far, up2_s, up2_kk]
            refine R_iconst dX1_add_114 rfl rfl ?_
            refine R_isubN dX1_add_115 (by unfold inI; omega) ?_
            refine R_ireturn rfl (by first | rfl | exact nar_b2i | exact nar_bi) (by decide) (by decide) dX1_add_116 ?_
            exact ⟨Or.inl ⟨by omega, by congr 2; omega, rfl⟩, rfl, rfl, rfl⟩
          · exact absurd (by omega) hc76
        · refine R_iconst dX1_add_27 rfl rfl ?_
          refine R_ireturn rfl (by first | rfl | exact nar_b2i | exact nar_bi) (by decide) (by decide) dX1_add_28 ?_
          exact ⟨Or.inr ⟨by omega, rfl, rfl⟩, rfl, rfl, rfl⟩
/-- Couples.tellParent -/
theorem c_X1_tellParent (hr : RS r) (hsz : 0 ≤ g 5 5 ∧ g 5 5 ≤ 6) (a b v : Int) (ha : 0 ≤ a ∧ a < g 5 5) (hb : 0 ≤ b ∧ b < 4) : CT (mX1_tellParent (rmD 1 0 0)) 0 0 shW [vR (some 5), vI a, vI b, vI v] g z r (qG shW z r fun x g' => x = none ∧ g' = up2 g 10 (a * 4 + b).toNat v) := by
  refine CT.of 0 rfl rfl ?_
  refine R_aload_n dX1_tellParent_0 rfl ?_
  refine R_iload_n dX1_tellParent_1 rfl ?_
  refine R_callV (c_X1_has hr a) (mvX1_has _) kiX1_has kvX1_has km1_31 rfl rfl (by decide) ⟨rfl, rfl, by decide, by decide⟩ (Nat.le_of_ble_eq_true rfl) dX1_tellParent_2 (fun v1 sh1 g1 z1 r1 hq => ?_)
  obtain ⟨rfl, rfl, rfl, rfl, rfl⟩ := hq
  rw [b2i_t ha]
  refine R_if_eq 28 dX1_tellParent_5 (by decide) (fun hc5 => ?_) (fun hc5 => ?_)
  · try simp only [b2i_z, bi_z, ne_eq, Classical.not_not] at hc5
    refine R_return rfl (by decide) (by decide) dX1_tellParent_28 ?_
    first | exact ⟨⟨rfl, rfl⟩, rfl, rfl, rfl⟩ | (exfalso; omega)
  · try simp only [b2i_z, bi_z, ne_eq, Classical.not_not] at hc5
    refine R_iload_n dX1_tellParent_8 rfl ?_
    refine R_if_lt 28 dX1_tellParent_9 (by decide) (fun hc9 => ?_) (fun hc9 => ?_)
    · refine R_return rfl (by decide) (by decide) dX1_tellParent_28 ?_
      first | exact ⟨⟨rfl, rfl⟩, rfl, rfl, rfl⟩ | (exfalso; omega)
    · refine R_iload_n dX1_tellParent_12 rfl ?_
      refine R_iconst dX1_tellParent_13 rfl rfl ?_
      refine R_icmp_ge 28 dX1_tellParent_14 (by decide) (fun hc14 => ?_) (fun hc14 => ?_)
      · refine R_return rfl (by decide) (by decide) dX1_tellParent_28 ?_
        first | exact ⟨⟨rfl, rfl⟩, rfl, rfl, rfl⟩ | (exfalso; omega)
      · refine R_aload_n dX1_tellParent_17 rfl ?_
        refine R_getR _ (hr _ _ _ rfl) fd1_4 kf1_24 rfl dX1_tellParent_18 ?_
        refine R_iload_n dX1_tellParent_21 rfl ?_
        refine R_iconst dX1_tellParent_22 rfl rfl ?_
        refine R_imulN dX1_tellParent_23 (by unfold inI; omega) ?_
        refine R_iload_n dX1_tellParent_24 rfl ?_
        refine R_iaddN dX1_tellParent_25 (by unfold inI; omega) ?_
        refine R_iload_n dX1_tellParent_26 rfl ?_
        refine R_iast rfl (by omega) (by omega) dX1_tellParent_27 ?_
        refine R_return rfl (by decide) (by decide) dX1_tellParent_28 ?_
        first | exact ⟨⟨rfl, rfl⟩, rfl, rfl, rfl⟩ | (exfalso; omega)
/-- Fonts.has -/
theorem c_X4_has (hr : RS r) (a : Int) : CT (mX4_has (rmD 0 0 0)) 0 0 shW [vR (some 11), vI a] g z r (qP shW g z r (some (vI (b2i (0 ≤ a ∧ a < g 11 7))))) := by
  refine CT.of 0 rfl rfl ?_
  refine R_iload_n dX4_has_0 rfl ?_
  refine R_if_lt 16 dX4_has_1 (by decide) (fun hc1 => ?_) (fun hc1 => ?_)
  · refine R_iconst dX4_has_16 rfl rfl ?_
    refine R_ireturn rfl (by first | rfl | exact nar_b2i | exact nar_bi) (by decide) (by decide) dX4_has_17 ?_
    first | exact ⟨by rw [b2i_f (by omega)], rfl, rfl, rfl, rfl⟩ | exact ⟨by rw [b2i_t (by omega)], rfl, rfl, rfl, rfl⟩
  · refine R_iload_n dX4_has_4 rfl ?_
    refine R_aload_n dX4_has_5 rfl ?_
    refine R_getI fd4_7 kf4_33 rfl dX4_has_6 ?_
    refine R_icmp_ge 16 dX4_has_9 (by decide) (fun hc9 => ?_) (fun hc9 => ?_)
    · refine R_iconst dX4_has_16 rfl rfl ?_
      refine R_ireturn rfl (by first | rfl | exact nar_b2i | exact nar_bi) (by decide) (by decide) dX4_has_17 ?_
      first | exact ⟨by rw [b2i_f (by omega)], rfl, rfl, rfl, rfl⟩ | exact ⟨by rw [b2i_t (by omega)], rfl, rfl, rfl, rfl⟩
    · refine R_iconst dX4_has_12 rfl rfl ?_
      refine R_goto 17 dX4_has_13 (by decide) ?_
      refine R_ireturn rfl (by first | rfl | exact nar_b2i | exact nar_bi) (by decide) (by decide) dX4_has_17 ?_
      first | exact ⟨by rw [b2i_f (by omega)], rfl, rfl, rfl, rfl⟩ | exact ⟨by rw [b2i_t (by omega)], rfl, rfl, rfl, rfl⟩
/-- Fonts.goneBy -/
theorem c_X4_goneBy (hr : RS r) (a y : Int) (ha : 0 ≤ a ∧ a < 10) : CT (mX4_goneBy (rmD 0 0 0)) 0 0 shW [vR (some 11), vI a, vI y] g z r (qP shW g z r (some (vI (bi (isGone (vC g) a.toNat y))))) := by
  have e : isGone (vC g) a.toNat y = decide (g 17 a.toNat ≠ -1 ∧ g 17 a.toNat ≤ y) := rfl
  rw [e]
  refine CT.of 0 rfl rfl ?_
  refine R_aload_n dX4_goneBy_0 rfl ?_
  refine R_getR _ (hr _ _ _ rfl) fd4_5 kf4_27 rfl dX4_goneBy_1 ?_
  refine R_iload_n dX4_goneBy_4 rfl ?_
  refine R_iald rfl (by omega) (by omega) dX4_goneBy_5 ?_
  refine R_iconst dX4_goneBy_6 rfl rfl ?_
  refine R_icmp_eq 24 dX4_goneBy_7 (by decide) (fun hc7 => ?_) (fun hc7 => ?_)
  · refine R_iconst dX4_goneBy_24 rfl rfl ?_
    refine R_ireturn rfl (by first | rfl | exact nar_b2i | exact nar_bi) (by decide) (by decide) dX4_goneBy_25 ?_
    first | exact ⟨by rw [bi_f (by simp; omega)], rfl, rfl, rfl, rfl⟩ | exact ⟨by rw [bi_t (by simp; omega)], rfl, rfl, rfl, rfl⟩
  · refine R_aload_n dX4_goneBy_10 rfl ?_
    refine R_getR _ (hr _ _ _ rfl) fd4_5 kf4_27 rfl dX4_goneBy_11 ?_
    refine R_iload_n dX4_goneBy_14 rfl ?_
    refine R_iald rfl (by omega) (by omega) dX4_goneBy_15 ?_
    refine R_iload_n dX4_goneBy_16 rfl ?_
    refine R_icmp_gt 24 dX4_goneBy_17 (by decide) (fun hc17 => ?_) (fun hc17 => ?_)
    · refine R_iconst dX4_goneBy_24 rfl rfl ?_
      refine R_ireturn rfl (by first | rfl | exact nar_b2i | exact nar_bi) (by decide) (by decide) dX4_goneBy_25 ?_
      first | exact ⟨by rw [bi_f (by simp; omega)], rfl, rfl, rfl, rfl⟩ | exact ⟨by rw [bi_t (by simp; omega)], rfl, rfl, rfl, rfl⟩
    · refine R_iconst dX4_goneBy_20 rfl rfl ?_
      refine R_goto 25 dX4_goneBy_21 (by decide) ?_
      refine R_ireturn rfl (by first | rfl | exact nar_b2i | exact nar_bi) (by decide) (by decide) dX4_goneBy_25 ?_
      first | exact ⟨by rw [bi_f (by simp; omega)], rfl, rfl, rfl, rfl⟩ | exact ⟨by rw [bi_t (by simp; omega)], rfl, rfl, rfl, rfl⟩
/-- Tape -/
theorem c_X8_hasRoom (hr : RS r) (hsz : 0 ≤ g 19 1 ∧ g 19 1 ≤ 200) : CT (mX8_hasRoom (rmD 0 0 0)) 0 0 shW [vR (some 19)] g z r (qP shW g z r (some (vI (b2i (g 19 1 + 20 ≤ 200))))) := by
  refine CT.of 0 rfl rfl ?_
  refine R_aload_n dX8_hasRoom_0 rfl ?_
  refine R_getI fd8_1 kf8_15 rfl dX8_hasRoom_1 ?_
  refine R_bipush dX8_hasRoom_4 rfl (by decide +kernel) ?_
  refine R_iaddN dX8_hasRoom_6 (by unfold inI; omega) ?_
  refine R_sipush dX8_hasRoom_7 rfl (by decide +kernel) ?_
  refine R_icmp_gt 17 dX8_hasRoom_10 (by decide) (fun hc10 => ?_) (fun hc10 => ?_)
  · refine R_iconst dX8_hasRoom_17 rfl rfl ?_
    refine R_ireturn rfl (by first | rfl | exact nar_b2i | exact nar_bi) (by decide) (by decide) dX8_hasRoom_18 ?_
    first | exact ⟨by rw [b2i_f (by omega)], rfl, rfl, rfl, rfl⟩ | exact ⟨by rw [b2i_t (by omega)], rfl, rfl, rfl, rfl⟩
  · refine R_iconst dX8_hasRoom_13 rfl rfl ?_
    refine R_goto 18 dX8_hasRoom_14 (by decide) ?_
    refine R_ireturn rfl (by first | rfl | exact nar_b2i | exact nar_bi) (by decide) (by decide) dX8_hasRoom_18 ?_
    first | exact ⟨by rw [b2i_f (by omega)], rfl, rfl, rfl, rfl⟩ | exact ⟨by rw [b2i_t (by omega)], rfl, rfl, rfl, rfl⟩
theorem c_X8_at (hr : RS r) (hsz : 0 ≤ g 19 1 ∧ g 19 1 ≤ 200) (a : Int) (ha : 0 ≤ a ∧ a < g 19 1) : CT (mX8_at (rmD 0 0 0)) 0 0 shW [vR (some 19), vI a] g z r (qP shW g z r (some (vI (g 20 a.toNat)))) := by
  refine CT.of 0 rfl rfl ?_
  refine R_iload_n dX8_at_0 rfl ?_
  refine R_if_lt 21 dX8_at_1 (by decide) (fun hc1 => ?_) (fun hc1 => ?_)
  · refine R_iconst dX8_at_21 rfl rfl ?_
    refine R_ireturn rfl (by first | rfl | exact nar_b2i | exact nar_bi) (by decide) (by decide) dX8_at_22 ?_
    first | exact ⟨rfl, rfl, rfl, rfl, rfl⟩ | (exfalso; omega)
  · refine R_iload_n dX8_at_4 rfl ?_
    refine R_aload_n dX8_at_5 rfl ?_
    refine R_getI fd8_1 kf8_15 rfl dX8_at_6 ?_
    refine R_icmp_ge 21 dX8_at_9 (by decide) (fun hc9 => ?_) (fun hc9 => ?_)
    · refine R_iconst dX8_at_21 rfl rfl ?_
      refine R_ireturn rfl (by first | rfl | exact nar_b2i | exact nar_bi) (by decide) (by decide) dX8_at_22 ?_
      first | exact ⟨rfl, rfl, rfl, rfl, rfl⟩ | (exfalso; omega)
    · refine R_aload_n dX8_at_12 rfl ?_
      refine R_getR _ (hr _ _ _ rfl) fd8_0 kf8_11 rfl dX8_at_13 ?_
      refine R_iload_n dX8_at_16 rfl ?_
      refine R_iald rfl (by omega) (by omega) dX8_at_17 ?_
      refine R_goto 22 dX8_at_18 (by decide) ?_
      refine R_ireturn rfl (by first | rfl | exact nar_b2i | exact nar_bi) (by decide) (by decide) dX8_at_22 ?_
      first | exact ⟨rfl, rfl, rfl, rfl, rfl⟩ | (exfalso; omega)
theorem c_X8_clear : CT (mX8_clear (rmD 0 0 0)) 0 0 shW [vR (some 19)] g z r (qG shW z r fun v g' => v = none ∧ g' = up2 g 19 1 0) := by
  refine CT.of 0 rfl rfl ?_
  refine R_aload_n dX8_clear_0 rfl ?_
  refine R_iconst dX8_clear_1 rfl rfl ?_
  refine R_putI fd8_1 rfl kf8_15 rfl dX8_clear_2 ?_
  refine R_return rfl (by decide) (by decide) dX8_clear_5 ?_
  exact ⟨⟨rfl, rfl⟩, rfl, rfl, rfl⟩
/-- Usage.tell, of either object -/
theorem c_X9_tell (u : Nat) (hu : shW[u]? = some (9, 4)) (a b y : Int) : CT (mX9_tell (rmD 0 0 0)) 0 0 shW [vR (some u), vI a, vI b, vI y] g z r (qG shW z r fun v g' => v = none ∧ g' = up2 (up2 (up2 g u 1 a) u 2 b) u 3 y) := by
  refine CT.of 0 rfl rfl ?_
  refine R_aload_n dX9_tell_0 rfl ?_
  refine R_iload_n dX9_tell_1 rfl ?_
  refine R_putI fd9_1 rfl kf9_9 hu dX9_tell_2 ?_
  refine R_aload_n dX9_tell_5 rfl ?_
  refine R_iload_n dX9_tell_6 rfl ?_
  refine R_putI fd9_2 rfl kf9_15 hu dX9_tell_7 ?_
  refine R_aload_n dX9_tell_10 rfl ?_
  refine R_iload_n dX9_tell_11 rfl ?_
  refine R_putI fd9_3 rfl kf9_18 hu dX9_tell_12 ?_
  refine R_return rfl (by decide) (by decide) dX9_tell_15 ?_
  exact ⟨⟨rfl, rfl⟩, rfl, rfl, rfl⟩
/-- Books.knows -/
theorem c_X0_knows (hr : RS r) (hF : 0 ≤ g 11 7 ∧ g 11 7 ≤ 10) (c s : Int) : CT (mX0_knows (rmD 1 0 0)) 0 0 shW [vR (some 1), vI c, vI s] g z r (qP shW g z r (some (vI (b2i (0 ≤ c ∧ c < g 5 5 ∧ 0 ≤ s ∧ s < 2 ^ (g 11 7).toNat))))) := by
  refine CT.of 0 rfl rfl ?_
  have hsh : bShl 1 (g 11 7) = ((2 ^ (g 11 7).toNat : Nat) : Int) := by
    have := bShl_1 (k := (g 11 7).toNat) (by omega)
    rw [toNat_cast hF.1] at this
    exact this
  have h2 : (((2 ^ (g 11 7).toNat : Nat)) : Int) = 2 ^ (g 11 7).toNat := by simp
  by_cases h : 0 ≤ c ∧ c < g 5 5
  · refine R_aload_n dX0_knows_0 rfl ?_
    refine R_getR _ (hr _ _ _ rfl) fd0_1 kf0_21 rfl dX0_knows_1 ?_
    refine R_iload_n dX0_knows_4 rfl ?_
    refine R_callV (c_X1_has hr c) (mvX1_has _) kiX1_has kvX1_has km0_39 rfl rfl (by decide) ⟨rfl, rfl, by decide, by decide⟩ (Nat.le_of_ble_eq_true rfl) dX0_knows_5 (fun v1 sh1 g1 z1 r1 hq => ?_)
    obtain ⟨rfl, rfl, rfl, rfl, rfl⟩ := hq
    rw [b2i_t h]
    refine R_if_eq 32 dX0_knows_8 (by decide) (fun hc8 => ?_) (fun hc8 => ?_)
    · try simp only [b2i_z, bi_z, ne_eq, Classical.not_not] at hc8
      refine R_iconst dX0_knows_32 rfl rfl ?_
      refine R_ireturn rfl (by first | rfl | exact nar_b2i | exact nar_bi) (by decide) (by decide) dX0_knows_33 ?_
      first | exact absurd hc8 (by decide) | (rw [hsh, h2] at hc25; first | exact ⟨by rw [b2i_f (by omega)], rfl, rfl, rfl, rfl⟩ | exact ⟨by rw [b2i_t (by omega)], rfl, rfl, rfl, rfl⟩) | exact ⟨by rw [b2i_f (by omega)], rfl, rfl, rfl, rfl⟩
    · try simp only [b2i_z, bi_z, ne_eq, Classical.not_not] at hc8
      refine R_iload_n dX0_knows_11 rfl ?_
      refine R_if_lt 32 dX0_knows_12 (by decide) (fun hc12 => ?_) (fun hc12 => ?_)
      · refine R_iconst dX0_knows_32 rfl rfl ?_
        refine R_ireturn rfl (by first | rfl | exact nar_b2i | exact nar_bi) (by decide) (by decide) dX0_knows_33 ?_
        first | exact absurd hc8 (by decide) | (rw [hsh, h2] at hc25; first | exact ⟨by rw [b2i_f (by omega)], rfl, rfl, rfl, rfl⟩ | exact ⟨by rw [b2i_t (by omega)], rfl, rfl, rfl, rfl⟩) | exact ⟨by rw [b2i_f (by omega)], rfl, rfl, rfl, rfl⟩
      · refine R_iload_n dX0_knows_15 rfl ?_
        refine R_iconst dX0_knows_16 rfl rfl ?_
        refine R_aload_n dX0_knows_17 rfl ?_
        refine R_getR _ (hr _ _ _ rfl) fd0_2 kf0_28 rfl dX0_knows_18 ?_
        refine R_getI fd4_7 kf0_43 rfl dX0_knows_21 ?_
        refine R_ishl dX0_knows_24 ?_
        refine R_icmp_ge 32 dX0_knows_25 (by decide) (fun hc25 => ?_) (fun hc25 => ?_)
        · refine R_iconst dX0_knows_32 rfl rfl ?_
          refine R_ireturn rfl (by first | rfl | exact nar_b2i | exact nar_bi) (by decide) (by decide) dX0_knows_33 ?_
          first | exact absurd hc8 (by decide) | (rw [hsh, h2] at hc25; first | exact ⟨by rw [b2i_f (by omega)], rfl, rfl, rfl, rfl⟩ | exact ⟨by rw [b2i_t (by omega)], rfl, rfl, rfl, rfl⟩) | exact ⟨by rw [b2i_f (by omega)], rfl, rfl, rfl, rfl⟩
        · refine R_iconst dX0_knows_28 rfl rfl ?_
          refine R_goto 33 dX0_knows_29 (by decide) ?_
          refine R_ireturn rfl (by first | rfl | exact nar_b2i | exact nar_bi) (by decide) (by decide) dX0_knows_33 ?_
          first | exact absurd hc8 (by decide) | (rw [hsh, h2] at hc25; first | exact ⟨by rw [b2i_f (by omega)], rfl, rfl, rfl, rfl⟩ | exact ⟨by rw [b2i_t (by omega)], rfl, rfl, rfl, rfl⟩) | exact ⟨by rw [b2i_f (by omega)], rfl, rfl, rfl, rfl⟩
  · refine R_aload_n dX0_knows_0 rfl ?_
    refine R_getR _ (hr _ _ _ rfl) fd0_1 kf0_21 rfl dX0_knows_1 ?_
    refine R_iload_n dX0_knows_4 rfl ?_
    refine R_callV (c_X1_has hr c) (mvX1_has _) kiX1_has kvX1_has km0_39 rfl rfl (by decide) ⟨rfl, rfl, by decide, by decide⟩ (Nat.le_of_ble_eq_true rfl) dX0_knows_5 (fun v1 sh1 g1 z1 r1 hq => ?_)
    obtain ⟨rfl, rfl, rfl, rfl, rfl⟩ := hq
    rw [b2i_f h]
    refine R_if_eq 32 dX0_knows_8 (by decide) (fun hc8 => ?_) (fun hc8 => ?_)
    · try simp only [b2i_z, bi_z, ne_eq, Classical.not_not] at hc8
      refine R_iconst dX0_knows_32 rfl rfl ?_
      refine R_ireturn rfl (by first | rfl | exact nar_b2i | exact nar_bi) (by decide) (by decide) dX0_knows_33 ?_
      first | exact absurd rfl hc8 | exact ⟨by rw [b2i_f (by omega)], rfl, rfl, rfl, rfl⟩
    · try simp only [b2i_z, bi_z, ne_eq, Classical.not_not] at hc8
      refine R_iload_n dX0_knows_11 rfl ?_
      refine R_if_lt 32 dX0_knows_12 (by decide) (fun hc12 => ?_) (fun hc12 => ?_)
      · refine R_iconst dX0_knows_32 rfl rfl ?_
        refine R_ireturn rfl (by first | rfl | exact nar_b2i | exact nar_bi) (by decide) (by decide) dX0_knows_33 ?_
        first | exact absurd rfl hc8 | exact ⟨by rw [b2i_f (by omega)], rfl, rfl, rfl, rfl⟩
      · refine R_iload_n dX0_knows_15 rfl ?_
        refine R_iconst dX0_knows_16 rfl rfl ?_
        refine R_aload_n dX0_knows_17 rfl ?_
        refine R_getR _ (hr _ _ _ rfl) fd0_2 kf0_28 rfl dX0_knows_18 ?_
        refine R_getI fd4_7 kf0_43 rfl dX0_knows_21 ?_
        refine R_ishl dX0_knows_24 ?_
        refine R_icmp_ge 32 dX0_knows_25 (by decide) (fun hc25 => ?_) (fun hc25 => ?_)
        · refine R_iconst dX0_knows_32 rfl rfl ?_
          refine R_ireturn rfl (by first | rfl | exact nar_b2i | exact nar_bi) (by decide) (by decide) dX0_knows_33 ?_
          first | exact absurd rfl hc8 | exact ⟨by rw [b2i_f (by omega)], rfl, rfl, rfl, rfl⟩
        · refine R_iconst dX0_knows_28 rfl rfl ?_
          refine R_goto 33 dX0_knows_29 (by decide) ?_
          refine R_ireturn rfl (by first | rfl | exact nar_b2i | exact nar_bi) (by decide) (by decide) dX0_knows_33 ?_
          first | exact absurd rfl hc8 | exact ⟨by rw [b2i_f (by omega)], rfl, rfl, rfl, rfl⟩
/-- Books.canTie -/
theorem c_X0_canTie (hr : RS r) (i c : Int) (hi : 0 ≤ i ∧ i < 10) (hc : 0 ≤ c ∧ c < 6) : CT (mX0_canTie (rmD 0 0 0)) 0 0 shW [vR (some 1), vI i, vI c] g z r (qP shW g z r (some (vI (bi (canTie (vC g) i.toNat c.toNat))))) := by
  have e : canTie (vC g) i.toNat c.toNat = decide (g 14 i.toNat = g 6 c.toNat ∧ (g 15 i.toNat = -1 ∨ g 15 i.toNat = g 7 c.toNat) ∧ g 8 c.toNat ≤ g 13 i.toNat ∧ g 13 i.toNat ≤ g 9 c.toNat) := rfl
  rw [e]
  refine CT.of 0 rfl rfl ?_
  refine R_aload_n dX0_canTie_0 rfl ?_
  refine R_getR _ (hr _ _ _ rfl) fd0_2 kf0_28 rfl dX0_canTie_1 ?_
  refine R_getR _ (hr _ _ _ rfl) fd4_2 kf0_46 rfl dX0_canTie_4 ?_
  refine R_iload_n dX0_canTie_7 rfl ?_
  refine R_iald rfl (by omega) (by omega) dX0_canTie_8 ?_
  refine R_aload_n dX0_canTie_9 rfl ?_
  refine R_getR _ (hr _ _ _ rfl) fd0_1 kf0_21 rfl dX0_canTie_10 ?_
  refine R_getR _ (hr _ _ _ rfl) fd1_0 kf0_50 rfl dX0_canTie_13 ?_
  refine R_iload_n dX0_canTie_16 rfl ?_
  refine R_iald rfl (by omega) (by omega) dX0_canTie_17 ?_
  refine R_icmp_eq 23 dX0_canTie_18 (by decide) (fun hd18 => ?_) (fun hd18 => ?_)
  · refine R_aload_n dX0_canTie_23 rfl ?_
    refine R_getR _ (hr _ _ _ rfl) fd0_2 kf0_28 rfl dX0_canTie_24 ?_
    refine R_getR _ (hr _ _ _ rfl) fd4_3 kf0_53 rfl dX0_canTie_27 ?_
    refine R_iload_n dX0_canTie_30 rfl ?_
    refine R_iald rfl (by omega) (by omega) dX0_canTie_31 ?_
    refine R_iconst dX0_canTie_32 rfl rfl ?_
    refine R_icmp_eq 59 dX0_canTie_33 (by decide) (fun hd33 => ?_) (fun hd33 => ?_)
    · refine R_aload_n dX0_canTie_59 rfl ?_
      refine R_getR _ (hr _ _ _ rfl) fd0_2 kf0_28 rfl dX0_canTie_60 ?_
      refine R_getR _ (hr _ _ _ rfl) fd4_1 kf0_59 rfl dX0_canTie_63 ?_
      refine R_iload_n dX0_canTie_66 rfl ?_
      refine R_iald rfl (by omega) (by omega) dX0_canTie_67 ?_
      refine R_aload_n dX0_canTie_68 rfl ?_
      refine R_getR _ (hr _ _ _ rfl) fd0_1 kf0_21 rfl dX0_canTie_69 ?_
      refine R_getR _ (hr _ _ _ rfl) fd1_2 kf0_62 rfl dX0_canTie_72 ?_
      refine R_iload_n dX0_canTie_75 rfl ?_
      refine R_iald rfl (by omega) (by omega) dX0_canTie_76 ?_
      refine R_icmp_lt 105 dX0_canTie_77 (by decide) (fun hd77 => ?_) (fun hd77 => ?_)
      · refine R_iconst dX0_canTie_105 rfl rfl ?_
        refine R_ireturn rfl (by first | rfl | exact nar_b2i | exact nar_bi) (by decide) (by decide) dX0_canTie_106 ?_
        first | exact ⟨by rw [bi_f (by simp; omega)], rfl, rfl, rfl, rfl⟩ | exact ⟨by rw [bi_t (by simp; omega)], rfl, rfl, rfl, rfl⟩
      · refine R_aload_n dX0_canTie_80 rfl ?_
        refine R_getR _ (hr _ _ _ rfl) fd0_2 kf0_28 rfl dX0_canTie_81 ?_
        refine R_getR _ (hr _ _ _ rfl) fd4_1 kf0_59 rfl dX0_canTie_84 ?_
        refine R_iload_n dX0_canTie_87 rfl ?_
        refine R_iald rfl (by omega) (by omega) dX0_canTie_88 ?_
        refine R_aload_n dX0_canTie_89 rfl ?_
        refine R_getR _ (hr _ _ _ rfl) fd0_1 kf0_21 rfl dX0_canTie_90 ?_
        refine R_getR _ (hr _ _ _ rfl) fd1_3 kf0_65 rfl dX0_canTie_93 ?_
        refine R_iload_n dX0_canTie_96 rfl ?_
        refine R_iald rfl (by omega) (by omega) dX0_canTie_97 ?_
        refine R_icmp_gt 105 dX0_canTie_98 (by decide) (fun hd98 => ?_) (fun hd98 => ?_)
        · refine R_iconst dX0_canTie_105 rfl rfl ?_
          refine R_ireturn rfl (by first | rfl | exact nar_b2i | exact nar_bi) (by decide) (by decide) dX0_canTie_106 ?_
          first | exact ⟨by rw [bi_f (by simp; omega)], rfl, rfl, rfl, rfl⟩ | exact ⟨by rw [bi_t (by simp; omega)], rfl, rfl, rfl, rfl⟩
        · refine R_iconst dX0_canTie_101 rfl rfl ?_
          refine R_goto 106 dX0_canTie_102 (by decide) ?_
          refine R_ireturn rfl (by first | rfl | exact nar_b2i | exact nar_bi) (by decide) (by decide) dX0_canTie_106 ?_
          first | exact ⟨by rw [bi_f (by simp; omega)], rfl, rfl, rfl, rfl⟩ | exact ⟨by rw [bi_t (by simp; omega)], rfl, rfl, rfl, rfl⟩
    · refine R_aload_n dX0_canTie_36 rfl ?_
      refine R_getR _ (hr _ _ _ rfl) fd0_2 kf0_28 rfl dX0_canTie_37 ?_
      refine R_getR _ (hr _ _ _ rfl) fd4_3 kf0_53 rfl dX0_canTie_40 ?_
      refine R_iload_n dX0_canTie_43 rfl ?_
      refine R_iald rfl (by omega) (by omega) dX0_canTie_44 ?_
      refine R_aload_n dX0_canTie_45 rfl ?_
      refine R_getR _ (hr _ _ _ rfl) fd0_1 kf0_21 rfl dX0_canTie_46 ?_
      refine R_getR _ (hr _ _ _ rfl) fd1_1 kf0_56 rfl dX0_canTie_49 ?_
      refine R_iload_n dX0_canTie_52 rfl ?_
      refine R_iald rfl (by omega) (by omega) dX0_canTie_53 ?_
      refine R_icmp_eq 59 dX0_canTie_54 (by decide) (fun hd54 => ?_) (fun hd54 => ?_)
      · refine R_aload_n dX0_canTie_59 rfl ?_
        refine R_getR _ (hr _ _ _ rfl) fd0_2 kf0_28 rfl dX0_canTie_60 ?_
        refine R_getR _ (hr _ _ _ rfl) fd4_1 kf0_59 rfl dX0_canTie_63 ?_
        refine R_iload_n dX0_canTie_66 rfl ?_
        refine R_iald rfl (by omega) (by omega) dX0_canTie_67 ?_
        refine R_aload_n dX0_canTie_68 rfl ?_
        refine R_getR _ (hr _ _ _ rfl) fd0_1 kf0_21 rfl dX0_canTie_69 ?_
        refine R_getR _ (hr _ _ _ rfl) fd1_2 kf0_62 rfl dX0_canTie_72 ?_
        refine R_iload_n dX0_canTie_75 rfl ?_
        refine R_iald rfl (by omega) (by omega) dX0_canTie_76 ?_
        refine R_icmp_lt 105 dX0_canTie_77 (by decide) (fun hd77 => ?_) (fun hd77 => ?_)
        · refine R_iconst dX0_canTie_105 rfl rfl ?_
          refine R_ireturn rfl (by first | rfl | exact nar_b2i | exact nar_bi) (by decide) (by decide) dX0_canTie_106 ?_
          first | exact ⟨by rw [bi_f (by simp; omega)], rfl, rfl, rfl, rfl⟩ | exact ⟨by rw [bi_t (by simp; omega)], rfl, rfl, rfl, rfl⟩
        · refine R_aload_n dX0_canTie_80 rfl ?_
          refine R_getR _ (hr _ _ _ rfl) fd0_2 kf0_28 rfl dX0_canTie_81 ?_
          refine R_getR _ (hr _ _ _ rfl) fd4_1 kf0_59 rfl dX0_canTie_84 ?_
          refine R_iload_n dX0_canTie_87 rfl ?_
          refine R_iald rfl (by omega) (by omega) dX0_canTie_88 ?_
          refine R_aload_n dX0_canTie_89 rfl ?_
          refine R_getR _ (hr _ _ _ rfl) fd0_1 kf0_21 rfl dX0_canTie_90 ?_
          refine R_getR _ (hr _ _ _ rfl) fd1_3 kf0_65 rfl dX0_canTie_93 ?_
          refine R_iload_n dX0_canTie_96 rfl ?_
          refine R_iald rfl (by omega) (by omega) dX0_canTie_97 ?_
          refine R_icmp_gt 105 dX0_canTie_98 (by decide) (fun hd98 => ?_) (fun hd98 => ?_)
          · refine R_iconst dX0_canTie_105 rfl rfl ?_
            refine R_ireturn rfl (by first | rfl | exact nar_b2i | exact nar_bi) (by decide) (by decide) dX0_canTie_106 ?_
            first | exact ⟨by rw [bi_f (by simp; omega)], rfl, rfl, rfl, rfl⟩ | exact ⟨by rw [bi_t (by simp; omega)], rfl, rfl, rfl, rfl⟩
          · refine R_iconst dX0_canTie_101 rfl rfl ?_
            refine R_goto 106 dX0_canTie_102 (by decide) ?_
            refine R_ireturn rfl (by first | rfl | exact nar_b2i | exact nar_bi) (by decide) (by decide) dX0_canTie_106 ?_
            first | exact ⟨by rw [bi_f (by simp; omega)], rfl, rfl, rfl, rfl⟩ | exact ⟨by rw [bi_t (by simp; omega)], rfl, rfl, rfl, rfl⟩
      · refine R_iconst dX0_canTie_57 rfl rfl ?_
        refine R_ireturn rfl (by first | rfl | exact nar_b2i | exact nar_bi) (by decide) (by decide) dX0_canTie_58 ?_
        first | exact ⟨by rw [bi_f (by simp; omega)], rfl, rfl, rfl, rfl⟩ | exact ⟨by rw [bi_t (by simp; omega)], rfl, rfl, rfl, rfl⟩
  · refine R_iconst dX0_canTie_21 rfl rfl ?_
    refine R_ireturn rfl (by first | rfl | exact nar_b2i | exact nar_bi) (by decide) (by decide) dX0_canTie_22 ?_
    first | exact ⟨by rw [bi_f (by simp; omega)], rfl, rfl, rfl, rfl⟩ | exact ⟨by rw [bi_t (by simp; omega)], rfl, rfl, rfl, rfl⟩
end SMALL
