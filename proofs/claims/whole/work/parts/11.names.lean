/-! posts -/
def qP (sh : SH) (g z : GG) (r : RR) (x : Option AV) : PQ := fun v sh' g' z' r' => v = x ∧ sh' = sh ∧ g = g' ∧ z = z' ∧ r = r'
def qG (sh : SH) (z : GG) (r : RR) (P : Option AV → GG → Prop) : PQ := fun v sh' g' z' r' => P v g' ∧ sh' = sh ∧ z = z' ∧ r = r'
def b2i (p : Prop) [Decidable p] : Int := if p then 1 else 0
theorem b2i_t {p : Prop} [Decidable p] (h : p) : b2i p = 1 := if_pos h
theorem b2i_f {p : Prop} [Decidable p] (h : ¬ p) : b2i p = 0 := if_neg h
section NAMES
variable {g z : GG} {r : RR}
/-- Names.has -/
theorem c_X5_has (hr : RS r) (hsz : 0 ≤ g 2 2 ∧ g 2 2 ≤ 16) (a b : Int) : CT (mX5_has (rmD 0 0 0)) 0 0 shW [vR (some 2), vI a, vI b] g z r (qP shW g z r (some (vI (b2i (0 ≤ a ∧ a < g 2 2 ∧ g 3 a.toNat = b))))) := by
  refine CT.of 0 rfl rfl ?_
  refine R_iload_n dX5_has_0 rfl ?_
  refine R_if_lt 26 dX5_has_1 (by decide) (fun hc1 => ?_) (fun hc1 => ?_)
  · refine R_iconst dX5_has_26 rfl rfl ?_
    refine R_ireturn rfl (by rfl) (by decide) (by decide) dX5_has_27 ?_
    first | exact ⟨by rw [b2i_f (by omega)], rfl, rfl, rfl, rfl⟩ | exact ⟨by rw [b2i_t (by omega)], rfl, rfl, rfl, rfl⟩
  · refine R_iload_n dX5_has_4 rfl ?_
    refine R_aload_n dX5_has_5 rfl ?_
    refine R_getI fd5_2 kf5_18 rfl dX5_has_6 ?_
    refine R_icmp_ge 26 dX5_has_9 (by decide) (fun hc9 => ?_) (fun hc9 => ?_)
    · refine R_iconst dX5_has_26 rfl rfl ?_
      refine R_ireturn rfl (by rfl) (by decide) (by decide) dX5_has_27 ?_
      first | exact ⟨by rw [b2i_f (by omega)], rfl, rfl, rfl, rfl⟩ | exact ⟨by rw [b2i_t (by omega)], rfl, rfl, rfl, rfl⟩
    · refine R_aload_n dX5_has_12 rfl ?_
      refine R_getR _ (hr _ _ _ rfl) fd5_0 kf5_9 rfl dX5_has_13 ?_
      refine R_iload_n dX5_has_16 rfl ?_
      refine R_iald rfl (by omega) (by omega) dX5_has_17 ?_
      refine R_iload_n dX5_has_18 rfl ?_
      refine R_icmp_ne 26 dX5_has_19 (by decide) (fun hc19 => ?_) (fun hc19 => ?_)
      · refine R_iconst dX5_has_26 rfl rfl ?_
        refine R_ireturn rfl (by rfl) (by decide) (by decide) dX5_has_27 ?_
        first | exact ⟨by rw [b2i_f (by omega)], rfl, rfl, rfl, rfl⟩ | exact ⟨by rw [b2i_t (by omega)], rfl, rfl, rfl, rfl⟩
      · refine R_iconst dX5_has_22 rfl rfl ?_
        refine R_goto 27 dX5_has_23 (by decide) ?_
        refine R_ireturn rfl (by rfl) (by decide) (by decide) dX5_has_27 ?_
        first | exact ⟨by rw [b2i_f (by omega)], rfl, rfl, rfl, rfl⟩ | exact ⟨by rw [b2i_t (by omega)], rfl, rfl, rfl, rfl⟩
/-- Names.add -/
theorem c_X5_add (hr : RS r) (hsz : 0 ≤ g 2 2 ∧ g 2 2 ≤ 16) (a b : Int) : CT (mX5_add (rmD 0 0 0)) 0 0 shW [vR (some 2), vI a, vI b] g z r (qG shW z r fun v g' => ((0 ≤ a ∧ a ≤ 1 ∧ 1 ≤ b ∧ b ≤ 100 ∧ g 2 2 < 16) ∧ v = some (vI (g 2 2)) ∧ g' = up2 (up2 (up2 g 3 (g 2 2).toNat a) 4 (g 2 2).toNat b) 2 2 (g 2 2 + 1)) ∨ (¬ (0 ≤ a ∧ a ≤ 1 ∧ 1 ≤ b ∧ b ≤ 100 ∧ g 2 2 < 16) ∧ v = some (vI (-1)) ∧ g' = g)) := by
  refine CT.of 0 rfl rfl ?_
  refine R_iload_n dX5_add_0 rfl ?_
  refine R_if_eq 9 dX5_add_1 (by decide) (fun hc1 => ?_) (fun hc1 => ?_)
  · refine R_iload_n dX5_add_9 rfl ?_
    refine R_iconst dX5_add_10 rfl rfl ?_
    refine R_icmp_lt 29 dX5_add_11 (by decide) (fun hc11 => ?_) (fun hc11 => ?_)
    · refine R_iconst dX5_add_29 rfl rfl ?_
      refine R_ireturn rfl (by rfl) (by decide) (by decide) dX5_add_30 ?_
      exact ⟨Or.inr ⟨by omega, rfl, rfl⟩, rfl, rfl, rfl⟩
    · refine R_iload_n dX5_add_14 rfl ?_
      refine R_bipush dX5_add_15 rfl (by decide +kernel) ?_
      refine R_icmp_gt 29 dX5_add_17 (by decide) (fun hc17 => ?_) (fun hc17 => ?_)
      · refine R_iconst dX5_add_29 rfl rfl ?_
        refine R_ireturn rfl (by rfl) (by decide) (by decide) dX5_add_30 ?_
        exact ⟨Or.inr ⟨by omega, rfl, rfl⟩, rfl, rfl, rfl⟩
      · refine R_aload_n dX5_add_20 rfl ?_
        refine R_getI fd5_2 kf5_18 rfl dX5_add_21 ?_
        refine R_bipush dX5_add_24 rfl (by decide +kernel) ?_
        refine R_icmp_lt 31 dX5_add_26 (by decide) (fun hc26 => ?_) (fun hc26 => ?_)
        · refine R_aload_n dX5_add_31 rfl ?_
          refine R_getR _ (hr _ _ _ rfl) fd5_0 kf5_9 rfl dX5_add_32 ?_
          refine R_aload_n dX5_add_35 rfl ?_
          refine R_getI fd5_2 kf5_18 rfl dX5_add_36 ?_
          refine R_iload_n dX5_add_39 rfl ?_
          refine R_iast rfl (by omega) (by omega) dX5_add_40 ?_
          refine R_aload_n dX5_add_41 rfl ?_
          refine R_getR _ (hr _ _ _ rfl) fd5_1 kf5_15 rfl dX5_add_42 ?_
          try simp +decide only [up2_far, up2_s, up2_kk]
          refine R_aload_n dX5_add_45 rfl ?_
          refine R_getI fd5_2 kf5_18 rfl dX5_add_46 ?_
          try simp +decide only [up2_far, up2_s, up2_kk]
          refine R_iload_n dX5_add_49 rfl ?_
          refine R_iast rfl (by omega) (by omega) dX5_add_50 ?_
          refine R_aload_n dX5_add_51 rfl ?_
          refine R_dup dX5_add_52 (fun _ h => by cases h) ?_
          refine R_getI fd5_2 kf5_18 rfl dX5_add_53 ?_
          try simp +decide only [up2_far, up2_s, up2_kk]
          refine R_iconst dX5_add_56 rfl rfl ?_
          refine R_iaddN dX5_add_57 (by unfold inI; omega) ?_
          refine R_putI fd5_2 rfl kf5_18 rfl dX5_add_58 ?_
          refine R_aload_n dX5_add_61 rfl ?_
          refine R_getI fd5_2 kf5_18 rfl dX5_add_62 ?_
          try simp +decide only [up2_far, up2_s, up2_kk]
          refine R_iconst dX5_add_65 rfl rfl ?_
          refine R_isubN dX5_add_66 (by unfold inI; omega) ?_
          refine R_ireturn rfl (by rfl) (by decide) (by decide) dX5_add_67 ?_
          exact ⟨Or.inl ⟨by omega, by congr 2; omega, rfl⟩, rfl, rfl, rfl⟩
        · refine R_iconst dX5_add_29 rfl rfl ?_
          refine R_ireturn rfl (by rfl) (by decide) (by decide) dX5_add_30 ?_
          exact ⟨Or.inr ⟨by omega, rfl, rfl⟩, rfl, rfl, rfl⟩
  · refine R_iload_n dX5_add_4 rfl ?_
    refine R_iconst dX5_add_5 rfl rfl ?_
    refine R_icmp_ne 29 dX5_add_6 (by decide) (fun hc6 => ?_) (fun hc6 => ?_)
    · refine R_iconst dX5_add_29 rfl rfl ?_
      refine R_ireturn rfl (by rfl) (by decide) (by decide) dX5_add_30 ?_
      exact ⟨Or.inr ⟨by omega, rfl, rfl⟩, rfl, rfl, rfl⟩
    · refine R_iload_n dX5_add_9 rfl ?_
      refine R_iconst dX5_add_10 rfl rfl ?_
      refine R_icmp_lt 29 dX5_add_11 (by decide) (fun hc11 => ?_) (fun hc11 => ?_)
      · refine R_iconst dX5_add_29 rfl rfl ?_
        refine R_ireturn rfl (by rfl) (by decide) (by decide) dX5_add_30 ?_
        exact ⟨Or.inr ⟨by omega, rfl, rfl⟩, rfl, rfl, rfl⟩
      · refine R_iload_n dX5_add_14 rfl ?_
        refine R_bipush dX5_add_15 rfl (by decide +kernel) ?_
        refine R_icmp_gt 29 dX5_add_17 (by decide) (fun hc17 => ?_) (fun hc17 => ?_)
        · refine R_iconst dX5_add_29 rfl rfl ?_
          refine R_ireturn rfl (by rfl) (by decide) (by decide) dX5_add_30 ?_
          exact ⟨Or.inr ⟨by omega, rfl, rfl⟩, rfl, rfl, rfl⟩
        · refine R_aload_n dX5_add_20 rfl ?_
          refine R_getI fd5_2 kf5_18 rfl dX5_add_21 ?_
          refine R_bipush dX5_add_24 rfl (by decide +kernel) ?_
          refine R_icmp_lt 31 dX5_add_26 (by decide) (fun hc26 => ?_) (fun hc26 => ?_)
          · refine R_aload_n dX5_add_31 rfl ?_
            refine R_getR _ (hr _ _ _ rfl) fd5_0 kf5_9 rfl dX5_add_32 ?_
            refine R_aload_n dX5_add_35 rfl ?_
            refine R_getI fd5_2 kf5_18 rfl dX5_add_36 ?_
            refine R_iload_n dX5_add_39 rfl ?_
            refine R_iast rfl (by omega) (by omega) dX5_add_40 ?_
            refine R_aload_n dX5_add_41 rfl ?_
            refine R_getR _ (hr _ _ _ rfl) fd5_1 kf5_15 rfl dX5_add_42 ?_
            try simp +decide only [up2_far, up2_s, up2_kk]
            refine R_aload_n dX5_add_45 rfl ?_
            refine R_getI fd5_2 kf5_18 rfl dX5_add_46 ?_
            try simp +decide only [up2_far, up2_s, up2_kk]
            refine R_iload_n dX5_add_49 rfl ?_
            refine R_iast rfl (by omega) (by omega) dX5_add_50 ?_
            refine R_aload_n dX5_add_51 rfl ?_
            refine R_dup dX5_add_52 (fun _ h => by cases h) ?_
            refine R_getI fd5_2 kf5_18 rfl dX5_add_53 ?_
            try simp +decide only [up2_far, up2_s, up2_kk]
            refine R_iconst dX5_add_56 rfl rfl ?_
            refine R_iaddN dX5_add_57 (by unfold inI; omega) ?_
            refine R_putI fd5_2 rfl kf5_18 rfl dX5_add_58 ?_
            refine R_aload_n dX5_add_61 rfl ?_
            refine R_getI fd5_2 kf5_18 rfl dX5_add_62 ?_
            try simp +decide only [up2_far, up2_s, up2_kk]
            refine R_iconst dX5_add_65 rfl rfl ?_
            refine R_isubN dX5_add_66 (by unfold inI; omega) ?_
            refine R_ireturn rfl (by rfl) (by decide) (by decide) dX5_add_67 ?_
            exact ⟨Or.inl ⟨by omega, by congr 2; omega, rfl⟩, rfl, rfl, rfl⟩
          · refine R_iconst dX5_add_29 rfl rfl ?_
            refine R_ireturn rfl (by rfl) (by decide) (by decide) dX5_add_30 ?_
            exact ⟨Or.inr ⟨by omega, rfl, rfl⟩, rfl, rfl, rfl⟩
/-- Couples.has -/
theorem c_X1_has (hr : RS r) (a : Int) : CT (mX1_has (rmD 0 0 0)) 0 0 shW [vR (some 5), vI a] g z r (qP shW g z r (some (vI (b2i (0 ≤ a ∧ a < g 5 5))))) := by
  refine CT.of 0 rfl rfl ?_
  refine R_iload_n dX1_has_0 rfl ?_
  refine R_if_lt 16 dX1_has_1 (by decide) (fun hc1 => ?_) (fun hc1 => ?_)
  · refine R_iconst dX1_has_16 rfl rfl ?_
    refine R_ireturn rfl (by rfl) (by decide) (by decide) dX1_has_17 ?_
    first | exact ⟨by rw [b2i_f (by omega)], rfl, rfl, rfl, rfl⟩ | exact ⟨by rw [b2i_t (by omega)], rfl, rfl, rfl, rfl⟩
  · refine R_iload_n dX1_has_4 rfl ?_
    refine R_aload_n dX1_has_5 rfl ?_
    refine R_getI fd1_5 kf1_27 rfl dX1_has_6 ?_
    refine R_icmp_ge 16 dX1_has_9 (by decide) (fun hc9 => ?_) (fun hc9 => ?_)
    · refine R_iconst dX1_has_16 rfl rfl ?_
      refine R_ireturn rfl (by rfl) (by decide) (by decide) dX1_has_17 ?_
      first | exact ⟨by rw [b2i_f (by omega)], rfl, rfl, rfl, rfl⟩ | exact ⟨by rw [b2i_t (by omega)], rfl, rfl, rfl, rfl⟩
    · refine R_iconst dX1_has_12 rfl rfl ?_
      refine R_goto 17 dX1_has_13 (by decide) ?_
      refine R_ireturn rfl (by rfl) (by decide) (by decide) dX1_has_17 ?_
      first | exact ⟨by rw [b2i_f (by omega)], rfl, rfl, rfl, rfl⟩ | exact ⟨by rw [b2i_t (by omega)], rfl, rfl, rfl, rfl⟩
/-- Couples.parentOf -/
theorem c_X1_parentOf (hr : RS r) (hsz : 0 ≤ g 5 5 ∧ g 5 5 ≤ 6) (a b : Int) : CT (mX1_parentOf (rmD 1 0 0)) 0 0 shW [vR (some 5), vI a, vI b] g z r (qP shW g z r (some (vI (if 0 ≤ a ∧ a < g 5 5 ∧ 0 ≤ b ∧ b < 4 then g 10 (a * 4 + b).toNat else -1)))) := by
  refine CT.of 0 rfl rfl ?_
  by_cases h : 0 ≤ a ∧ a < g 5 5
  · refine R_aload_n dX1_parentOf_0 rfl ?_
    refine R_iload_n dX1_parentOf_1 rfl ?_
    refine R_callV (c_X1_has hr a) (mvX1_has _) kiX1_has kvX1_has km1_31 rfl rfl (by decide) ⟨rfl, rfl, by decide, by decide⟩ (by decide) dX1_parentOf_2 (fun v1 sh1 g1 z1 r1 hq => ?_)
    obtain ⟨rfl, rfl, rfl, rfl, rfl⟩ := hq
    rw [b2i_t h]
    refine R_if_eq 30 dX1_parentOf_5 (by decide) (fun hc5 => ?_) (fun hc5 => ?_)
    · try simp only [b2i_z, bi_z, ne_eq, Classical.not_not] at hc5
      refine R_iconst dX1_parentOf_30 rfl rfl ?_
      refine R_ireturn rfl (by rfl) (by decide) (by decide) dX1_parentOf_31 ?_
      first | exact ⟨by rw [if_neg (by omega)], rfl, rfl, rfl, rfl⟩ | exact ⟨by rw [if_pos (by omega)], rfl, rfl, rfl, rfl⟩
    · try simp only [b2i_z, bi_z, ne_eq, Classical.not_not] at hc5
      refine R_iload_n dX1_parentOf_8 rfl ?_
      refine R_if_lt 30 dX1_parentOf_9 (by decide) (fun hc9 => ?_) (fun hc9 => ?_)
      · refine R_iconst dX1_parentOf_30 rfl rfl ?_
        refine R_ireturn rfl (by rfl) (by decide) (by decide) dX1_parentOf_31 ?_
        first | exact ⟨by rw [if_neg (by omega)], rfl, rfl, rfl, rfl⟩ | exact ⟨by rw [if_pos (by omega)], rfl, rfl, rfl, rfl⟩
      · refine R_iload_n dX1_parentOf_12 rfl ?_
        refine R_iconst dX1_parentOf_13 rfl rfl ?_
        refine R_icmp_ge 30 dX1_parentOf_14 (by decide) (fun hc14 => ?_) (fun hc14 => ?_)
        · refine R_iconst dX1_parentOf_30 rfl rfl ?_
          refine R_ireturn rfl (by rfl) (by decide) (by decide) dX1_parentOf_31 ?_
          first | exact ⟨by rw [if_neg (by omega)], rfl, rfl, rfl, rfl⟩ | exact ⟨by rw [if_pos (by omega)], rfl, rfl, rfl, rfl⟩
        · refine R_aload_n dX1_parentOf_17 rfl ?_
          refine R_getR _ (hr _ _ _ rfl) fd1_4 kf1_24 rfl dX1_parentOf_18 ?_
          refine R_iload_n dX1_parentOf_21 rfl ?_
          refine R_iconst dX1_parentOf_22 rfl rfl ?_
          refine R_imulN dX1_parentOf_23 (by unfold inI; omega) ?_
          refine R_iload_n dX1_parentOf_24 rfl ?_
          refine R_iaddN dX1_parentOf_25 (by unfold inI; omega) ?_
          refine R_iald rfl (by omega) (by omega) dX1_parentOf_26 ?_
          refine R_goto 31 dX1_parentOf_27 (by decide) ?_
          refine R_ireturn rfl (by rfl) (by decide) (by decide) dX1_parentOf_31 ?_
          first | exact ⟨by rw [if_neg (by omega)], rfl, rfl, rfl, rfl⟩ | exact ⟨by rw [if_pos (by omega)], rfl, rfl, rfl, rfl⟩
  · refine R_aload_n dX1_parentOf_0 rfl ?_
    refine R_iload_n dX1_parentOf_1 rfl ?_
    refine R_callV (c_X1_has hr a) (mvX1_has _) kiX1_has kvX1_has km1_31 rfl rfl (by decide) ⟨rfl, rfl, by decide, by decide⟩ (by decide) dX1_parentOf_2 (fun v1 sh1 g1 z1 r1 hq => ?_)
    obtain ⟨rfl, rfl, rfl, rfl, rfl⟩ := hq
    rw [b2i_f h]
    refine R_if_eq 30 dX1_parentOf_5 (by decide) (fun hc5 => ?_) (fun hc5 => ?_)
    · refine R_iconst dX1_parentOf_30 rfl rfl ?_
      refine R_ireturn rfl (by rfl) (by decide) (by decide) dX1_parentOf_31 ?_
      exact ⟨by rw [if_neg (by omega)], rfl, rfl, rfl, rfl⟩
    · exact absurd rfl hc5
end NAMES
