def byt (w s : Int) : Int := bAnd (bShr w s) 255
def tp4 (f : Nat → Int) (n : Nat) (w : Int) : Nat → Int := fun j => if j = n + 3 then byt w 0 else if j = n + 2 then byt w 8 else if j = n + 1 then byt w 16 else if j = n then byt w 24 else f j
def tieS (s : VW) (c : Nat) : Nat → Nat
  | 0 => 0
  | n + 1 => if canTie s n c then tieS s c n ||| 2 ^ n else tieS s c n
theorem tieS_lt {s : VW} {c : Nat} (n : Nat) : tieS s c n < 2 ^ n := by
  induction n with
  | zero => simp [tieS]
  | succ n ih =>
    unfold tieS
    have h2 : 2 ^ n < 2 ^ (n + 1) := Nat.pow_lt_pow_right (by decide) (by omega)
    split
    · exact Nat.or_lt_two_pow (by omega) h2
    · omega
theorem tieS_bit {s : VW} {c : Nat} (n i : Nat) : (tieS s c n).testBit i = (decide (i < n) && canTie s i c) := by
  induction n with
  | zero => simp [tieS]
  | succ n ih =>
    unfold tieS
    by_cases hi : i = n
    · subst hi
      split
      · rename_i h; simp [Nat.testBit_or, Nat.testBit_two_pow, h]
      · rename_i h; rw [ih]; simp [h]
    · split
      · rw [Nat.testBit_or, ih, Nat.testBit_two_pow]
        have : decide (n = i) = false := by simp; omega
        rw [this, Bool.or_false]
        congr 1
        simp; omega
      · rw [ih]; congr 1; simp; omega
section BOOKS
variable {g z : GG} {r : RR}
/-- Tape.append -/
theorem c_X8_append (hr : RS r) (w : Int) (hsz : 0 ≤ g 19 1 ∧ g 19 1 + 4 ≤ 200) : CT (mX8_append (rmD 0 0 0)) 0 0 shW [vR (some 19), vI w] g z r (qG shW z r fun v g' => v = none ∧ g' = up2 (upC g 20 (tp4 (g 20) (g 19 1).toNat w)) 19 1 (g 19 1 + 4)) := by
  refine CT.of 1 rfl rfl ?_
  refine R_bipush dX8_append_0 rfl (by decide +kernel) ?_
  refine R_istore_n dX8_append_2 (by decide) rfl [_, _, _] rfl ?_
  refine R_iload_n dX8_append_3 rfl ?_
  refine R_if_lt 49 dX8_append_4 (by decide) (fun hc4 => ?_) (fun hc4 => ?_)
  · exact absurd hc4 (by omega)
  refine R_aload_n dX8_append_7 rfl ?_
  refine R_getI fd8_1 kf8_15 rfl dX8_append_8 ?_
  try simp +decide only [up2_far, up2_s, up2_kk]
  refine R_sipush dX8_append_11 rfl (by decide +kernel) ?_
  refine R_icmp_ge 49 dX8_append_14 (by decide) (fun hc14 => ?_) (fun hc14 => ?_)
  · exact absurd hc14 (by omega)
  refine R_aload_n dX8_append_17 rfl ?_
  refine R_getR _ (hr _ _ _ rfl) fd8_0 kf8_11 rfl dX8_append_18 ?_
  try simp +decide only [up2_far, up2_s, up2_kk]
  refine R_aload_n dX8_append_21 rfl ?_
  refine R_getI fd8_1 kf8_15 rfl dX8_append_22 ?_
  try simp +decide only [up2_far, up2_s, up2_kk]
  refine R_iload_n dX8_append_25 rfl ?_
  refine R_iload_n dX8_append_26 rfl ?_
  refine R_ishr dX8_append_27 ?_
  refine R_sipush dX8_append_28 rfl (by decide +kernel) ?_
  refine R_iand dX8_append_31 ?_
  refine R_iast rfl (by omega) (by omega) dX8_append_32 ?_
  refine R_aload_n dX8_append_33 rfl ?_
  refine R_dup dX8_append_34 (fun _ h => by cases h) ?_
  refine R_getI fd8_1 kf8_15 rfl dX8_append_35 ?_
  try simp +decide only [up2_far, up2_s, up2_kk]
  refine R_iconst dX8_append_38 rfl rfl ?_
  refine R_iaddN dX8_append_39 (by unfold inI; omega) ?_
  refine R_putI fd8_1 rfl kf8_15 rfl dX8_append_40 ?_
  refine R_iincN dX8_append_43 rfl (by decide) rfl (by unfold inI; omega) [_, _, _] rfl ?_
  refine R_goto 3 dX8_append_46 (by decide) ?_
  refine R_iload_n dX8_append_3 rfl ?_
  refine R_if_lt 49 dX8_append_4 (by decide) (fun hc4 => ?_) (fun hc4 => ?_)
  · exact absurd hc4 (by omega)
  refine R_aload_n dX8_append_7 rfl ?_
  refine R_getI fd8_1 kf8_15 rfl dX8_append_8 ?_
  try simp +decide only [up2_far, up2_s, up2_kk]
  refine R_sipush dX8_append_11 rfl (by decide +kernel) ?_
  refine R_icmp_ge 49 dX8_append_14 (by decide) (fun hc14 => ?_) (fun hc14 => ?_)
  · exact absurd hc14 (by omega)
  refine R_aload_n dX8_append_17 rfl ?_
  refine R_getR _ (hr _ _ _ rfl) fd8_0 kf8_11 rfl dX8_append_18 ?_
  try simp +decide only [up2_far, up2_s, up2_kk]
  refine R_aload_n dX8_append_21 rfl ?_
  refine R_getI fd8_1 kf8_15 rfl dX8_append_22 ?_
  try simp +decide only [up2_far, up2_s, up2_kk]
  refine R_iload_n dX8_append_25 rfl ?_
  refine R_iload_n dX8_append_26 rfl ?_
  refine R_ishr dX8_append_27 ?_
  refine R_sipush dX8_append_28 rfl (by decide +kernel) ?_
  refine R_iand dX8_append_31 ?_
  refine R_iast rfl (by omega) (by omega) dX8_append_32 ?_
  refine R_aload_n dX8_append_33 rfl ?_
  refine R_dup dX8_append_34 (fun _ h => by cases h) ?_
  refine R_getI fd8_1 kf8_15 rfl dX8_append_35 ?_
  try simp +decide only [up2_far, up2_s, up2_kk]
  refine R_iconst dX8_append_38 rfl rfl ?_
  refine R_iaddN dX8_append_39 (by unfold inI; omega) ?_
  refine R_putI fd8_1 rfl kf8_15 rfl dX8_append_40 ?_
  refine R_iincN dX8_append_43 rfl (by decide) rfl (by unfold inI; omega) [_, _, _] rfl ?_
  refine R_goto 3 dX8_append_46 (by decide) ?_
  refine R_iload_n dX8_append_3 rfl ?_
  refine R_if_lt 49 dX8_append_4 (by decide) (fun hc4 => ?_) (fun hc4 => ?_)
  · exact absurd hc4 (by omega)
  refine R_aload_n dX8_append_7 rfl ?_
  refine R_getI fd8_1 kf8_15 rfl dX8_append_8 ?_
  try simp +decide only [up2_far, up2_s, up2_kk]
  refine R_sipush dX8_append_11 rfl (by decide +kernel) ?_
  refine R_icmp_ge 49 dX8_append_14 (by decide) (fun hc14 => ?_) (fun hc14 => ?_)
  · exact absurd hc14 (by omega)
  refine R_aload_n dX8_append_17 rfl ?_
  refine R_getR _ (hr _ _ _ rfl) fd8_0 kf8_11 rfl dX8_append_18 ?_
  try simp +decide only [up2_far, up2_s, up2_kk]
  refine R_aload_n dX8_append_21 rfl ?_
  refine R_getI fd8_1 kf8_15 rfl dX8_append_22 ?_
  try simp +decide only [up2_far, up2_s, up2_kk]
  refine R_iload_n dX8_append_25 rfl ?_
  refine R_iload_n dX8_append_26 rfl ?_
  refine R_ishr dX8_append_27 ?_
  refine R_sipush dX8_append_28 rfl (by decide +kernel) ?_
  refine R_iand dX8_append_31 ?_
  refine R_iast rfl (by omega) (by omega) dX8_append_32 ?_
  refine R_aload_n dX8_append_33 rfl ?_
  refine R_dup dX8_append_34 (fun _ h => by cases h) ?_
  refine R_getI fd8_1 kf8_15 rfl dX8_append_35 ?_
  try simp +decide only [up2_far, up2_s, up2_kk]
  refine R_iconst dX8_append_38 rfl rfl ?_
  refine R_iaddN dX8_append_39 (by unfold inI; omega) ?_
  refine R_putI fd8_1 rfl kf8_15 rfl dX8_append_40 ?_
  refine R_iincN dX8_append_43 rfl (by decide) rfl (by unfold inI; omega) [_, _, _] rfl ?_
  refine R_goto 3 dX8_append_46 (by decide) ?_
  refine R_iload_n dX8_append_3 rfl ?_
  refine R_if_lt 49 dX8_append_4 (by decide) (fun hc4 => ?_) (fun hc4 => ?_)
  · exact absurd hc4 (by omega)
  refine R_aload_n dX8_append_7 rfl ?_
  refine R_getI fd8_1 kf8_15 rfl dX8_append_8 ?_
  try simp +decide only [up2_far, up2_s, up2_kk]
  refine R_sipush dX8_append_11 rfl (by decide +kernel) ?_
  refine R_icmp_ge 49 dX8_append_14 (by decide) (fun hc14 => ?_) (fun hc14 => ?_)
  · exact absurd hc14 (by omega)
  refine R_aload_n dX8_append_17 rfl ?_
  refine R_getR _ (hr _ _ _ rfl) fd8_0 kf8_11 rfl dX8_append_18 ?_
  try simp +decide only [up2_far, up2_s, up2_kk]
  refine R_aload_n dX8_append_21 rfl ?_
  refine R_getI fd8_1 kf8_15 rfl dX8_append_22 ?_
  try simp +decide only [up2_far, up2_s, up2_kk]
  refine R_iload_n dX8_append_25 rfl ?_
  refine R_iload_n dX8_append_26 rfl ?_
  refine R_ishr dX8_append_27 ?_
  refine R_sipush dX8_append_28 rfl (by decide +kernel) ?_
  refine R_iand dX8_append_31 ?_
  refine R_iast rfl (by omega) (by omega) dX8_append_32 ?_
  refine R_aload_n dX8_append_33 rfl ?_
  refine R_dup dX8_append_34 (fun _ h => by cases h) ?_
  refine R_getI fd8_1 kf8_15 rfl dX8_append_35 ?_
  try simp +decide only [up2_far, up2_s, up2_kk]
  refine R_iconst dX8_append_38 rfl rfl ?_
  refine R_iaddN dX8_append_39 (by unfold inI; omega) ?_
  refine R_putI fd8_1 rfl kf8_15 rfl dX8_append_40 ?_
  refine R_iincN dX8_append_43 rfl (by decide) rfl (by unfold inI; omega) [_, _, _] rfl ?_
  refine R_goto 3 dX8_append_46 (by decide) ?_
  refine R_iload_n dX8_append_3 rfl ?_
  refine R_if_lt 49 dX8_append_4 (by decide) (fun hc4 => ?_) (fun hc4 => ?_)
  · refine R_return rfl (by decide) (by decide) dX8_append_49 ?_
    refine ⟨⟨rfl, ?_⟩, rfl, rfl, rfl⟩
    funext c k
    by_cases h1 : c = 20
    · subst h1
      obtain ⟨n, hn⟩ : ∃ n : Nat, g 19 1 = (n : Int) := ⟨(g 19 1).toNat, by omega⟩
      simp +decide only [up2_far, upC_s]
      rw [hn]
      simp only [up2, tp4, byt, true_and, Int.toNat_natCast, show ((n : Int) + 1).toNat = n + 1 by omega, show ((n : Int) + 1 + 1).toNat = n + 2 by omega, show ((n : Int) + 1 + 1 + 1).toNat = n + 3 by omega]
      simp
    · by_cases h2 : c = 19 ∧ k = 1
      · obtain ⟨rfl, rfl⟩ := h2
        simp only [up2_s]
        omega
      · simp [up2, upC, h1, h2]
  · exact absurd (by omega) hc4
/-- Fonts.changesAt -/
theorem c_X4_changesAt (hr : RS r) (hF : 0 ≤ g 11 7 ∧ g 11 7 ≤ 10) (y : Int) (hy : 0 ≤ y ∧ y ≤ 300) : CT (mX4_changesAt (rmD 0 0 0)) 0 0 shW [vR (some 11), vI y] g z r (qG shW z r fun v g' => g' = g ∧ ((v = some (vI 1) ∧ ∃ i : Nat, (i : Int) < g 11 7 ∧ g 13 i = y - 1) ∨ (v = some (vI 0) ∧ ∀ i : Nat, (i : Int) < g 11 7 → g 13 i ≠ y - 1))) := by
  refine CT.of 1 rfl rfl ?_
  generalize hQ : (qG shW z r fun v g' => g' = g ∧ ((v = some (vI 1) ∧ ∃ i : Nat, (i : Int) < g 11 7 ∧ g 13 i = y - 1) ∨ (v = some (vI 0) ∧ ∀ i : Nat, (i : Int) < g 11 7 → g 13 i ≠ y - 1))) = Q
  have loop : ∀ (n i : Nat), (i : Int) + n = g 11 7 → (∀ j : Nat, j < i → g 13 j ≠ y - 1) → RJ (mX4_changesAt (rmD 0 0 0)) 0 0 shW.length Q 0 0 shW 2 [some (vR (some 11)), some (vI (y)), some (vI ((i : Int)))] [] g z r := by
    intro n
    induction n with
    | zero =>
      intro i hi h
      refine R_iload_n dX4_changesAt_2 rfl ?_
      refine R_aload_n dX4_changesAt_3 rfl ?_
      refine R_getI fd4_7 kf4_33 rfl dX4_changesAt_4 ?_
      refine R_icmp_ge 30 dX4_changesAt_7 (by decide) (fun hc7 => ?_) (fun hc7 => ?_)
      · refine R_iconst dX4_changesAt_30 rfl rfl ?_
        refine R_ireturn rfl (by rfl) (by decide) (by decide) dX4_changesAt_31 ?_
        rw [← hQ]
        exact ⟨⟨rfl, Or.inr ⟨rfl, fun j hj => h j (by omega)⟩⟩, rfl, rfl, rfl⟩
      · exact absurd (by omega) hc7
    | succ n ih =>
      intro i hi h
      refine R_iload_n dX4_changesAt_2 rfl ?_
      refine R_aload_n dX4_changesAt_3 rfl ?_
      refine R_getI fd4_7 kf4_33 rfl dX4_changesAt_4 ?_
      refine R_icmp_ge 30 dX4_changesAt_7 (by decide) (fun hc7 => ?_) (fun hc7 => ?_)
      · exact absurd hc7 (by omega)
      refine R_aload_n dX4_changesAt_10 rfl ?_
      refine R_getR _ (hr _ _ _ rfl) fd4_1 kf4_15 rfl dX4_changesAt_11 ?_
      refine R_iload_n dX4_changesAt_14 rfl ?_
      refine R_iald rfl (by omega) (by omega) dX4_changesAt_15 ?_
      refine R_iload_n dX4_changesAt_16 rfl ?_
      refine R_iconst dX4_changesAt_17 rfl rfl ?_
      refine R_isubN dX4_changesAt_18 (by unfold inI; omega) ?_
      refine R_icmp_ne 24 dX4_changesAt_19 (by decide) (fun hc19 => ?_) (fun hc19 => ?_)
      · simp only [Int.toNat_natCast] at hc19
        refine R_iincN dX4_changesAt_24 rfl (by decide) rfl (by unfold inI; omega) [_, _, _] rfl ?_
        refine R_goto 2 dX4_changesAt_27 (by decide) ?_
        exact ih (i + 1) (by omega) (fun j hj => by
          by_cases hji : j = i
          · subst hji; exact hc19
          · exact h j (by omega))
      · simp only [Int.toNat_natCast] at hc19
        refine R_iconst dX4_changesAt_22 rfl rfl ?_
        refine R_ireturn rfl (by rfl) (by decide) (by decide) dX4_changesAt_23 ?_
        rw [← hQ]
        exact ⟨⟨rfl, Or.inl ⟨rfl, i, by omega, hc19⟩⟩, rfl, rfl, rfl⟩
  refine R_iconst dX4_changesAt_0 rfl rfl ?_
  refine R_istore_n dX4_changesAt_1 (by decide) rfl [_, _, _] rfl ?_
  exact loop (g 11 7).toNat 0 (by omega) (fun j hj => absurd hj (by omega))
/-- Books.tiesOf -/
theorem c_X0_tiesOf (hr : RS r) (hF : 0 ≤ g 11 7 ∧ g 11 7 ≤ 10) (c : Int) (hc : 0 ≤ c ∧ c < 6) : CT (mX0_tiesOf (rmD 1 0 0)) 0 0 shW [vR (some 1), vI c] g z r (qP shW g z r (some (vI (tieS (vC g) c.toNat (g 11 7).toNat : Nat)))) := by
  refine CT.of 2 rfl rfl ?_
  generalize hQ : (qP shW g z r (some (vI (tieS (vC g) c.toNat (g 11 7).toNat : Nat)))) = Q
  have loop : ∀ (n i : Nat), (i : Int) + n = g 11 7 → RJ (mX0_tiesOf (rmD 1 0 0)) 0 0 shW.length Q 0 0 shW 4 [some (vR (some 1)), some (vI (c)), some (vI (((tieS (vC g) c.toNat i : Nat) : Int))), some (vI ((i : Int)))] [] g z r := by
    intro n
    induction n with
    | zero =>
      intro i hi
      refine R_iload_n dX0_tiesOf_4 rfl ?_
      refine R_aload_n dX0_tiesOf_5 rfl ?_
      refine R_getR _ (hr _ _ _ rfl) fd0_2 kf0_28 rfl dX0_tiesOf_6 ?_
      refine R_getI fd4_7 kf0_43 rfl dX0_tiesOf_9 ?_
      refine R_icmp_ge 36 dX0_tiesOf_12 (by decide) (fun hc12 => ?_) (fun hc12 => ?_)
      · refine R_iload_n dX0_tiesOf_36 rfl ?_
        refine R_ireturn rfl (by rfl) (by decide) (by decide) dX0_tiesOf_37 ?_
        rw [← hQ]
        exact ⟨by rw [show (g 11 7).toNat = i by omega], rfl, rfl, rfl, rfl⟩
      · exact absurd (by omega) hc12
    | succ n ih =>
      intro i hi
      have hlt := tieS_lt (s := vC g) (c := c.toNat) i
      have hp : 2 ^ i < 2 ^ 31 := Nat.pow_lt_pow_right (by decide) (by omega)
      refine R_iload_n dX0_tiesOf_4 rfl ?_
      refine R_aload_n dX0_tiesOf_5 rfl ?_
      refine R_getR _ (hr _ _ _ rfl) fd0_2 kf0_28 rfl dX0_tiesOf_6 ?_
      refine R_getI fd4_7 kf0_43 rfl dX0_tiesOf_9 ?_
      refine R_icmp_ge 36 dX0_tiesOf_12 (by decide) (fun hc12 => ?_) (fun hc12 => ?_)
      · exact absurd hc12 (by omega)
      refine R_aload_n dX0_tiesOf_15 rfl ?_
      refine R_iload_n dX0_tiesOf_16 rfl ?_
      refine R_iload_n dX0_tiesOf_17 rfl ?_
      refine R_callV (c_X0_canTie hr (i : Int) c (by omega) hc) (mvX0_canTie _) kiX0_canTie kvX0_canTie km0_68 rfl rfl (by decide) ⟨rfl, rfl, by decide, by decide⟩ (by decide) dX0_tiesOf_18 (fun v1 sh1 g1 z1 r1 hq => ?_)
      obtain ⟨rfl, rfl, rfl, rfl, rfl⟩ := hq
      rw [Int.toNat_natCast]
      have hn := ih (i + 1) (by omega)
      by_cases ht : canTie (vC g) i c.toNat = true
      · rw [bi_t ht]
        refine R_if_eq 30 dX0_tiesOf_21 (by decide) (fun hc21 => ?_) (fun hc21 => ?_)
        · exact absurd hc21 (by decide)
        refine R_iload_n dX0_tiesOf_24 rfl ?_
        refine R_iconst dX0_tiesOf_25 rfl rfl ?_
        refine R_iload_n dX0_tiesOf_26 rfl ?_
        refine R_ishl dX0_tiesOf_27 ?_
        refine R_ior dX0_tiesOf_28 ?_
        rw [or_bit (by omega) (by omega)]
        refine R_istore_n dX0_tiesOf_29 (by decide) rfl [_, _, _, _] rfl ?_
        refine R_iincN dX0_tiesOf_30 rfl (by decide) rfl (by unfold inI; omega) [_, _, _, _] rfl ?_
        refine R_goto 4 dX0_tiesOf_33 (by decide) ?_
        rw [tieS, if_pos ht] at hn
        exact hn
      · rw [bi_f ht]
        refine R_if_eq 30 dX0_tiesOf_21 (by decide) (fun hc21 => ?_) (fun hc21 => ?_)
        · refine R_iincN dX0_tiesOf_30 rfl (by decide) rfl (by unfold inI; omega) [_, _, _, _] rfl ?_
          refine R_goto 4 dX0_tiesOf_33 (by decide) ?_
          rw [tieS, if_neg ht] at hn
          exact hn
        · exact absurd rfl hc21
  refine R_iconst dX0_tiesOf_0 rfl rfl ?_
  refine R_istore_n dX0_tiesOf_1 (by decide) rfl [_, _, _, _] rfl ?_
  refine R_iconst dX0_tiesOf_2 rfl rfl ?_
  refine R_istore_n dX0_tiesOf_3 (by decide) rfl [_, _, _, _] rfl ?_
  exact loop (g 11 7).toNat 0 (by omega)
end BOOKS
