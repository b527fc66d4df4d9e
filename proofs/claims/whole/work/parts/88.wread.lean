/-- the tables of the WAYS stand -/
def SSt (g z g' z' : GG) (K : Nat → CUS) : Prop := WC g g' ∧ (∀ c', c' ≠ 48 → c' ≠ 49 → z' c' = z c') ∧ g' 41 10 = 1 ∧ CI g' z' (vC g) K (g 30 1) (g 30 2) (g 30 3)
theorem SSt.sc {g z g1 z1 g2 : GG} {K : Nat → CUS} (h : SSt g z g1 z1 K) (s : SC g1 g2) : SSt g z g2 z1 K := by
  obtain ⟨h1, h2, h3, h4⟩ := h
  refine ⟨h1.trans s.wc, h2, by rw [s 41 (by unfold stc; omega) (by omega)]; exact h3, XI_cong ?_ ?_ ?_ ?_ rfl rfl h4⟩
  · rw [s 44 (by unfold stc; omega) (by omega)]
  · rw [s 45 (by unfold stc; omega) (by omega)]
  · rw [s 46 (by unfold stc; omega) (by omega)]
  · rw [s 47 (by unfold stc; omega) (by omega)]
/-- what the WAYS' methods rest on -/
def WP (g z : GG) (r : RR) (K : Nat → CUS) : Prop := FP g r K ∧ (0 ≤ g 1 4 ∧ g 1 4 ≤ 1000) ∧ (∀ x, x < 1024 → g 43 x = (sprd x : Int)) ∧ (g 41 10 = 0 ∨ (g 41 10 = 1 ∧ CI g z (vC g) K (g 30 1) (g 30 2) (g 30 3)))
def WSg (g : GG) (K : Nat → CUS) : List PR := WS (vC g) K (g 30 1) (g 30 2) (g 30 3)
theorem WP.sbd {g z : GG} {r : RR} {K : Nat → CUS} (H : WP g z r K) : SBD (vC g) K (g 30 1) (g 30 2) (g 30 3) := H.1.sbd H.2.1 _ _ _
def bitU (f : Nat → Bool) : Nat → Nat
  | 0 => 0
  | n + 1 => if f n then bitU f n ||| 2 ^ n else bitU f n
theorem bitU_lt {f : Nat → Bool} (n : Nat) : bitU f n < 2 ^ n := by
  induction n with
  | zero => simp [bitU]
  | succ n ih =>
    have h1 : 2 ^ n < 2 ^ (n + 1) := Nat.pow_lt_pow_right (by decide) (by omega)
    unfold bitU
    split
    · exact Nat.or_lt_two_pow (by omega) h1
    · omega
theorem bitU_cong {f f' : Nat → Bool} : ∀ n, (∀ i, i < n → f i = f' i) → bitU f n = bitU f' n := by
  intro n
  induction n with
  | zero => intro _; rfl
  | succ n ih => intro h; unfold bitU; rw [h n (by omega), ih (fun i hi => h i (by omega))]
/-- POINTS of a COUPLE's set -/
def ptF (s : VW) (K : Nat → CUS) (a b Y : Int) (c set : Nat) : Int := ptS s K a b Y c ((fam s c set).getD [])
/-- whether the TIE of i says little -/
def litS (s : VW) (K : Nat → CUS) (a b Y : Int) (le : Nat) (m : Int) (i : Nat) : Bool := decide (fld le i ≠ 6) && decide (ptF s K a b Y (fld le i) (fmS s le (fld le i)) - ptF s K a b Y (fld le i) (fmS s le (fld le i) ^^^ 2 ^ i) + s 0 4 < m)
/-- the first one that is not so -/
def chkS (T : Nat → Int) (le : Nat) (m n : Nat) : Int := match (List.range' m n).find? (fun i => decide (T i ≠ (fld le i : Int))) with
  | some i => (i : Int)
  | none => -1
section WREAD
variable {g z : GG} {r : RR}
theorem c_settle (K : Nat → CUS) (H : WP g z r K) : CT (mX10_settle (rmD 7 0 0)) 0 0 shW [vR (some 41), vR (some 30)] g z r (qZ shW r fun v g' z' => v = none ∧ SSt g z g' z' K) := c_X10_settle K H.1 H.2.1 H.2.2.1 H.2.2.2
theorem c_X10_shiftOf (i : Nat) (hi : i < 10) : CT (mX10_shiftOf (rmD 0 0 0)) 0 0 shW [vI (i : Int)] g z r (qP shW g z r (some (vI ((3 * (9 - i) : Nat) : Int)))) := by
  refine CT.of 0 rfl rfl ?_
  refine R_iconst dX10_shiftOf_0 rfl rfl ?_
  refine R_bipush dX10_shiftOf_1 rfl (by decide +kernel) ?_
  refine R_iload_n dX10_shiftOf_3 rfl ?_
  refine R_isubN dX10_shiftOf_4 (by unfold inI; omega) ?_
  refine R_imulN dX10_shiftOf_5 (by unfold inI; omega) ?_
  refine R_ireturn rfl (by first | rfl | exact nar_b2i | exact nar_bi) (by decide) (by decide) dX10_shiftOf_6 ?_
  exact ⟨by rw [show (3 : Int) * (9 - (i : Int)) = ((3 * (9 - i) : Nat) : Int) by omega], rfl, rfl, rfl, rfl⟩
theorem fld_int {le i : Nat} (hle : le < 2 ^ 30) (hi : i < 10) : bAnd (bShr (le : Int) ((3 * (9 - i) : Nat) : Int)) 7 = (fld le i : Int) := by
  rw [bShr_n (by omega) (by omega), show (7 : Int) = ((7 : Nat) : Int) from rfl, bAnd_n' (by decide), show (7 : Nat) = 2 ^ 3 - 1 from rfl, Nat.and_two_pow_sub_one_eq_mod]
  rfl
theorem c_X10_coupleOf (hr : RS r) (hF : 0 ≤ g 11 7 ∧ g 11 7 ≤ 10) (hw : whS (vC g) < 1024) (le : Nat) (hle : le < 2 ^ 30) (h46 : g 46 (whS (vC g)) = (le : Int)) (i : Nat) (hi : i < 10) : CT (mX10_coupleOf (rmD 1 0 0)) 0 0 shW [vR (some 41), vI (i : Int)] g z r (qP shW g z r (some (vI (fld le i : Int)))) := by
  refine CT.of 0 rfl rfl ?_
  refine R_aload_n dX10_coupleOf_0 rfl ?_
  refine R_getR _ (hr _ _ _ rfl) fd10_6 kf10_24 rfl dX10_coupleOf_1 ?_
  refine R_aload_n dX10_coupleOf_4 rfl ?_
  refine R_callV (c_X10_whole hr hF) (mvX10_whole _) kiX10_whole kvX10_whole km10_65 rfl rfl (by decide) ⟨rfl, rfl, by decide, by decide⟩ (Nat.le_of_ble_eq_true rfl) dX10_coupleOf_5 (fun v1 sh1 g1 z1 r1 hq => ?_)
  obtain ⟨rfl, rfl, rfl, rfl, rfl⟩ := hq
  generalize hwe : whS (vC g) = wh at *
  refine R_iald rfl (by omega) (by omega) dX10_coupleOf_8 ?_
  try rw [Int.toNat_natCast]
  rw [h46]
  refine R_iload_n dX10_coupleOf_9 rfl ?_
  refine R_callS (c_X10_shiftOf i hi) (mvX10_shiftOf _) ksX10_shiftOf km10_45 ⟨rfl, rfl, by decide, by decide⟩ (Nat.le_of_ble_eq_true rfl) dX10_coupleOf_10 (fun v1 sh1 g1 z1 r1 hq => ?_)
  obtain ⟨rfl, rfl, rfl, rfl, rfl⟩ := hq
  refine R_ishr dX10_coupleOf_13 ?_
  refine R_bipush dX10_coupleOf_14 rfl (by decide +kernel) ?_
  refine R_iand dX10_coupleOf_16 ?_
  rw [fld_int hle hi]
  refine R_ireturn rfl (by first | rfl | exact nar_b2i | exact nar_bi) (by decide) (by decide) dX10_coupleOf_17 ?_
  exact ⟨rfl, rfl, rfl, rfl, rfl⟩
theorem c_X10_alwaysOf (hr : RS r) (hF : 0 ≤ g 11 7 ∧ g 11 7 ≤ 10) (hw : whS (vC g) < 1024) (co : Nat) (hco : co < 2 ^ 30) (h47 : g 47 (whS (vC g)) = (co : Int)) (i : Nat) (hi : i < 10) : CT (mX10_alwaysOf (rmD 1 0 0)) 0 0 shW [vR (some 41), vI (i : Int)] g z r (qP shW g z r (some (vI (fld co i : Int)))) := by
  refine CT.of 0 rfl rfl ?_
  refine R_aload_n dX10_alwaysOf_0 rfl ?_
  refine R_getR _ (hr _ _ _ rfl) fd10_7 kf10_27 rfl dX10_alwaysOf_1 ?_
  refine R_aload_n dX10_alwaysOf_4 rfl ?_
  refine R_callV (c_X10_whole hr hF) (mvX10_whole _) kiX10_whole kvX10_whole km10_65 rfl rfl (by decide) ⟨rfl, rfl, by decide, by decide⟩ (Nat.le_of_ble_eq_true rfl) dX10_alwaysOf_5 (fun v1 sh1 g1 z1 r1 hq => ?_)
  obtain ⟨rfl, rfl, rfl, rfl, rfl⟩ := hq
  generalize hwe : whS (vC g) = wh at *
  refine R_iald rfl (by omega) (by omega) dX10_alwaysOf_8 ?_
  try rw [Int.toNat_natCast]
  rw [h47]
  refine R_iload_n dX10_alwaysOf_9 rfl ?_
  refine R_callS (c_X10_shiftOf i hi) (mvX10_shiftOf _) ksX10_shiftOf km10_45 ⟨rfl, rfl, by decide, by decide⟩ (Nat.le_of_ble_eq_true rfl) dX10_alwaysOf_10 (fun v1 sh1 g1 z1 r1 hq => ?_)
  obtain ⟨rfl, rfl, rfl, rfl, rfl⟩ := hq
  refine R_ishr dX10_alwaysOf_13 ?_
  refine R_bipush dX10_alwaysOf_14 rfl (by decide +kernel) ?_
  refine R_iand dX10_alwaysOf_16 ?_
  rw [fld_int hco hi]
  refine R_ireturn rfl (by first | rfl | exact nar_b2i | exact nar_bi) (by decide) (by decide) dX10_alwaysOf_17 ?_
  exact ⟨rfl, rfl, rfl, rfl, rfl⟩
theorem c_X10_familyOf (hr : RS r) (hF : 0 ≤ g 11 7 ∧ g 11 7 ≤ 10) (hw : whS (vC g) < 1024) (le : Nat) (hle : le < 2 ^ 30) (h46 : g 46 (whS (vC g)) = (le : Int)) (c : Nat) : CT (mX10_familyOf (rmD 2 0 0)) 0 0 shW [vR (some 41), vI (c : Int)] g z r (qP shW g z r (some (vI (fmS (vC g) le c : Nat)))) := by
  refine CT.of 2 rfl rfl ?_
  have eF : ((vC g) 0 2).toNat = (g 11 7).toNat := rfl
  generalize hQ : (qP shW g z r (some (vI (fmS (vC g) le c : Nat)))) = Q
  have loop : ∀ (n i : Nat), (i : Int) + n = g 11 7 → RJ (mX10_familyOf (rmD 2 0 0)) 0 0 shW.length Q 0 0 shW 4 [some (vR (some 41)), some (vI ((c : Int))), some (vI ((setR (fun i => (fld le i : Int)) (c : Int) i : Nat))), some (vI ((i : Int)))] [] g z r := by
    intro n
    induction n with
    | zero =>
      intro i hi
      refine R_iload_n dX10_familyOf_4 rfl ?_
      refine R_aload_n dX10_familyOf_5 rfl ?_
      refine R_getR _ (hr _ _ _ rfl) fd10_0 kf10_37 rfl dX10_familyOf_6 ?_
      refine R_getR _ (hr _ _ _ rfl) fd0_2 kf10_53 rfl dX10_familyOf_9 ?_
      refine R_getI fd4_7 kf10_59 rfl dX10_familyOf_12 ?_
      refine R_icmp_ge 39 dX10_familyOf_15 (by decide) (fun hc15 => ?_) (fun hc15 => ?_)
      · refine R_iload_n dX10_familyOf_39 rfl ?_
        refine R_ireturn rfl (by first | rfl | exact nar_b2i | exact nar_bi) (by decide) (by decide) dX10_familyOf_40 ?_
        rw [← hQ]
        exact ⟨by unfold fmS; rw [eF, show (g 11 7).toNat = i by omega], rfl, rfl, rfl, rfl⟩
      · exact absurd (by omega) hc15
    | succ n ih =>
      intro i hi
      have hn := ih (i + 1) (by omega)
      rw [setR] at hn
      have hlt := setR_lt (T := fun i => (fld le i : Int)) (c := (c : Int)) i
      have hp : 2 ^ i < 1024 := Nat.pow_lt_pow_right (n := 10) (by decide) (by omega)
      refine R_iload_n dX10_familyOf_4 rfl ?_
      refine R_aload_n dX10_familyOf_5 rfl ?_
      refine R_getR _ (hr _ _ _ rfl) fd10_0 kf10_37 rfl dX10_familyOf_6 ?_
      refine R_getR _ (hr _ _ _ rfl) fd0_2 kf10_53 rfl dX10_familyOf_9 ?_
      refine R_getI fd4_7 kf10_59 rfl dX10_familyOf_12 ?_
      refine R_icmp_ge 39 dX10_familyOf_15 (by decide) (fun hc15 => ?_) (fun hc15 => ?_)
      · exact absurd hc15 (by omega)
      refine R_aload_n dX10_familyOf_18 rfl ?_
      refine R_iload_n dX10_familyOf_19 rfl ?_
      refine R_callV (c_X10_coupleOf hr hF hw le hle h46 i (by omega)) (mvX10_coupleOf _) kiX10_coupleOf kvX10_coupleOf km10_114 rfl rfl (by decide) ⟨rfl, rfl, by decide, by decide⟩ (Nat.le_of_ble_eq_true rfl) dX10_familyOf_20 (fun v1 sh1 g1 z1 r1 hq => ?_)
      obtain ⟨rfl, rfl, rfl, rfl, rfl⟩ := hq
      refine R_iload_n dX10_familyOf_23 rfl ?_
      refine R_icmp_ne 33 dX10_familyOf_24 (by decide) (fun hc24 => ?_) (fun hc24 => ?_)
      · rw [if_neg hc24] at hn
        refine R_iincN dX10_familyOf_33 rfl (by decide) rfl (by unfold inI; omega) [_, _, _, _] rfl ?_
        refine R_goto 4 dX10_familyOf_36 (by decide) ?_
        exact hn
      · rw [if_pos hc24] at hn
        refine R_iload_n dX10_familyOf_27 rfl ?_
        refine R_iconst dX10_familyOf_28 rfl rfl ?_
        refine R_iload_n dX10_familyOf_29 rfl ?_
        refine R_ishl dX10_familyOf_30 ?_
        refine R_ior dX10_familyOf_31 ?_
        rw [or_bit (by omega) (by omega)]
        refine R_istore_n dX10_familyOf_32 (by decide) rfl [_, _, _, _] rfl ?_
        refine R_iincN dX10_familyOf_33 rfl (by decide) rfl (by unfold inI; omega) [_, _, _, _] rfl ?_
        refine R_goto 4 dX10_familyOf_36 (by decide) ?_
        exact hn
  refine R_iconst dX10_familyOf_0 rfl rfl ?_
  refine R_istore_n dX10_familyOf_1 (by decide) rfl [_, _, _, _] rfl ?_
  refine R_iconst dX10_familyOf_2 rfl rfl ?_
  refine R_istore_n dX10_familyOf_3 (by decide) rfl [_, _, _, _] rfl ?_
  exact loop (g 11 7).toNat 0 (by omega)
theorem c_X10_mostPoints (hr : RS r) (hF : 0 ≤ g 11 7 ∧ g 11 7 ≤ 10) (hw : whS (vC g) < 1024) : CT (mX10_mostPoints (rmD 1 0 0)) 0 0 shW [vR (some 41)] g z r (qP shW g z r (some (vI (g 44 (whS (vC g)))))) := by
  refine CT.of 0 rfl rfl ?_
  refine R_aload_n dX10_mostPoints_0 rfl ?_
  refine R_getR _ (hr _ _ _ rfl) fd10_4 kf10_18 rfl dX10_mostPoints_1 ?_
  refine R_aload_n dX10_mostPoints_4 rfl ?_
  refine R_callV (c_X10_whole hr hF) (mvX10_whole _) kiX10_whole kvX10_whole km10_65 rfl rfl (by decide) ⟨rfl, rfl, by decide, by decide⟩ (Nat.le_of_ble_eq_true rfl) dX10_mostPoints_5 (fun v1 sh1 g1 z1 r1 hq => ?_)
  obtain ⟨rfl, rfl, rfl, rfl, rfl⟩ := hq
  generalize hwe : whS (vC g) = wh at *
  refine R_iald rfl (by omega) (by omega) dX10_mostPoints_8 ?_
  try rw [Int.toNat_natCast]
  refine R_ireturn rfl (by first | rfl | exact nar_b2i | exact nar_bi) (by decide) (by decide) dX10_mostPoints_9 ?_
  exact ⟨rfl, rfl, rfl, rfl, rfl⟩
theorem c_X10_howManyBest (hr : RS r) (hF : 0 ≤ g 11 7 ∧ g 11 7 ≤ 10) (hw : whS (vC g) < 1024) : CT (mX10_howManyBest (rmD 1 0 0)) 0 0 shW [vR (some 41)] g z r (qP shW g z r (some (vL (z 48 (whS (vC g)))))) := by
  refine CT.of 0 rfl rfl ?_
  refine R_aload_n dX10_howManyBest_0 rfl ?_
  refine R_getR _ (hr _ _ _ rfl) fd10_8 kf10_30 rfl dX10_howManyBest_1 ?_
  refine R_aload_n dX10_howManyBest_4 rfl ?_
  refine R_callV (c_X10_whole hr hF) (mvX10_whole _) kiX10_whole kvX10_whole km10_65 rfl rfl (by decide) ⟨rfl, rfl, by decide, by decide⟩ (Nat.le_of_ble_eq_true rfl) dX10_howManyBest_5 (fun v1 sh1 g1 z1 r1 hq => ?_)
  obtain ⟨rfl, rfl, rfl, rfl, rfl⟩ := hq
  generalize hwe : whS (vC g) = wh at *
  refine R_lald rfl (by omega) (by omega) dX10_howManyBest_8 ?_
  try rw [Int.toNat_natCast]
  refine R_lreturn rfl (by decide) (by decide) dX10_howManyBest_9 ?_
  exact ⟨rfl, rfl, rfl, rfl, rfl⟩
theorem c_X10_howMany (hr : RS r) (hF : 0 ≤ g 11 7 ∧ g 11 7 ≤ 10) (hw : whS (vC g) < 1024) : CT (mX10_howMany (rmD 1 0 0)) 0 0 shW [vR (some 41)] g z r (qP shW g z r (some (vL (z 49 (whS (vC g)))))) := by
  refine CT.of 0 rfl rfl ?_
  refine R_aload_n dX10_howMany_0 rfl ?_
  refine R_getR _ (hr _ _ _ rfl) fd10_9 kf10_34 rfl dX10_howMany_1 ?_
  refine R_aload_n dX10_howMany_4 rfl ?_
  refine R_callV (c_X10_whole hr hF) (mvX10_whole _) kiX10_whole kvX10_whole km10_65 rfl rfl (by decide) ⟨rfl, rfl, by decide, by decide⟩ (Nat.le_of_ble_eq_true rfl) dX10_howMany_5 (fun v1 sh1 g1 z1 r1 hq => ?_)
  obtain ⟨rfl, rfl, rfl, rfl, rfl⟩ := hq
  generalize hwe : whS (vC g) = wh at *
  refine R_lald rfl (by omega) (by omega) dX10_howMany_8 ?_
  try rw [Int.toNat_natCast]
  refine R_lreturn rfl (by decide) (by decide) dX10_howMany_9 ?_
  exact ⟨rfl, rfl, rfl, rfl, rfl⟩
theorem c_X10_gap (hr : RS r) (hF : 0 ≤ g 11 7 ∧ g 11 7 ≤ 10) (hw : whS (vC g) < 1024) (hb : (-1000000 ≤ g 44 (whS (vC g)) ∧ g 44 (whS (vC g)) ≤ 7000) ∧ (-1000000 ≤ g 45 (whS (vC g)) ∧ g 45 (whS (vC g)) ≤ 7000)) : CT (mX10_gap (rmD 2 0 0)) 0 0 shW [vR (some 41)] g z r (qP shW g z r (some (vI (if g 45 (whS (vC g)) = -1000000 then -1 else g 44 (whS (vC g)) - g 45 (whS (vC g)))))) := by
  refine CT.of 1 rfl rfl ?_
  refine R_aload_n dX10_gap_0 rfl ?_
  refine R_getR _ (hr _ _ _ rfl) fd10_5 kf10_21 rfl dX10_gap_1 ?_
  refine R_aload_n dX10_gap_4 rfl ?_
  refine R_callV (c_X10_whole hr hF) (mvX10_whole _) kiX10_whole kvX10_whole km10_65 rfl rfl (by decide) ⟨rfl, rfl, by decide, by decide⟩ (Nat.le_of_ble_eq_true rfl) dX10_gap_5 (fun v1 sh1 g1 z1 r1 hq => ?_)
  obtain ⟨rfl, rfl, rfl, rfl, rfl⟩ := hq
  have hm := c_X10_mostPoints (g := g) (z := z) hr hF hw
  generalize hwe : whS (vC g) = wh at *
  refine R_iald rfl (by omega) (by omega) dX10_gap_8 ?_
  try rw [Int.toNat_natCast]
  refine R_istore_n dX10_gap_9 (by decide) rfl [_, _] rfl ?_
  refine R_iload_n dX10_gap_10 rfl ?_
  refine R_ldcC (v := -1000000) kk10_100 (by decide +kernel) dX10_gap_11 (by decide) ?_
  refine R_icmp_ne 20 dX10_gap_13 (by decide) (fun hc13 => ?_) (fun hc13 => ?_)
  · refine R_aload_n dX10_gap_20 rfl ?_
    refine R_callV (hm) (mvX10_mostPoints _) kiX10_mostPoints kvX10_mostPoints km10_117 rfl rfl (by decide) ⟨rfl, rfl, by decide, by decide⟩ (Nat.le_of_ble_eq_true rfl) dX10_gap_21 (fun v1 sh1 g1 z1 r1 hq => ?_)
    obtain ⟨rfl, rfl, rfl, rfl, rfl⟩ := hq
    refine R_iload_n dX10_gap_24 rfl ?_
    refine R_isubN dX10_gap_25 (by unfold inI; omega) ?_
    refine R_ireturn rfl (by first | rfl | exact nar_b2i | exact nar_bi) (by decide) (by decide) dX10_gap_26 ?_
    exact ⟨by rw [if_neg hc13], rfl, rfl, rfl, rfl⟩
  · refine R_iconst dX10_gap_16 rfl rfl ?_
    refine R_goto 26 dX10_gap_17 (by decide) ?_
    refine R_ireturn rfl (by first | rfl | exact nar_b2i | exact nar_bi) (by decide) (by decide) dX10_gap_26 ?_
    exact ⟨by rw [if_pos hc13], rfl, rfl, rfl, rfl⟩
theorem max_ex : ∀ (W : List PR), W ≠ [] → ∃ m, (∀ x ∈ W, x.1 ≤ m) ∧ ∃ x ∈ W, x.1 = m := by
  intro W
  induction W with
  | nil => intro h; exact absurd rfl h
  | cons y t ih =>
    intro _
    by_cases ht : t = []
    · subst ht
      exact ⟨y.1, fun x hx => by rw [List.mem_singleton.mp hx]; exact Int.le_refl _, y, List.mem_cons_self, rfl⟩
    · obtain ⟨m, h1, x, hx, h2⟩ := ih ht
      by_cases hy : m ≤ y.1
      · exact ⟨y.1, fun u hu => by rcases List.mem_cons.mp hu with rfl | hu; exact Int.le_refl _; have := h1 u hu; omega, y, List.mem_cons_self, rfl⟩
      · exact ⟨m, fun u hu => by rcases List.mem_cons.mp hu with rfl | hu; omega; exact h1 u hu, x, List.mem_cons_of_mem _ hx, h2⟩
/-- what a state with tables gives -/
theorem SSt.get {K : Nat → CUS} {g' z' : GG} (H : WP g z r K) (h : SSt g z g' z' K) : ∃ le co : Nat, g' 46 (whS (vC g')) = (le : Int) ∧ g' 47 (whS (vC g')) = (co : Int) ∧ AGC (WSg g K) (g' 44 (whS (vC g'))) (g' 45 (whS (vC g'))) (z' 48 (whS (vC g'))) (z' 49 (whS (vC g'))) le co ∧ LeIs (WSg g K) le ∧ whS (vC g') < 1024 ∧ FP g' r K ∧ WSg g K ≠ [] := by
  obtain ⟨h1, h2, h3, le, co, e1, e2, e3⟩ := h
  have hs := H.sbd
  rw [h1.vC]
  exact ⟨le, co, e1, e2, e3, e3.leIs (WS_ne hs), whS_lt hs, H.1.congW h1, WS_ne hs⟩
theorem p_best (K : Nat → CUS) (H : WP g z r K) (i : Int) : CT (mX11_best (rmD 9 0 0)) 0 0 shW [vR (some 0), vI i] g z r (qZ shW r fun v g' z' => (¬ (0 ≤ i ∧ i < g 11 7) ∧ v = some (vI (-1)) ∧ g' = g ∧ z' = z) ∨ ((0 ≤ i ∧ i < g 11 7) ∧ SSt g z g' z' K ∧ ∃ le, LeIs (WSg g K) le ∧ v = some (vI (fld le i.toNat : Int)))) := by
  have hr := H.1.1
  have hF := H.1.2.2.2.2.2.2.1
  refine CT.of 0 rfl rfl ?_
  refine R_aload_n dX11_best_0 rfl ?_
  refine R_getR _ (hr _ _ _ rfl) fd11_0 kf11_10 rfl dX11_best_1 ?_
  refine R_getR _ (hr _ _ _ rfl) fd0_2 kf11_111 rfl dX11_best_4 ?_
  refine R_iload_n dX11_best_7 rfl ?_
  refine R_callV (c_X4_has hr i) (mvX4_has _) kiX4_has kvX4_has km11_120 rfl rfl (by decide) ⟨rfl, rfl, by decide, by decide⟩ (Nat.le_of_ble_eq_true rfl) dX11_best_8 (fun v1 sh1 g1 z1 r1 hq => ?_)
  obtain ⟨rfl, rfl, rfl, rfl, rfl⟩ := hq
  by_cases hi : 0 ≤ i ∧ i < g 11 7
  · rw [b2i_t hi]
    obtain ⟨i', rfl⟩ : ∃ i' : Nat, i = (i' : Int) := ⟨i.toNat, by omega⟩
    refine R_if_ne 16 dX11_best_11 (by decide) (fun hc11 => ?_) (fun hc11 => ?_)
    · refine R_aload_n dX11_best_16 rfl ?_
      refine R_getR _ (hr _ _ _ rfl) fd11_8 kf11_69 rfl dX11_best_17 ?_
      refine R_aload_n dX11_best_20 rfl ?_
      refine R_getR _ (hr _ _ _ rfl) fd11_4 kf11_41 rfl dX11_best_21 ?_
      refine R_callV (c_settle K H) (mvX10_settle _) kiX10_settle kvX10_settle km11_202 rfl rfl (by decide) ⟨rfl, rfl, by decide, by decide⟩ (Nat.le_of_ble_eq_true rfl) dX11_best_24 (fun v1 sh1 g1 z1 r1 hq => ?_)
      obtain ⟨⟨rfl, hst⟩, rfl, rfl⟩ := hq
      obtain ⟨le, co, e46, e47, hA, hL, hw, H1, hne⟩ := hst.get H
      refine R_aload_n dX11_best_27 rfl ?_
      refine R_getR _ (hr _ _ _ rfl) fd11_8 kf11_69 rfl dX11_best_28 ?_
      refine R_iload_n dX11_best_31 rfl ?_
      refine R_callV (c_X10_coupleOf hr H1.2.2.2.2.2.2.1 hw le hA.2.2.1 e46 i' (by omega)) (mvX10_coupleOf _) kiX10_coupleOf kvX10_coupleOf km11_206 rfl rfl (by decide) ⟨rfl, rfl, by decide, by decide⟩ (Nat.le_of_ble_eq_true rfl) dX11_best_32 (fun v1 sh1 g1 z1 r1 hq => ?_)
      obtain ⟨rfl, rfl, rfl, rfl, rfl⟩ := hq
      refine R_ireturn rfl (by first | rfl | exact nar_b2i | exact nar_bi) (by decide) (by decide) dX11_best_35 ?_
      exact ⟨Or.inr ⟨hi, hst, le, hL, by rw [Int.toNat_natCast]⟩, rfl, rfl⟩
    · exact absurd hc11 (by decide)
  · rw [b2i_f hi]
    refine R_if_ne 16 dX11_best_11 (by decide) (fun hc11 => ?_) (fun hc11 => ?_)
    · exact absurd rfl hc11
    · refine R_iconst dX11_best_14 rfl rfl ?_
      refine R_ireturn rfl (by first | rfl | exact nar_b2i | exact nar_bi) (by decide) (by decide) dX11_best_15 ?_
      exact ⟨Or.inl ⟨hi, rfl, rfl, rfl⟩, rfl, rfl⟩
/-- what ways answers -/
def wayV (N mo nx be al w : Int) : Int := if w = 0 then mo else if w = 1 then be else if w = 2 then al else if nx = N then -1 else mo - nx
theorem p_ways (K : Nat → CUS) (H : WP g z r K) (w : Int) : CT (mX11_ways (rmD 9 0 0)) 0 0 shW [vR (some 0), vI w] g z r (qZ shW r fun v g' z' => (¬ (0 ≤ w ∧ w ≤ 3) ∧ v = some (vL (-1)) ∧ g' = g ∧ z' = z) ∨ ((0 ≤ w ∧ w ≤ 3) ∧ SSt g z g' z' K ∧ ∃ mo nx be al, AG4 (-1000000) (WSg g K) mo nx be al ∧ v = some (vL (wayV (-1000000) mo nx be al w)))) := by
  have hr := H.1.1
  have hF := H.1.2.2.2.2.2.2.1
  have hs := H.sbd
  refine CT.of 0 rfl rfl ?_
  refine R_iload_n dX11_ways_0 rfl ?_
  refine R_if_lt 9 dX11_ways_1 (by decide) (fun hc1 => ?_) (fun hc1 => ?_)
  · refine R_ldc2_wC (v := -1) kk11_209 (by decide +kernel) dX11_ways_9 (by decide) ?_
    refine R_lreturn rfl (by decide) (by decide) dX11_ways_12 ?_
    exact ⟨Or.inl ⟨by omega, rfl, rfl, rfl⟩, rfl, rfl⟩
  · refine R_iload_n dX11_ways_4 rfl ?_
    refine R_iconst dX11_ways_5 rfl rfl ?_
    refine R_icmp_le 13 dX11_ways_6 (by decide) (fun hc6 => ?_) (fun hc6 => ?_)
    · refine R_aload_n dX11_ways_13 rfl ?_
      refine R_getR _ (hr _ _ _ rfl) fd11_8 kf11_69 rfl dX11_ways_14 ?_
      refine R_aload_n dX11_ways_17 rfl ?_
      refine R_getR _ (hr _ _ _ rfl) fd11_4 kf11_41 rfl dX11_ways_18 ?_
      refine R_callV (c_settle K H) (mvX10_settle _) kiX10_settle kvX10_settle km11_202 rfl rfl (by decide) ⟨rfl, rfl, by decide, by decide⟩ (Nat.le_of_ble_eq_true rfl) dX11_ways_21 (fun v1 sh1 g1 z1 r1 hq => ?_)
      obtain ⟨⟨rfl, hst⟩, rfl, rfl⟩ := hq
      obtain ⟨le, co, e46, e47, hA, hL, hw, H1, hne⟩ := hst.get H
      have hF1 := H1.2.2.2.2.2.2.1
      have hb := hA.bd (fun x hx => (GS_6 hs (by have := hs.2.1; omega)).bd hx)
      have hW : 0 ≤ w ∧ w ≤ 3 := by omega
      refine R_iload_n dX11_ways_24 rfl ?_
      refine R_ts [52, 61, 69] 77 dX11_ways_25 (by decide) (by decide) (by decide) (fun i25 t25 ht25 ha25 => ?_) (fun hc25 => ?_)
      · match i25, ht25 with
        | 0, ht25 =>
          cases ht25
          refine R_aload_n dX11_ways_52 rfl ?_
          refine R_getR _ (hr _ _ _ rfl) fd11_8 kf11_69 rfl dX11_ways_53 ?_
          refine R_callV (c_X10_mostPoints hr hF1 hw) (mvX10_mostPoints _) kiX10_mostPoints kvX10_mostPoints km11_211 rfl rfl (by decide) ⟨rfl, rfl, by decide, by decide⟩ (Nat.le_of_ble_eq_true rfl) dX11_ways_56 (fun v1 sh1 g1 z1 r1 hq => ?_)
          obtain ⟨rfl, rfl, rfl, rfl, rfl⟩ := hq
          refine R_i2l dX11_ways_59 ?_
          refine R_lreturn rfl (by decide) (by decide) dX11_ways_60 ?_
          exact ⟨Or.inr ⟨hW, hst, _, _, _, _, hA.1, by unfold wayV; rw [if_pos (by omega)]⟩, rfl, rfl⟩
        | 1, ht25 =>
          cases ht25
          refine R_aload_n dX11_ways_61 rfl ?_
          refine R_getR _ (hr _ _ _ rfl) fd11_8 kf11_69 rfl dX11_ways_62 ?_
          refine R_callV (c_X10_howManyBest hr hF1 hw) (mvX10_howManyBest _) kiX10_howManyBest kvX10_howManyBest km11_214 rfl rfl (by decide) ⟨rfl, rfl, by decide, by decide⟩ (Nat.le_of_ble_eq_true rfl) dX11_ways_65 (fun v1 sh1 g1 z1 r1 hq => ?_)
          obtain ⟨rfl, rfl, rfl, rfl, rfl⟩ := hq
          refine R_lreturn rfl (by decide) (by decide) dX11_ways_68 ?_
          exact ⟨Or.inr ⟨hW, hst, _, _, _, _, hA.1, by unfold wayV; rw [if_neg (by omega), if_pos (by omega)]⟩, rfl, rfl⟩
        | 2, ht25 =>
          cases ht25
          refine R_aload_n dX11_ways_69 rfl ?_
          refine R_getR _ (hr _ _ _ rfl) fd11_8 kf11_69 rfl dX11_ways_70 ?_
          refine R_callV (c_X10_howMany hr hF1 hw) (mvX10_howMany _) kiX10_howMany kvX10_howMany km11_218 rfl rfl (by decide) ⟨rfl, rfl, by decide, by decide⟩ (Nat.le_of_ble_eq_true rfl) dX11_ways_73 (fun v1 sh1 g1 z1 r1 hq => ?_)
          obtain ⟨rfl, rfl, rfl, rfl, rfl⟩ := hq
          refine R_lreturn rfl (by decide) (by decide) dX11_ways_76 ?_
          exact ⟨Or.inr ⟨hW, hst, _, _, _, _, hA.1, by unfold wayV; rw [if_neg (by omega), if_neg (by omega), if_pos (by omega)]⟩, rfl, rfl⟩
        | n25 + 3, ht25 => exact absurd (List.getElem?_eq_some_iff.mp ht25).1 (by simp)
      · refine R_aload_n dX11_ways_77 rfl ?_
        refine R_getR _ (hr _ _ _ rfl) fd11_8 kf11_69 rfl dX11_ways_78 ?_
        refine R_callV (c_X10_gap hr hF1 hw ⟨hb.1, hb.2.1⟩) (mvX10_gap _) kiX10_gap kvX10_gap km11_221 rfl rfl (by decide) ⟨rfl, rfl, by decide, by decide⟩ (Nat.le_of_ble_eq_true rfl) dX11_ways_81 (fun v1 sh1 g1 z1 r1 hq => ?_)
        obtain ⟨rfl, rfl, rfl, rfl, rfl⟩ := hq
        refine R_i2l dX11_ways_84 ?_
        refine R_lreturn rfl (by decide) (by decide) dX11_ways_85 ?_
        exact ⟨Or.inr ⟨hW, hst, _, _, _, _, hA.1, by unfold wayV; rw [if_neg (show ¬ w = 0 by omega), if_neg (show ¬ w = 1 by omega), if_neg (show ¬ w = 2 by omega)]⟩, rfl, rfl⟩
    · refine R_ldc2_wC (v := -1) kk11_209 (by decide +kernel) dX11_ways_9 (by decide) ?_
      refine R_lreturn rfl (by decide) (by decide) dX11_ways_12 ?_
      exact ⟨Or.inl ⟨by omega, rfl, rfl, rfl⟩, rfl, rfl⟩
theorem p_sure (K : Nat → CUS) (H : WP g z r K) (i c : Int) : CT (mX11_sure (rmD 9 0 0)) 0 0 shW [vR (some 0), vI i, vI c] g z r (qZ shW r fun v g' z' => (¬ ((0 ≤ i ∧ i < g 11 7) ∧ (c = 6 ∨ (0 ≤ c ∧ c < g 5 5))) ∧ v = some (vI (-1)) ∧ g' = g ∧ z' = z) ∨ (((0 ≤ i ∧ i < g 11 7) ∧ (c = 6 ∨ (0 ≤ c ∧ c < g 5 5))) ∧ (SSt g z g' z' K ∨ (g' = g ∧ z' = z)) ∧ ∃ x, SureIs (WSg g K) i.toNat c.toNat x ∧ v = some (vI x))) := by
  have hr := H.1.1
  have hF := H.1.2.2.2.2.2.2.1
  have hC := H.1.2.2.2.2.2.1
  have hs := H.sbd
  refine CT.of 0 rfl rfl ?_
  by_cases hi : 0 ≤ i ∧ i < g 11 7
  rotate_left
  · refine R_aload_n dX11_sure_0 rfl ?_
    refine R_getR _ (hr _ _ _ rfl) fd11_0 kf11_10 rfl dX11_sure_1 ?_
    refine R_getR _ (hr _ _ _ rfl) fd0_2 kf11_111 rfl dX11_sure_4 ?_
    refine R_iload_n dX11_sure_7 rfl ?_
    refine R_callV (c_X4_has hr i) (mvX4_has _) kiX4_has kvX4_has km11_120 rfl rfl (by decide) ⟨rfl, rfl, by decide, by decide⟩ (Nat.le_of_ble_eq_true rfl) dX11_sure_8 (fun v1 sh1 g1 z1 r1 hq => ?_)
    obtain ⟨rfl, rfl, rfl, rfl, rfl⟩ := hq
    rw [b2i_f hi]
    refine R_if_eq 34 dX11_sure_11 (by decide) (fun hc11 => ?_) (fun hc11 => ?_)
    · refine R_iconst dX11_sure_34 rfl rfl ?_
      refine R_ireturn rfl (by first | rfl | exact nar_b2i | exact nar_bi) (by decide) (by decide) dX11_sure_35 ?_
      exact ⟨Or.inl ⟨fun q => hi q.1, rfl, rfl, rfl⟩, rfl, rfl⟩
    · exact absurd rfl hc11
  obtain ⟨i', rfl⟩ : ∃ i' : Nat, i = (i' : Int) := ⟨i.toNat, by omega⟩
  have eF : ((vC g) 0 2).toNat = (g 11 7).toNat := rfl
  have eC : ((vC g) 0 1).toNat = (g 5 5).toNat := rfl
  have at56 : (c = 6 ∨ (0 ≤ c ∧ c < g 5 5)) → (c = 6 ∨ canTie (vC g) i' c.toNat = true) → RJ (mX11_sure (rmD 9 0 0)) 0 0 shW.length (qZ shW r fun v g' z' => (¬ ((0 ≤ (i' : Int) ∧ (i' : Int) < g 11 7) ∧ (c = 6 ∨ (0 ≤ c ∧ c < g 5 5))) ∧ v = some (vI (-1)) ∧ g' = g ∧ z' = z) ∨ (((0 ≤ (i' : Int) ∧ (i' : Int) < g 11 7) ∧ (c = 6 ∨ (0 ≤ c ∧ c < g 5 5))) ∧ (SSt g z g' z' K ∨ (g' = g ∧ z' = z)) ∧ ∃ x, SureIs (WSg g K) (i' : Int).toNat c.toNat x ∧ v = some (vI x))) 0 0 shW 56 [some (vR (some 0)), some (vI (i' : Int)), some (vI c)] [] g z r := by
    intro hc ht
    obtain ⟨c', rfl⟩ : ∃ c' : Nat, c = (c' : Int) := ⟨c.toNat, by omega⟩
    rw [Int.toNat_natCast] at ht ⊢
    refine R_aload_n dX11_sure_56 rfl ?_
    refine R_getR _ (hr _ _ _ rfl) fd11_8 kf11_69 rfl dX11_sure_57 ?_
    refine R_aload_n dX11_sure_60 rfl ?_
    refine R_getR _ (hr _ _ _ rfl) fd11_4 kf11_41 rfl dX11_sure_61 ?_
    refine R_callV (c_settle K H) (mvX10_settle _) kiX10_settle kvX10_settle km11_202 rfl rfl (by decide) ⟨rfl, rfl, by decide, by decide⟩ (Nat.le_of_ble_eq_true rfl) dX11_sure_64 (fun v1 sh1 g1 z1 r1 hq => ?_)
    obtain ⟨⟨rfl, hst⟩, rfl, rfl⟩ := hq
    obtain ⟨le, co, e46, e47, hA, hL, hw, H1, hne⟩ := hst.get H
    have hS := hA.sure hne (i := i') (c := c') (by omega) (by omega) (WS_tie hs (by rw [eF]; omega) (by rw [eC]; rcases ht with q | q; exact Or.inl (by omega); by_cases h6 : c' = 6; exact Or.inl h6; exact Or.inr ⟨by omega, q⟩))
    refine R_aload_n dX11_sure_67 rfl ?_
    refine R_getR _ (hr _ _ _ rfl) fd11_8 kf11_69 rfl dX11_sure_68 ?_
    refine R_iload_n dX11_sure_71 rfl ?_
    refine R_callV (c_X10_alwaysOf hr H1.2.2.2.2.2.2.1 hw co hA.2.2.2 e47 i' (by omega)) (mvX10_alwaysOf _) kiX10_alwaysOf kvX10_alwaysOf km11_224 rfl rfl (by decide) ⟨rfl, rfl, by decide, by decide⟩ (Nat.le_of_ble_eq_true rfl) dX11_sure_72 (fun v1 sh1 g1 z1 r1 hq => ?_)
    obtain ⟨rfl, rfl, rfl, rfl, rfl⟩ := hq
    refine R_iload_n dX11_sure_75 rfl ?_
    refine R_icmp_ne 83 dX11_sure_76 (by decide) (fun hc76 => ?_) (fun hc76 => ?_)
    · refine R_iconst dX11_sure_83 rfl rfl ?_
      refine R_ireturn rfl (by first | rfl | exact nar_b2i | exact nar_bi) (by decide) (by decide) dX11_sure_84 ?_
      rw [if_neg (by omega)] at hS
      exact ⟨Or.inr ⟨⟨hi, hc⟩, Or.inl hst, 1, hS, rfl⟩, rfl, rfl⟩
    · refine R_iconst dX11_sure_79 rfl rfl ?_
      refine R_goto 84 dX11_sure_80 (by decide) ?_
      refine R_ireturn rfl (by first | rfl | exact nar_b2i | exact nar_bi) (by decide) (by decide) dX11_sure_84 ?_
      rw [if_pos (by omega)] at hS
      exact ⟨Or.inr ⟨⟨hi, hc⟩, Or.inl hst, 2, hS, rfl⟩, rfl, rfl⟩
  refine R_aload_n dX11_sure_0 rfl ?_
  refine R_getR _ (hr _ _ _ rfl) fd11_0 kf11_10 rfl dX11_sure_1 ?_
  refine R_getR _ (hr _ _ _ rfl) fd0_2 kf11_111 rfl dX11_sure_4 ?_
  refine R_iload_n dX11_sure_7 rfl ?_
  refine R_callV (c_X4_has hr (i' : Int)) (mvX4_has _) kiX4_has kvX4_has km11_120 rfl rfl (by decide) ⟨rfl, rfl, by decide, by decide⟩ (Nat.le_of_ble_eq_true rfl) dX11_sure_8 (fun v1 sh1 g1 z1 r1 hq => ?_)
  obtain ⟨rfl, rfl, rfl, rfl, rfl⟩ := hq
  rw [b2i_t hi]
  refine R_if_eq 34 dX11_sure_11 (by decide) (fun hc11 => ?_) (fun hc11 => ?_)
  · exact absurd hc11 (by decide)
  refine R_iload_n dX11_sure_14 rfl ?_
  refine R_bipush dX11_sure_15 rfl (by decide +kernel) ?_
  refine R_icmp_eq 36 dX11_sure_17 (by decide) (fun hc17 => ?_) (fun hc17 => ?_)
  · refine R_iload_n dX11_sure_36 rfl ?_
    refine R_bipush dX11_sure_37 rfl (by decide +kernel) ?_
    refine R_icmp_eq 56 dX11_sure_39 (by decide) (fun hd39 => ?_) (fun hd39 => ?_)
    · exact at56 (Or.inl hc17) (Or.inl hc17)
    · exact absurd hc17 hd39
  refine R_aload_n dX11_sure_20 rfl ?_
  refine R_getR _ (hr _ _ _ rfl) fd11_0 kf11_10 rfl dX11_sure_21 ?_
  refine R_getR _ (hr _ _ _ rfl) fd0_1 kf11_91 rfl dX11_sure_24 ?_
  refine R_iload_n dX11_sure_27 rfl ?_
  refine R_callV (c_X1_has hr c) (mvX1_has _) kiX1_has kvX1_has km11_100 rfl rfl (by decide) ⟨rfl, rfl, by decide, by decide⟩ (Nat.le_of_ble_eq_true rfl) dX11_sure_28 (fun v1 sh1 g1 z1 r1 hq => ?_)
  obtain ⟨rfl, rfl, rfl, rfl, rfl⟩ := hq
  by_cases hc : 0 ≤ c ∧ c < g 5 5
  · rw [b2i_t hc]
    refine R_if_ne 36 dX11_sure_31 (by decide) (fun hc31 => ?_) (fun hc31 => ?_)
    · refine R_iload_n dX11_sure_36 rfl ?_
      refine R_bipush dX11_sure_37 rfl (by decide +kernel) ?_
      refine R_icmp_eq 56 dX11_sure_39 (by decide) (fun hc39 => ?_) (fun hc39 => ?_)
      · exact absurd hc39 hc17
      refine R_aload_n dX11_sure_42 rfl ?_
      refine R_getR _ (hr _ _ _ rfl) fd11_0 kf11_10 rfl dX11_sure_43 ?_
      refine R_iload_n dX11_sure_46 rfl ?_
      refine R_iload_n dX11_sure_47 rfl ?_
      refine R_callV (c_X0_canTie hr (i' : Int) c (by omega) (by omega)) (mvX0_canTie _) kiX0_canTie kvX0_canTie km11_163 rfl rfl (by decide) ⟨rfl, rfl, by decide, by decide⟩ (Nat.le_of_ble_eq_true rfl) dX11_sure_48 (fun v1 sh1 g1 z1 r1 hq => ?_)
      obtain ⟨rfl, rfl, rfl, rfl, rfl⟩ := hq
      rw [Int.toNat_natCast]
      by_cases hct : canTie (vC g) i' c.toNat = true
      · rw [bi_t hct]
        refine R_if_ne 56 dX11_sure_51 (by decide) (fun hc51 => ?_) (fun hc51 => ?_)
        · exact at56 (Or.inr hc) (Or.inr hct)
        · exact absurd hc51 (by decide)
      · rw [bi_f hct]
        refine R_if_ne 56 dX11_sure_51 (by decide) (fun hc51 => ?_) (fun hc51 => ?_)
        · exact absurd rfl hc51
        · refine R_iconst dX11_sure_54 rfl rfl ?_
          refine R_ireturn rfl (by first | rfl | exact nar_b2i | exact nar_bi) (by decide) (by decide) dX11_sure_55 ?_
          obtain ⟨m, hm⟩ := max_ex (WSg g K) (WS_ne hs)
          refine ⟨Or.inr ⟨⟨hi, Or.inr hc⟩, Or.inr ⟨rfl, rfl⟩, 0, ⟨m, hm.1, hm.2, Or.inr (Or.inl ⟨rfl, ?_⟩)⟩, rfl⟩, rfl, rfl⟩
          exact WS_no hs (by rw [eF]; omega) (by rw [eC]; omega) hct
    · exact absurd hc31 (by decide)
  · rw [b2i_f hc]
    refine R_if_ne 36 dX11_sure_31 (by decide) (fun hc31 => ?_) (fun hc31 => ?_)
    · exact absurd rfl hc31
    · refine R_iconst dX11_sure_34 rfl rfl ?_
      refine R_ireturn rfl (by first | rfl | exact nar_b2i | exact nar_bi) (by decide) (by decide) dX11_sure_35 ?_
      exact ⟨Or.inl ⟨fun q => by rcases q.2 with e | e; exact hc17 e; exact hc e, rfl, rfl, rfl⟩, rfl, rfl⟩
end WREAD
