section LDC
variable {M : MI} {mc ms n0 : Nat} {Q : PQ} {ce sl : Nat} {sh : SH} {pc : Nat} {ls : List (Option AV)} {st : List AV} {g z : GG} {r : RR}
theorem R_ldcC {index : Nat} {v : Int} {v32 : Int32} (hk : Cond.constant M.1.cls index v32 ∈ TB) (hv : v32 = i32 v) (hd : decode M.2.1 pc = .ok (.ldc index, 2)) (h0 : decide (-2147483648 ≤ v ∧ v < 2147483648) = true) (kk : RJ M mc ms n0 Q ce sl sh (pc + 2) ls (vI v :: st) g z r) : RJ M mc ms n0 Q ce sl sh pc ls st g z r := R_ldc (by rw [← hv]; exact hk) hd h0 kk
theorem R_ldc_wC {index : Nat} {v : Int} {v32 : Int32} (hk : Cond.constant M.1.cls index v32 ∈ TB) (hv : v32 = i32 v) (hd : decode M.2.1 pc = .ok (.ldc_w index, 3)) (h0 : decide (-2147483648 ≤ v ∧ v < 2147483648) = true) (kk : RJ M mc ms n0 Q ce sl sh (pc + 3) ls (vI v :: st) g z r) : RJ M mc ms n0 Q ce sl sh pc ls st g z r := R_ldc_w (by rw [← hv]; exact hk) hd h0 kk
theorem R_ldc2_wC {index : Nat} {v : Int} {v64 : Int64} (hk : Cond.constantLong M.1.cls index v64 ∈ TB) (hv : v64 = i64 v) (hd : decode M.2.1 pc = .ok (.ldc2_w index, 3)) (h0 : decide (-9223372036854775808 ≤ v ∧ v < 9223372036854775808) = true) (kk : RJ M mc ms n0 Q ce sl sh (pc + 3) ls (vL v :: st) g z r) : RJ M mc ms n0 Q ce sl sh pc ls st g z r := R_ldc2_w (by rw [← hv]; exact hk) hd h0 kk
end LDC
def gainS (s : VW) (i : Nat) (nd : Int) : Int := if nd = -2 then 0 else if s 8 i = nd then s 2 (s 8 i).toNat else - s 0 3
/-- POINTS of the first k children whose letter is w, by NAME v -/
def gU (s : VW) (L : Nat → Int) (l : List Nat) (w v : Int) : Nat → Int
  | 0 => 0
  | k + 1 => gU s L l w v k + (if L k = w then gainS s (l.getD k 0) v else 0)
def nfA (s : VW) (L : Nat → Int) (l : List Nat) (w : Nat) : Nat → Nat × Int
  | 0 => (0, -1000000)
  | v + 1 => if s 1 v = ((w % 2 : Nat) : Int) then (if (nfA s L l w v).2 < gU s L l w v l.length then 2 ^ v else if gU s L l w v l.length = (nfA s L l w v).2 then (nfA s L l w v).1 ||| 2 ^ v else (nfA s L l w v).1, if (nfA s L l w v).2 < gU s L l w v l.length then gU s L l w v l.length else (nfA s L l w v).2) else nfA s L l w v
def anyL (L : Nat → Int) (n : Nat) (w : Int) : Bool := (List.range n).any (fun j => decide (L j = w))
/-- the NAMES by which the children named for parent w have most POINTS -/
def nfS (s : VW) (L : Nat → Int) (l : List Nat) (w : Nat) : Nat := if anyL L l.length w then (nfA s L l w (s 0 0).toNat).1 else 0
def lowF (b : Nat) : Nat → Nat → Int
  | 0, _ => -1
  | n + 1, k => if b.testBit k then (k : Int) else lowF b n (k + 1)
def low (b : Nat) : Int := lowF b 16 0
def dueG (g : GG) (c : Nat) (l : List Nat) (j : Nat) : Int := if g 34 j < 0 then -2 else if g 34 j < 4 then g 36 (g 34 j).toNat else if g 34 j = 4 then g 6 c else if g 34 j = 5 then g 7 c else if g 34 j = 6 then g 16 (l.getD j 0) else g 35 j
def BD2 (g : GG) : Prop := (∀ j, 0 ≤ g 4 j ∧ g 4 j ≤ 100) ∧ 0 ≤ g 1 3 ∧ g 1 3 ≤ 100
theorem gainS_b {g : GG} (h : BD2 g) (i : Nat) (v : Int) : -100 ≤ gainS (vC g) i v ∧ gainS (vC g) i v ≤ 100 := by
  have h1 := h.1 ((vC g) 8 i).toNat
  have h2 : (vC g) 2 ((vC g) 8 i).toNat = g 4 ((vC g) 8 i).toNat := rfl
  have h3 : (vC g) 0 3 = g 1 3 := rfl
  have h4 := h.2
  unfold gainS
  rw [h2, h3]
  split
  · omega
  · split <;> omega
theorem gU_b {g : GG} (h : BD2 g) (L : Nat → Int) (l : List Nat) (w v : Int) (k : Nat) : -100 * (k : Int) ≤ gU (vC g) L l w v k ∧ gU (vC g) L l w v k ≤ 100 * (k : Int) := by
  induction k with
  | zero => simp [gU]
  | succ k ih =>
    unfold gU
    have := gainS_b h (l.getD k 0) v
    split <;> omega
theorem nfA_lt {s : VW} {L : Nat → Int} {l : List Nat} {w : Nat} (v : Nat) : (nfA s L l w v).1 < 2 ^ v := by
  induction v with
  | zero => simp [nfA]
  | succ v ih =>
    have h2 : 2 ^ v < 2 ^ (v + 1) := Nat.pow_lt_pow_right (by decide) (by omega)
    unfold nfA
    split
    · simp only
      split
      · exact h2
      · split
        · exact Nat.or_lt_two_pow (by omega) h2
        · omega
    · omega
section GAIN
variable {g z : GG} {r : RR}
theorem c_X3_letterAt (hr : RS r) (l : List Nat) (hl : FamIs g l) (hll : l.length ≤ 10) (j : Nat) (hj : j < l.length) : CT (mX3_letterAt (rmD 0 0 0)) 0 0 shW [vR (some 32), vI (j : Int)] g z r (qP shW g z r (some (vI (g 34 j)))) := by
  have h1 := hl.1
  refine CT.of 0 rfl rfl ?_
  refine R_iload_n dX3_letterAt_0 rfl ?_
  refine R_if_lt 21 dX3_letterAt_1 (by decide) (fun hc1 => ?_) (fun hc1 => ?_)
  · refine R_iconst dX3_letterAt_21 rfl rfl ?_
    refine R_ireturn rfl (by first | rfl | exact nar_b2i | exact nar_bi) (by decide) (by decide) dX3_letterAt_22 ?_
    first | (exfalso; omega) | exact ⟨by rw [Int.toNat_natCast], rfl, rfl, rfl, rfl⟩
  · refine R_iload_n dX3_letterAt_4 rfl ?_
    refine R_aload_n dX3_letterAt_5 rfl ?_
    refine R_getI fd3_8 kf3_46 rfl dX3_letterAt_6 ?_
    refine R_icmp_ge 21 dX3_letterAt_9 (by decide) (fun hc9 => ?_) (fun hc9 => ?_)
    · refine R_iconst dX3_letterAt_21 rfl rfl ?_
      refine R_ireturn rfl (by first | rfl | exact nar_b2i | exact nar_bi) (by decide) (by decide) dX3_letterAt_22 ?_
      first | (exfalso; omega) | exact ⟨by rw [Int.toNat_natCast], rfl, rfl, rfl, rfl⟩
    · refine R_aload_n dX3_letterAt_12 rfl ?_
      refine R_getR _ (hr _ _ _ rfl) fd3_2 kf3_15 rfl dX3_letterAt_13 ?_
      refine R_iload_n dX3_letterAt_16 rfl ?_
      refine R_iald rfl (by omega) (by omega) dX3_letterAt_17 ?_
      refine R_goto 22 dX3_letterAt_18 (by decide) ?_
      refine R_ireturn rfl (by first | rfl | exact nar_b2i | exact nar_bi) (by decide) (by decide) dX3_letterAt_22 ?_
      first | (exfalso; omega) | exact ⟨by rw [Int.toNat_natCast], rfl, rfl, rfl, rfl⟩
theorem c_X3_due (hr : RS r) (c : Nat) (hc6 : c < 6) (hgc : g 32 7 = (c : Int)) (l : List Nat) (hl : FamIs g l) (hm : ∀ a ∈ l, a < 10) (hll : l.length ≤ 10) (j : Nat) (hj : j < l.length) : CT (mX3_due (rmD 1 0 0)) 0 0 shW [vR (some 32), vI (j : Int)] g z r (qP shW g z r (some (vI (dueG g c l j)))) := by
  refine CT.of 1 rfl rfl ?_
  have ha := hm _ (getD_mem hj)
  have hgj := fam_at hl hj
  refine R_aload_n dX3_due_0 rfl ?_
  refine R_iload_n dX3_due_1 rfl ?_
  refine R_callV (c_X3_letterAt hr l hl hll j hj) (mvX3_letterAt _) kiX3_letterAt kvX3_letterAt km3_145 rfl rfl (by decide) ⟨rfl, rfl, by decide, by decide⟩ (Nat.le_of_ble_eq_true rfl) dX3_due_2 (fun v1 sh1 g1 z1 r1 hq => ?_)
  obtain ⟨rfl, rfl, rfl, rfl, rfl⟩ := hq
  refine R_istore_n dX3_due_5 (by decide) rfl [_, _, _] rfl ?_
  refine R_iload_n dX3_due_6 rfl ?_
  refine R_if_ge 13 dX3_due_7 (by decide) (fun hc7 => ?_) (fun hc7 => ?_)
  · refine R_iload_n dX3_due_13 rfl ?_
    refine R_iconst dX3_due_14 rfl rfl ?_
    refine R_icmp_ge 25 dX3_due_15 (by decide) (fun hc15 => ?_) (fun hc15 => ?_)
    · refine R_iload_n dX3_due_25 rfl ?_
      refine R_ts [52, 68, 84] 102 dX3_due_26 (by decide) (by decide) (by decide) (fun i26 t26 ht26 ha26 => ?_) (fun hc26 => ?_)
      · match i26, ht26 with
        | 0, ht26 =>
          cases ht26
          refine R_aload_n dX3_due_52 rfl ?_
          refine R_getR _ (hr _ _ _ rfl) fd3_0 kf3_38 rfl dX3_due_53 ?_
          refine R_getR _ (hr _ _ _ rfl) fd0_1 kf3_109 rfl dX3_due_56 ?_
          refine R_getR _ (hr _ _ _ rfl) fd1_0 kf3_148 rfl dX3_due_59 ?_
          refine R_aload_n dX3_due_62 rfl ?_
          refine R_getI fd3_7 kf3_42 rfl dX3_due_63 ?_
          refine R_iald rfl (by first | omega | (rw [Int.toNat_natCast, hgj]; omega)) (by first | omega | (rw [Int.toNat_natCast, hgj]; omega)) dX3_due_66 ?_
          refine R_ireturn rfl (by first | rfl | exact nar_b2i | exact nar_bi) (by decide) (by decide) dX3_due_67 ?_
          exact ⟨by rw [dueG, if_neg (by omega), if_neg (by omega), if_pos (by omega), hgc, Int.toNat_natCast], rfl, rfl, rfl, rfl⟩
        | 1, ht26 =>
          cases ht26
          refine R_aload_n dX3_due_68 rfl ?_
          refine R_getR _ (hr _ _ _ rfl) fd3_0 kf3_38 rfl dX3_due_69 ?_
          refine R_getR _ (hr _ _ _ rfl) fd0_1 kf3_109 rfl dX3_due_72 ?_
          refine R_getR _ (hr _ _ _ rfl) fd1_1 kf3_151 rfl dX3_due_75 ?_
          refine R_aload_n dX3_due_78 rfl ?_
          refine R_getI fd3_7 kf3_42 rfl dX3_due_79 ?_
          refine R_iald rfl (by first | omega | (rw [Int.toNat_natCast, hgj]; omega)) (by first | omega | (rw [Int.toNat_natCast, hgj]; omega)) dX3_due_82 ?_
          refine R_ireturn rfl (by first | rfl | exact nar_b2i | exact nar_bi) (by decide) (by decide) dX3_due_83 ?_
          exact ⟨by rw [dueG, if_neg (by omega), if_neg (by omega), if_neg (by omega), if_pos (by omega), hgc, Int.toNat_natCast], rfl, rfl, rfl, rfl⟩
        | 2, ht26 =>
          cases ht26
          refine R_aload_n dX3_due_84 rfl ?_
          refine R_getR _ (hr _ _ _ rfl) fd3_0 kf3_38 rfl dX3_due_85 ?_
          refine R_getR _ (hr _ _ _ rfl) fd0_2 kf3_49 rfl dX3_due_88 ?_
          refine R_getR _ (hr _ _ _ rfl) fd4_4 kf3_133 rfl dX3_due_91 ?_
          refine R_aload_n dX3_due_94 rfl ?_
          refine R_getR _ (hr _ _ _ rfl) fd3_1 kf3_9 rfl dX3_due_95 ?_
          refine R_iload_n dX3_due_98 rfl ?_
          refine R_iald rfl (by first | omega | (rw [Int.toNat_natCast, hgj]; omega)) (by first | omega | (rw [Int.toNat_natCast, hgj]; omega)) dX3_due_99 ?_
          refine R_iald rfl (by first | omega | (rw [Int.toNat_natCast, hgj]; omega)) (by first | omega | (rw [Int.toNat_natCast, hgj]; omega)) dX3_due_100 ?_
          refine R_ireturn rfl (by first | rfl | exact nar_b2i | exact nar_bi) (by decide) (by decide) dX3_due_101 ?_
          exact ⟨by rw [dueG, if_neg (by omega), if_neg (by omega), if_neg (by omega), if_neg (by omega), if_pos (by omega), Int.toNat_natCast, hgj, Int.toNat_natCast], rfl, rfl, rfl, rfl⟩
        | n26 + 3, ht26 => exact absurd (List.getElem?_eq_some_iff.mp ht26).1 (by simp)
      · refine R_aload_n dX3_due_102 rfl ?_
        refine R_getR _ (hr _ _ _ rfl) fd3_3 kf3_18 rfl dX3_due_103 ?_
        refine R_iload_n dX3_due_106 rfl ?_
        refine R_iald rfl (by first | omega | (rw [Int.toNat_natCast, hgj]; omega)) (by first | omega | (rw [Int.toNat_natCast, hgj]; omega)) dX3_due_107 ?_
        refine R_ireturn rfl (by first | rfl | exact nar_b2i | exact nar_bi) (by decide) (by decide) dX3_due_108 ?_
        exact ⟨by rw [dueG, if_neg (by omega), if_neg (by omega), if_neg (by omega), if_neg (by omega), if_neg (by omega), Int.toNat_natCast], rfl, rfl, rfl, rfl⟩
    · refine R_aload_n dX3_due_18 rfl ?_
      refine R_getR _ (hr _ _ _ rfl) fd3_4 kf3_21 rfl dX3_due_19 ?_
      refine R_iload_n dX3_due_22 rfl ?_
      refine R_iald rfl (by first | omega | (rw [Int.toNat_natCast, hgj]; omega)) (by first | omega | (rw [Int.toNat_natCast, hgj]; omega)) dX3_due_23 ?_
      refine R_ireturn rfl (by first | rfl | exact nar_b2i | exact nar_bi) (by decide) (by decide) dX3_due_24 ?_
      exact ⟨by rw [dueG, if_neg (by omega), if_pos (by omega)], rfl, rfl, rfl, rfl⟩
  · refine R_bipush dX3_due_10 rfl (by decide +kernel) ?_
    refine R_ireturn rfl (by first | rfl | exact nar_b2i | exact nar_bi) (by decide) (by decide) dX3_due_12 ?_
    exact ⟨by rw [dueG, if_pos (by omega)], rfl, rfl, rfl, rfl⟩
theorem c_X3_gain (hr : RS r) (hB : BD g) (hB2 : BD2 g) (l : List Nat) (hl : FamIs g l) (hm : ∀ a ∈ l, a < 10) (hll : l.length ≤ 10) (j : Nat) (hj : j < l.length) (nd : Int) : CT (mX3_gain (rmD 0 0 0)) 0 0 shW [vR (some 32), vI (j : Int), vI nd] g z r (qP shW g z r (some (vI (gainS (vC g) (l.getD j 0) nd)))) := by
  have e : gainS (vC g) (l.getD j 0) nd = if nd = -2 then 0 else if g 12 (l.getD j 0) = nd then g 4 (g 12 (l.getD j 0)).toNat else - g 1 3 := rfl
  rw [e]
  refine CT.of 1 rfl rfl ?_
  have ha := hm _ (getD_mem hj)
  have hgj := fam_at hl hj
  have hn := hB.2.1 (l.getD j 0)
  have h2 := hB2.2
  refine R_iload_n dX3_gain_0 rfl ?_
  refine R_bipush dX3_gain_1 rfl (by decide +kernel) ?_
  refine R_icmp_ne 8 dX3_gain_3 (by decide) (fun hc3 => ?_) (fun hc3 => ?_)
  · refine R_aload_n dX3_gain_8 rfl ?_
    refine R_getR _ (hr _ _ _ rfl) fd3_0 kf3_38 rfl dX3_gain_9 ?_
    refine R_getR _ (hr _ _ _ rfl) fd0_2 kf3_49 rfl dX3_gain_12 ?_
    refine R_getR _ (hr _ _ _ rfl) fd4_0 kf3_72 rfl dX3_gain_15 ?_
    refine R_aload_n dX3_gain_18 rfl ?_
    refine R_getR _ (hr _ _ _ rfl) fd3_1 kf3_9 rfl dX3_gain_19 ?_
    refine R_iload_n dX3_gain_22 rfl ?_
    refine R_iald rfl (by omega) (by omega) dX3_gain_23 ?_
    rw [Int.toNat_natCast, hgj]
    refine R_iald rfl (by omega) (by omega) dX3_gain_24 ?_
    rw [Int.toNat_natCast]
    refine R_istore_n dX3_gain_25 (by decide) rfl [_, _, _, _] rfl ?_
    refine R_iload_n dX3_gain_26 rfl ?_
    refine R_iload_n dX3_gain_27 rfl ?_
    refine R_icmp_ne 46 dX3_gain_28 (by decide) (fun hc28 => ?_) (fun hc28 => ?_)
    · refine R_aload_n dX3_gain_46 rfl ?_
      refine R_getR _ (hr _ _ _ rfl) fd3_0 kf3_38 rfl dX3_gain_47 ?_
      refine R_getI fd0_3 kf3_157 rfl dX3_gain_50 ?_
      refine R_inegN dX3_gain_53 (by unfold inI; omega) ?_
      refine R_ireturn rfl (by first | rfl | exact nar_b2i | exact nar_bi) (by decide) (by decide) dX3_gain_54 ?_
      first | exact ⟨by rw [if_neg hc3, if_neg hc28], rfl, rfl, rfl, rfl⟩ | exact ⟨by rw [if_neg hc3, if_pos hc28], rfl, rfl, rfl, rfl⟩
    · refine R_aload_n dX3_gain_31 rfl ?_
      refine R_getR _ (hr _ _ _ rfl) fd3_0 kf3_38 rfl dX3_gain_32 ?_
      refine R_getR _ (hr _ _ _ rfl) fd0_0 kf3_136 rfl dX3_gain_35 ?_
      refine R_getR _ (hr _ _ _ rfl) fd5_1 kf3_154 rfl dX3_gain_38 ?_
      refine R_iload_n dX3_gain_41 rfl ?_
      refine R_iald rfl (by omega) (by omega) dX3_gain_42 ?_
      refine R_goto 54 dX3_gain_43 (by decide) ?_
      refine R_ireturn rfl (by first | rfl | exact nar_b2i | exact nar_bi) (by decide) (by decide) dX3_gain_54 ?_
      first | exact ⟨by rw [if_neg hc3, if_neg hc28], rfl, rfl, rfl, rfl⟩ | exact ⟨by rw [if_neg hc3, if_pos hc28], rfl, rfl, rfl, rfl⟩
  · refine R_iconst dX3_gain_6 rfl rfl ?_
    refine R_ireturn rfl (by first | rfl | exact nar_b2i | exact nar_bi) (by decide) (by decide) dX3_gain_7 ?_
    exact ⟨by rw [if_pos hc3], rfl, rfl, rfl, rfl⟩
theorem c_X3_gainOfAll (hr : RS r) (hB : BD g) (hB2 : BD2 g) (l : List Nat) (hl : FamIs g l) (hm : ∀ a ∈ l, a < 10) (hll : l.length ≤ 10) (w nd : Int) : CT (mX3_gainOfAll (rmD 1 0 0)) 0 0 shW [vR (some 32), vI w, vI nd] g z r (qP shW g z r (some (vI (gU (vC g) (g 34) l w nd l.length)))) := by
  refine CT.of 2 rfl rfl ?_
  generalize hQ : (qP shW g z r (some (vI (gU (vC g) (g 34) l w nd l.length)))) = Q
  have loop : ∀ (n k : Nat), k + n = l.length → RJ (mX3_gainOfAll (rmD 1 0 0)) 0 0 shW.length Q 0 0 shW 5 [some (vR (some 32)), some (vI (w)), some (vI (nd)), some (vI (gU (vC g) (g 34) l w nd k)), some (vI ((k : Int)))] [] g z r := by
    intro n
    induction n with
    | zero =>
      intro k hk
      refine R_iload dX3_gainOfAll_5 rfl ?_
      refine R_aload_n dX3_gainOfAll_7 rfl ?_
      refine R_getI fd3_8 kf3_46 rfl dX3_gainOfAll_8 ?_
      rw [hl.1]
      refine R_icmp_ge 41 dX3_gainOfAll_11 (by decide) (fun hc11 => ?_) (fun hc11 => ?_)
      · refine R_iload_n dX3_gainOfAll_41 rfl ?_
        refine R_ireturn rfl (by first | rfl | exact nar_b2i | exact nar_bi) (by decide) (by decide) dX3_gainOfAll_42 ?_
        rw [← hQ]
        exact ⟨by rw [show l.length = k by omega], rfl, rfl, rfl, rfl⟩
      · exact absurd (by omega) hc11
    | succ n ih =>
      intro k hk
      have hb := gU_b hB2 (g 34) l w nd k
      have hb1 := gainS_b hB2 (l.getD k 0) nd
      have hn := ih (k + 1) (by omega)
      rw [gU] at hn
      refine R_iload dX3_gainOfAll_5 rfl ?_
      refine R_aload_n dX3_gainOfAll_7 rfl ?_
      refine R_getI fd3_8 kf3_46 rfl dX3_gainOfAll_8 ?_
      rw [hl.1]
      refine R_icmp_ge 41 dX3_gainOfAll_11 (by decide) (fun hc11 => ?_) (fun hc11 => ?_)
      · exact absurd hc11 (by omega)
      refine R_aload_n dX3_gainOfAll_14 rfl ?_
      refine R_getR _ (hr _ _ _ rfl) fd3_2 kf3_15 rfl dX3_gainOfAll_15 ?_
      refine R_iload dX3_gainOfAll_18 rfl ?_
      refine R_iald rfl (by omega) (by omega) dX3_gainOfAll_20 ?_
      rw [Int.toNat_natCast]
      refine R_iload_n dX3_gainOfAll_21 rfl ?_
      refine R_icmp_ne 35 dX3_gainOfAll_22 (by decide) (fun hc22 => ?_) (fun hc22 => ?_)
      · refine R_iincN dX3_gainOfAll_35 rfl (by decide) rfl (by unfold inI; omega) [_, _, _, _, _] rfl ?_
        refine R_goto 5 dX3_gainOfAll_38 (by decide) ?_
        rw [if_neg hc22, Int.add_zero] at hn
        exact hn
      · refine R_iload_n dX3_gainOfAll_25 rfl ?_
        refine R_aload_n dX3_gainOfAll_26 rfl ?_
        refine R_iload dX3_gainOfAll_27 rfl ?_
        refine R_iload_n dX3_gainOfAll_29 rfl ?_
        refine R_callV (c_X3_gain hr hB hB2 l hl hm hll k (by omega) nd) (mvX3_gain _) kiX3_gain kvX3_gain km3_90 rfl rfl (by decide) ⟨rfl, rfl, by decide, by decide⟩ (Nat.le_of_ble_eq_true rfl) dX3_gainOfAll_30 (fun v1 sh1 g1 z1 r1 hq => ?_)
        obtain ⟨rfl, rfl, rfl, rfl, rfl⟩ := hq
        refine R_iaddN dX3_gainOfAll_33 (by unfold inI; omega) ?_
        refine R_istore_n dX3_gainOfAll_34 (by decide) rfl [_, _, _, _, _] rfl ?_
        refine R_iincN dX3_gainOfAll_35 rfl (by decide) rfl (by unfold inI; omega) [_, _, _, _, _] rfl ?_
        refine R_goto 5 dX3_gainOfAll_38 (by decide) ?_
        rw [if_pos hc22] at hn
        exact hn
  refine R_iconst dX3_gainOfAll_0 rfl rfl ?_
  refine R_istore_n dX3_gainOfAll_1 (by decide) rfl [_, _, _, _, _] rfl ?_
  refine R_iconst dX3_gainOfAll_2 rfl rfl ?_
  refine R_istore dX3_gainOfAll_3 (by decide) rfl [_, _, _, _, _] rfl ?_
  exact loop l.length 0 (by omega)
theorem c_X3_lowest (b : Nat) (hb : b < 65536) : CT (mX3_lowest (rmD 0 0 0)) 0 0 shW [vI (b : Int)] g z r (qP shW g z r (some (vI (low b)))) := by
  refine CT.of 1 rfl rfl ?_
  generalize hX : low b = X
  generalize hQ : (qP shW g z r (some (vI X))) = Q
  have loop : ∀ (n k : Nat), k + n = 16 → lowF b n k = X → RJ (mX3_lowest (rmD 0 0 0)) 0 0 shW.length Q 0 0 shW 2 [some (vI ((b : Int))), some (vI ((k : Int)))] [] g z r := by
    intro n
    induction n with
    | zero =>
      intro k hk hx
      refine R_iload_n dX3_lowest_2 rfl ?_
      refine R_bipush dX3_lowest_3 rfl (by decide +kernel) ?_
      refine R_icmp_ge 25 dX3_lowest_5 (by decide) (fun hc5 => ?_) (fun hc5 => ?_)
      · refine R_iconst dX3_lowest_25 rfl rfl ?_
        refine R_ireturn rfl (by first | rfl | exact nar_b2i | exact nar_bi) (by decide) (by decide) dX3_lowest_26 ?_
        rw [← hQ]
        exact ⟨by rw [← hx]; rfl, rfl, rfl, rfl, rfl⟩
      · exact absurd (by omega) hc5
    | succ n ih =>
      intro k hk hx
      rw [lowF] at hx
      refine R_iload_n dX3_lowest_2 rfl ?_
      refine R_bipush dX3_lowest_3 rfl (by decide +kernel) ?_
      refine R_icmp_ge 25 dX3_lowest_5 (by decide) (fun hc5 => ?_) (fun hc5 => ?_)
      · exact absurd hc5 (by omega)
      refine R_iload_n dX3_lowest_8 rfl ?_
      refine R_iload_n dX3_lowest_9 rfl ?_
      refine R_ishr dX3_lowest_10 ?_
      refine R_iconst dX3_lowest_11 rfl rfl ?_
      refine R_iand dX3_lowest_12 ?_
      rw [bit_n (by omega) (by omega)]
      by_cases hbk : b.testBit k = true
      · rw [if_pos hbk]
        rw [if_pos hbk] at hx
        refine R_iconst dX3_lowest_13 rfl rfl ?_
        refine R_icmp_ne 19 dX3_lowest_14 (by decide) (fun hc14 => ?_) (fun hc14 => ?_)
        · exact absurd rfl hc14
        refine R_iload_n dX3_lowest_17 rfl ?_
        refine R_ireturn rfl (by first | rfl | exact nar_b2i | exact nar_bi) (by decide) (by decide) dX3_lowest_18 ?_
        rw [← hQ]
        exact ⟨by rw [hx], rfl, rfl, rfl, rfl⟩
      · rw [if_neg hbk]
        rw [if_neg hbk] at hx
        refine R_iconst dX3_lowest_13 rfl rfl ?_
        refine R_icmp_ne 19 dX3_lowest_14 (by decide) (fun hc14 => ?_) (fun hc14 => ?_)
        · refine R_iincN dX3_lowest_19 rfl (by decide) rfl (by unfold inI; omega) [_, _] rfl ?_
          refine R_goto 2 dX3_lowest_22 (by decide) ?_
          exact ih (k + 1) (by omega) hx
        · exact absurd hc14 (by decide)
  refine R_iconst dX3_lowest_0 rfl rfl ?_
  refine R_istore_n dX3_lowest_1 (by decide) rfl [_, _] rfl ?_
  exact loop 16 0 (by omega) hX
theorem c_X3_namesFor (hr : RS r) (hB : BD g) (hB2 : BD2 g) (hN : 0 ≤ g 2 2 ∧ g 2 2 ≤ 16) (l : List Nat) (hl : FamIs g l) (hm : ∀ a ∈ l, a < 10) (hll : l.length ≤ 10) (w : Nat) (hw : w < 4) : CT (mX3_namesFor (rmD 2 0 0)) 0 0 shW [vR (some 32), vI (w : Int)] g z r (qP shW g z r (some (vI (nfS (vC g) (g 34) l w : Nat)))) := by
  refine CT.of 5 rfl rfl ?_
  generalize hQ : (qP shW g z r (some (vI (nfS (vC g) (g 34) l w : Nat)))) = Q
  have hwb : bAnd (w : Int) 1 = ((w % 2 : Nat) : Int) := by
    have := bAnd_w (w := (w : Int)) (by omega)
    rw [this]; omega
  have e1 : (vC g) 0 0 = g 2 2 := rfl
  have inner : anyL (g 34) l.length w = true → ∀ (n v : Nat) (a6 : Option AV), (v : Int) + n = g 2 2 → RJ (mX3_namesFor (rmD 2 0 0)) 0 0 shW.length Q 0 0 shW 47 [some (vR (some 32)), some (vI (w : Int)), some (vI 1), some (vI ((nfA (vC g) (g 34) l w v).1 : Nat)), some (vI (nfA (vC g) (g 34) l w v).2), some (vI (v : Int)), a6] [] g z r := by
    intro hany n
    induction n with
    | zero =>
      intro v a6 hv
      refine R_iload_n dX3_namesFor_47 rfl ?_
      refine R_if_eq 141 dX3_namesFor_48 (by decide) (fun hc48 => ?_) (fun hc48 => ?_)
      · exact absurd hc48 (by decide)
      refine R_iload dX3_namesFor_51 rfl ?_
      refine R_aload_n dX3_namesFor_53 rfl ?_
      refine R_getR _ (hr _ _ _ rfl) fd3_0 kf3_38 rfl dX3_namesFor_54 ?_
      refine R_getR _ (hr _ _ _ rfl) fd0_0 kf3_136 rfl dX3_namesFor_57 ?_
      refine R_getI fd5_2 kf3_160 rfl dX3_namesFor_60 ?_
      refine R_icmp_ge 141 dX3_namesFor_63 (by decide) (fun hc63 => ?_) (fun hc63 => ?_)
      · refine R_iload_n dX3_namesFor_141 rfl ?_
        refine R_ireturn rfl (by first | rfl | exact nar_b2i | exact nar_bi) (by decide) (by decide) dX3_namesFor_142 ?_
        rw [← hQ]
        exact ⟨by rw [nfS, if_pos hany, e1, show (g 2 2).toNat = v by omega], rfl, rfl, rfl, rfl⟩
      · exact absurd (by omega) hc63
    | succ n ih =>
      intro v a6 hv
      have hlt := nfA_lt (s := vC g) (L := g 34) (l := l) (w := w) v
      have hp : 2 ^ v < 65536 := Nat.pow_lt_pow_right (n := 16) (by decide) (by omega)
      have hb := gU_b hB2 (g 34) l w v l.length
      have esx : (vC g) 1 v = g 3 v := rfl
      have hn := fun a6 => ih (v + 1) a6 (by omega)
      rw [nfA, esx] at hn
      refine R_iload_n dX3_namesFor_47 rfl ?_
      refine R_if_eq 141 dX3_namesFor_48 (by decide) (fun hc48 => ?_) (fun hc48 => ?_)
      · exact absurd hc48 (by decide)
      refine R_iload dX3_namesFor_51 rfl ?_
      refine R_aload_n dX3_namesFor_53 rfl ?_
      refine R_getR _ (hr _ _ _ rfl) fd3_0 kf3_38 rfl dX3_namesFor_54 ?_
      refine R_getR _ (hr _ _ _ rfl) fd0_0 kf3_136 rfl dX3_namesFor_57 ?_
      refine R_getI fd5_2 kf3_160 rfl dX3_namesFor_60 ?_
      refine R_icmp_ge 141 dX3_namesFor_63 (by decide) (fun hc63 => ?_) (fun hc63 => ?_)
      · exact absurd hc63 (by omega)
      refine R_aload_n dX3_namesFor_66 rfl ?_
      refine R_getR _ (hr _ _ _ rfl) fd3_0 kf3_38 rfl dX3_namesFor_67 ?_
      refine R_getR _ (hr _ _ _ rfl) fd0_0 kf3_136 rfl dX3_namesFor_70 ?_
      refine R_getR _ (hr _ _ _ rfl) fd5_0 kf3_140 rfl dX3_namesFor_73 ?_
      refine R_iload dX3_namesFor_76 rfl ?_
      refine R_iald rfl (by omega) (by omega) dX3_namesFor_78 ?_
      rw [Int.toNat_natCast]
      refine R_iload_n dX3_namesFor_79 rfl ?_
      refine R_iconst dX3_namesFor_80 rfl rfl ?_
      refine R_iand dX3_namesFor_81 ?_
      rw [hwb]
      refine R_icmp_ne 135 dX3_namesFor_82 (by decide) (fun hc82 => ?_) (fun hc82 => ?_)
      · rw [if_neg hc82] at hn
        refine R_iincN dX3_namesFor_135 rfl (by decide) rfl (by unfold inI; omega) [_, _, _, _, _, _, _] rfl ?_
        refine R_goto 47 dX3_namesFor_138 (by decide) ?_
        exact hn _
      · rw [if_pos hc82] at hn
        simp only at hn
        refine R_aload_n dX3_namesFor_85 rfl ?_
        refine R_iload_n dX3_namesFor_86 rfl ?_
        refine R_iload dX3_namesFor_87 rfl ?_
        refine R_callV (c_X3_gainOfAll hr hB hB2 l hl hm hll (w : Int) (v : Int)) (mvX3_gainOfAll _) kiX3_gainOfAll kvX3_gainOfAll km3_161 rfl rfl (by decide) ⟨rfl, rfl, by decide, by decide⟩ (Nat.le_of_ble_eq_true rfl) dX3_namesFor_89 (fun v1 sh1 g1 z1 r1 hq => ?_)
        obtain ⟨rfl, rfl, rfl, rfl, rfl⟩ := hq
        have rest : ∀ (b : Nat), b = (if (nfA (vC g) (g 34) l w v).2 < gU (vC g) (g 34) l w v l.length then 2 ^ v else if gU (vC g) (g 34) l w v l.length = (nfA (vC g) (g 34) l w v).2 then (nfA (vC g) (g 34) l w v).1 ||| 2 ^ v else (nfA (vC g) (g 34) l w v).1) → RJ (mX3_namesFor (rmD 2 0 0)) 0 0 shW.length Q 0 0 shW 125 [some (vR (some 32)), some (vI (w : Int)), some (vI 1), some (vI ((nfA (vC g) (g 34) l w v).1 : Nat)), some (vI (nfA (vC g) (g 34) l w v).2), some (vI (v : Int)), some (vI (gU (vC g) (g 34) l w v l.length))] [vI (b : Int)] g z r := by
          intro b hbb
          refine R_istore_n dX3_namesFor_125 (by decide) rfl [_, _, _, _, _, _, _] rfl ?_
          refine R_iload dX3_namesFor_126 rfl ?_
          refine R_iload dX3_namesFor_128 rfl ?_
          refine R_mmax km3_164 (by decide) (by decide) (by decide) (by decide) dX3_namesFor_130 ?_
          refine R_istore dX3_namesFor_133 (by decide) rfl [_, _, _, _, _, _, _] rfl ?_
          refine R_iincN dX3_namesFor_135 rfl (by decide) rfl (by unfold inI; omega) [_, _, _, _, _, _, _] rfl ?_
          refine R_goto 47 dX3_namesFor_138 (by decide) ?_
          rw [hbb]
          exact hn _
        refine R_istore dX3_namesFor_92 (by decide) rfl [_, _, _, _, _, _, _] rfl ?_
        refine R_iload dX3_namesFor_94 rfl ?_
        refine R_iload dX3_namesFor_96 rfl ?_
        refine R_icmp_le 108 dX3_namesFor_98 (by decide) (fun hc98 => ?_) (fun hc98 => ?_)
        · refine R_iload dX3_namesFor_108 rfl ?_
          refine R_iload dX3_namesFor_110 rfl ?_
          refine R_icmp_ne 124 dX3_namesFor_112 (by decide) (fun hc112 => ?_) (fun hc112 => ?_)
          · refine R_iload_n dX3_namesFor_124 rfl ?_
            exact rest _ (by rw [if_neg (by omega), if_neg hc112])
          · refine R_iload_n dX3_namesFor_115 rfl ?_
            refine R_iconst dX3_namesFor_116 rfl rfl ?_
            refine R_iload dX3_namesFor_117 rfl ?_
            refine R_ishl dX3_namesFor_119 ?_
            refine R_ior dX3_namesFor_120 ?_
            rw [or_bit (by omega) (by omega)]
            refine R_goto 125 dX3_namesFor_121 (by decide) ?_
            exact rest _ (by rw [if_neg (by omega), if_pos hc112])
        · refine R_iconst dX3_namesFor_101 rfl rfl ?_
          refine R_iload dX3_namesFor_102 rfl ?_
          refine R_ishl dX3_namesFor_104 ?_
          rw [bShl_1 (by omega)]
          refine R_goto 125 dX3_namesFor_105 (by decide) ?_
          exact rest _ (by rw [if_pos (by omega)])
  have outer : ∀ (n k : Nat) (b : Bool), k + n = l.length → b = anyL (g 34) k w → RJ (mX3_namesFor (rmD 2 0 0)) 0 0 shW.length Q 0 0 shW 4 [some (vR (some 32)), some (vI ((w : Int))), some (vI (bi b)), some (vI ((k : Int))), none, none, none] [] g z r := by
    intro n
    induction n with
    | zero =>
      intro k b hk hb
      refine R_iload_n dX3_namesFor_4 rfl ?_
      refine R_aload_n dX3_namesFor_5 rfl ?_
      refine R_getI fd3_8 kf3_46 rfl dX3_namesFor_6 ?_
      rw [hl.1]
      refine R_icmp_ge 38 dX3_namesFor_9 (by decide) (fun hc9 => ?_) (fun hc9 => ?_)
      · refine R_iconst dX3_namesFor_38 rfl rfl ?_
        refine R_istore_n dX3_namesFor_39 (by decide) rfl [_, _, _, _, _, _, _] rfl ?_
        refine R_ldcC (v := -1000000) kk3_81 (by decide +kernel) dX3_namesFor_40 (by decide) ?_
        refine R_istore dX3_namesFor_42 (by decide) rfl [_, _, _, _, _, _, _] rfl ?_
        refine R_iconst dX3_namesFor_44 rfl rfl ?_
        refine R_istore dX3_namesFor_45 (by decide) rfl [_, _, _, _, _, _, _] rfl ?_
        by_cases hany : anyL (g 34) l.length w = true
        · rw [hb, show k = l.length by omega, bi_t hany]
          exact inner hany (g 2 2).toNat 0 none (by omega)
        · rw [hb, show k = l.length by omega, bi_f hany]
          refine R_iload_n dX3_namesFor_47 rfl ?_
          refine R_if_eq 141 dX3_namesFor_48 (by decide) (fun hc48 => ?_) (fun hc48 => ?_)
          · refine R_iload_n dX3_namesFor_141 rfl ?_
            refine R_ireturn rfl (by first | rfl | exact nar_b2i | exact nar_bi) (by decide) (by decide) dX3_namesFor_142 ?_
            rw [← hQ]
            exact ⟨by rw [nfS, if_neg hany]; rfl, rfl, rfl, rfl, rfl⟩
          · exact absurd rfl hc48
      · exact absurd (by omega) hc9
    | succ n ih =>
      intro k b hk hb
      have hk1 : anyL (g 34) (k + 1) w = (anyL (g 34) k w || decide (g 34 k = (w : Int))) := by
        unfold anyL
        rw [List.range_succ, List.any_append]
        simp
      refine R_iload_n dX3_namesFor_4 rfl ?_
      refine R_aload_n dX3_namesFor_5 rfl ?_
      refine R_getI fd3_8 kf3_46 rfl dX3_namesFor_6 ?_
      rw [hl.1]
      refine R_icmp_ge 38 dX3_namesFor_9 (by decide) (fun hc9 => ?_) (fun hc9 => ?_)
      · exact absurd hc9 (by omega)
      cases b with
      | true =>
        refine R_iload_n dX3_namesFor_12 rfl ?_
        refine R_if_ne 26 dX3_namesFor_13 (by decide) (fun hc13 => ?_) (fun hc13 => ?_)
        · refine R_iconst dX3_namesFor_26 rfl rfl ?_
          refine R_goto 31 dX3_namesFor_27 (by decide) ?_
          refine R_istore_n dX3_namesFor_31 (by decide) rfl [_, _, _, _, _, _, _] rfl ?_
          refine R_iincN dX3_namesFor_32 rfl (by decide) rfl (by unfold inI; omega) [_, _, _, _, _, _, _] rfl ?_
          refine R_goto 4 dX3_namesFor_35 (by decide) ?_
          exact ih (k + 1) true (by omega) (by rw [hk1, ← hb]; rfl)
        · exact absurd hc13 (by decide)
      | false =>
        refine R_iload_n dX3_namesFor_12 rfl ?_
        refine R_if_ne 26 dX3_namesFor_13 (by decide) (fun hc13 => ?_) (fun hc13 => ?_)
        · exact absurd rfl hc13
        refine R_aload_n dX3_namesFor_16 rfl ?_
        refine R_getR _ (hr _ _ _ rfl) fd3_2 kf3_15 rfl dX3_namesFor_17 ?_
        refine R_iload_n dX3_namesFor_20 rfl ?_
        refine R_iald rfl (by omega) (by omega) dX3_namesFor_21 ?_
        rw [Int.toNat_natCast]
        refine R_iload_n dX3_namesFor_22 rfl ?_
        refine R_icmp_ne 30 dX3_namesFor_23 (by decide) (fun hc23 => ?_) (fun hc23 => ?_)
        · refine R_iconst dX3_namesFor_30 rfl rfl ?_
          refine R_istore_n dX3_namesFor_31 (by decide) rfl [_, _, _, _, _, _, _] rfl ?_
          refine R_iincN dX3_namesFor_32 rfl (by decide) rfl (by unfold inI; omega) [_, _, _, _, _, _, _] rfl ?_
          refine R_goto 4 dX3_namesFor_35 (by decide) ?_
          exact ih (k + 1) false (by omega) (by rw [hk1, ← hb]; simp [hc23])
        · refine R_iconst dX3_namesFor_26 rfl rfl ?_
          refine R_goto 31 dX3_namesFor_27 (by decide) ?_
          refine R_istore_n dX3_namesFor_31 (by decide) rfl [_, _, _, _, _, _, _] rfl ?_
          refine R_iincN dX3_namesFor_32 rfl (by decide) rfl (by unfold inI; omega) [_, _, _, _, _, _, _] rfl ?_
          refine R_goto 4 dX3_namesFor_35 (by decide) ?_
          exact ih (k + 1) true (by omega) (by rw [hk1, ← hb]; simp [hc23])
  refine R_iconst dX3_namesFor_0 rfl rfl ?_
  refine R_istore_n dX3_namesFor_1 (by decide) rfl [_, _, _, _, _, _, _] rfl ?_
  refine R_iconst dX3_namesFor_2 rfl rfl ?_
  refine R_istore_n dX3_namesFor_3 (by decide) rfl [_, _, _, _, _, _, _] rfl ?_
  exact outer l.length 0 false (by omega) rfl
theorem c_X3_placeOf (hr : RS r) (l : List Nat) (hl : FamIs g l) (hll : l.length ≤ 10) (i : Nat) : CT (mX3_placeOf (rmD 0 0 0)) 0 0 shW [vR (some 32), vI (i : Int)] g z r (qP shW g z r (some (vI (if i ∈ l then ((l.findIdx (· == i) : Nat) : Int) else -1)))) := by
  refine CT.of 1 rfl rfl ?_
  generalize hX : (if i ∈ l then ((l.findIdx (· == i) : Nat) : Int) else -1) = X
  generalize hQ : (qP shW g z r (some (vI X))) = Q
  have loop : ∀ (n k : Nat), k + n = l.length → (∀ j, j < k → l.getD j 0 ≠ i) → RJ (mX3_placeOf (rmD 0 0 0)) 0 0 shW.length Q 0 0 shW 2 [some (vR (some 32)), some (vI ((i : Int))), some (vI ((k : Int)))] [] g z r := by
    intro n
    induction n with
    | zero =>
      intro k hk hno
      refine R_iload_n dX3_placeOf_2 rfl ?_
      refine R_aload_n dX3_placeOf_3 rfl ?_
      refine R_getI fd3_8 kf3_46 rfl dX3_placeOf_4 ?_
      rw [hl.1]
      refine R_icmp_ge 28 dX3_placeOf_7 (by decide) (fun hc7 => ?_) (fun hc7 => ?_)
      · refine R_iconst dX3_placeOf_28 rfl rfl ?_
        refine R_ireturn rfl (by first | rfl | exact nar_b2i | exact nar_bi) (by decide) (by decide) dX3_placeOf_29 ?_
        rw [← hQ]
        refine ⟨?_, rfl, rfl, rfl, rfl⟩
        rw [← hX, if_neg]
        intro hi
        obtain ⟨j, hj, rfl⟩ := List.mem_iff_getElem.mp hi
        exact hno j (by omega) (by rw [List.getD_eq_getElem?_getD, List.getElem?_eq_getElem hj]; rfl)
      · exact absurd (by omega) hc7
    | succ n ih =>
      intro k hk hno
      have hkl : k < l.length := by omega
      have hgk := fam_at hl hkl
      refine R_iload_n dX3_placeOf_2 rfl ?_
      refine R_aload_n dX3_placeOf_3 rfl ?_
      refine R_getI fd3_8 kf3_46 rfl dX3_placeOf_4 ?_
      rw [hl.1]
      refine R_icmp_ge 28 dX3_placeOf_7 (by decide) (fun hc7 => ?_) (fun hc7 => ?_)
      · exact absurd hc7 (by omega)
      refine R_aload_n dX3_placeOf_10 rfl ?_
      refine R_getR _ (hr _ _ _ rfl) fd3_1 kf3_9 rfl dX3_placeOf_11 ?_
      refine R_iload_n dX3_placeOf_14 rfl ?_
      refine R_iald rfl (by omega) (by omega) dX3_placeOf_15 ?_
      rw [Int.toNat_natCast, hgk]
      refine R_iload_n dX3_placeOf_16 rfl ?_
      refine R_icmp_ne 22 dX3_placeOf_17 (by decide) (fun hc17 => ?_) (fun hc17 => ?_)
      · refine R_iincN dX3_placeOf_22 rfl (by decide) rfl (by unfold inI; omega) [_, _, _] rfl ?_
        refine R_goto 2 dX3_placeOf_25 (by decide) ?_
        refine ih (k + 1) (by omega) (fun j hj => ?_)
        by_cases hjk : j = k
        · subst hjk; omega
        · exact hno j (by omega)
      · refine R_iload_n dX3_placeOf_20 rfl ?_
        refine R_ireturn rfl (by first | rfl | exact nar_b2i | exact nar_bi) (by decide) (by decide) dX3_placeOf_21 ?_
        rw [← hQ]
        refine ⟨?_, rfl, rfl, rfl, rfl⟩
        have hik : l.getD k 0 = i := by omega
        have hmem : i ∈ l := by rw [← hik]; exact getD_mem hkl
        rw [← hX, if_pos hmem]
        have : l.findIdx (· == i) = k := by
          rw [List.findIdx_eq hkl]
          refine ⟨?_, fun j hj => ?_⟩
          · rw [← hik, List.getD_eq_getElem?_getD, List.getElem?_eq_getElem hkl]; simp
          · have := hno j hj
            rw [List.getD_eq_getElem?_getD, List.getElem?_eq_getElem (by omega)] at this
            simpa using this
        rw [this]
  refine R_iconst dX3_placeOf_0 rfl rfl ?_
  refine R_istore_n dX3_placeOf_1 (by decide) rfl [_, _, _] rfl ?_
  exact loop l.length 0 (by omega) (fun j hj => absurd hj (by omega))
end GAIN
