def cntS (s : VW) (i : Nat) (l : List Nat) : Nat := (l.filter (fun e => decide (sx s e = sx s i))).length
def cntG (s : VW) (i : Nat) (l : List Nat) : Nat := (l.filter (fun e => decide (sx s e = sx s i) && isGone s e (s 9 i))).length
def dd (s : VW) (i : Nat) : List Nat → List Nat → Option Nat
  | [], _ => none
  | e :: t, sn => if decide (sx s e = sx s i) && isGone s e (s 9 i) && sn.all (fun m => decide (s 8 m ≠ s 8 e)) then some e else dd s i t (e :: sn)
/-- the dead one's NAME, or -1: p are the elder ones in their order -/
def ddN (s : VW) (i : Nat) (p : List Nat) : Int := match dd s i p.reverse [] with
  | some e => s 8 e
  | none => -1
def twin (s : VW) (l : List Nat) (j : Nat) : Bool := (decide (0 < j) && decide (s 9 (l.getD (j - 1) 0) = s 9 (l.getD j 0))) || (decide (j + 1 < l.length) && decide (s 9 (l.getD (j + 1) 0) = s 9 (l.getD j 0)))
/-- the facts of child j of the FAMILY l of COUPLE c: n b x y w t a e c -/
def facS (s : VW) (c : Nat) (l : List Nat) (j : Nat) : Nat → Int := fun k => match k with
  | 0 => 1 + (cntS s (l.getD j 0) (l.take j) : Int)
  | 1 => (j : Int)
  | 2 => sx s (l.getD j 0)
  | 3 => s 9 (l.getD j 0)
  | 4 => s 9 (l.getD j 0) - s 5 c
  | 5 => bi (twin s l j)
  | 6 => s 8 (l.getD j 0)
  | 7 => (cntG s (l.getD j 0) (l.take j) : Int)
  | _ => (l.length : Int)
/-- whose ones there are, as bits by FfMmPQSD -/
def thS (s : VW) (l : List Nat) (j : Nat) : Nat := (if ddN s (l.getD j 0) (l.take j) = -1 then 0 else 128) + ((if s 12 (l.getD j 0) = -1 then 0 else 64) + (if sx s (l.getD j 0) = 0 then 21 else 42))
theorem thS_lt {s : VW} {l : List Nat} {j : Nat} : thS s l j < 256 := by unfold thS; split <;> split <;> split <;> omega
section OBS
variable {g z : GG} {r : RR}
/-- bounds that hold of all slots -/
def BD (g : GG) : Prop := (∀ j, 0 ≤ g 13 j ∧ g 13 j ≤ 299) ∧ (∀ j, 0 ≤ g 12 j ∧ g 12 j ≤ 15) ∧ (∀ j, g 3 j = 0 ∨ g 3 j = 1) ∧ (∀ j, 0 ≤ g 8 j ∧ g 8 j ≤ 299)
theorem fam_at {l : List Nat} {g : GG} (hl : FamIs g l) {j : Nat} (hj : j < l.length) : g 33 j = ((l.getD j 0 : Nat) : Int) := hl.2 j _ (by rw [List.getD_eq_getElem?_getD, List.getElem?_eq_getElem hj]; rfl)
theorem getD_mem {l : List Nat} {j : Nat} (hj : j < l.length) : l.getD j 0 ∈ l := by rw [List.getD_eq_getElem?_getD, List.getElem?_eq_getElem hj]; exact List.getElem_mem hj
theorem c_X3_sexAt (hr : RS r) (hB : BD g) (l : List Nat) (hl : FamIs g l) (hm : ∀ a ∈ l, a < 10) (hll : l.length ≤ 10) (j : Nat) (hj : j < l.length) : CT (mX3_sexAt (rmD 0 0 0)) 0 0 shW [vR (some 32), vI (j : Int)] g z r (qP shW g z r (some (vI (sx (vC g) (l.getD j 0))))) := by
  refine CT.of 0 rfl rfl ?_
  have ha := hm _ (getD_mem hj)
  have hn := hB.2.1 (l.getD j 0)
  refine R_aload_n dX3_sexAt_0 rfl ?_
  refine R_getR _ (hr _ _ _ rfl) fd3_0 kf3_38 rfl dX3_sexAt_1 ?_
  refine R_getR _ (hr _ _ _ rfl) fd0_0 kf3_136 rfl dX3_sexAt_4 ?_
  refine R_getR _ (hr _ _ _ rfl) fd5_0 kf3_140 rfl dX3_sexAt_7 ?_
  refine R_aload_n dX3_sexAt_10 rfl ?_
  refine R_getR _ (hr _ _ _ rfl) fd3_0 kf3_38 rfl dX3_sexAt_11 ?_
  refine R_getR _ (hr _ _ _ rfl) fd0_2 kf3_49 rfl dX3_sexAt_14 ?_
  refine R_getR _ (hr _ _ _ rfl) fd4_0 kf3_72 rfl dX3_sexAt_17 ?_
  refine R_aload_n dX3_sexAt_20 rfl ?_
  refine R_getR _ (hr _ _ _ rfl) fd3_1 kf3_9 rfl dX3_sexAt_21 ?_
  refine R_iload_n dX3_sexAt_24 rfl ?_
  refine R_iald rfl (by omega) (by omega) dX3_sexAt_25 ?_
  rw [Int.toNat_natCast, fam_at hl hj]
  refine R_iald rfl (by omega) (by omega) dX3_sexAt_26 ?_
  rw [Int.toNat_natCast]
  refine R_iald rfl (by omega) (by omega) dX3_sexAt_27 ?_
  refine R_ireturn rfl (by first | rfl | exact nar_b2i | exact nar_bi) (by decide) (by decide) dX3_sexAt_28 ?_
  exact ⟨rfl, rfl, rfl, rfl, rfl⟩
theorem c_X3_isTwin (hr : RS r) (l : List Nat) (hl : FamIs g l) (hm : ∀ a ∈ l, a < 10) (hll : l.length ≤ 10) (j : Nat) (hj : j < l.length) : CT (mX3_isTwin (rmD 0 0 0)) 0 0 shW [vR (some 32), vI (j : Int)] g z r (qP shW g z r (some (vI (bi (twin (vC g) l j))))) := by
  refine CT.of 1 rfl rfl ?_
  have ha := hm _ (getD_mem hj)
  have hj0 := fam_at hl hj
  have hlen := hl.1
  have etw : twin (vC g) l j = ((decide (0 < j) && decide (g 13 (l.getD (j - 1) 0) = g 13 (l.getD j 0))) || (decide (j + 1 < l.length) && decide (g 13 (l.getD (j + 1) 0) = g 13 (l.getD j 0)))) := rfl
  have hj1 : 0 < j → g 33 (((j : Int) - 1).toNat) = ((l.getD (j - 1) 0 : Nat) : Int) := fun h => by rw [show ((j : Int) - 1).toNat = j - 1 by omega]; exact fam_at hl (by omega)
  have hj2 : j + 1 < l.length → g 33 (((j : Int) + 1).toNat) = ((l.getD (j + 1) 0 : Nat) : Int) := fun h => by rw [show ((j : Int) + 1).toNat = j + 1 by omega]; exact fam_at hl (by omega)
  have hm1 : 0 < j → l.getD (j - 1) 0 < 10 := fun h => hm _ (getD_mem (by omega))
  have hm2 : j + 1 < l.length → l.getD (j + 1) 0 < 10 := fun h => hm _ (getD_mem (by omega))
  have second : ¬ (0 < j ∧ g 13 (l.getD (j - 1) 0) = g 13 (l.getD j 0)) → RJ (mX3_isTwin (rmD 0 0 0)) 0 0 shW.length (qP shW g z r (some (vI (bi (twin (vC g) l j))))) 0 0 shW 36 [some (vR (some 32)), some (vI (j : Int)), some (vR (some 13))] [] g z r := by
    intro hno
    refine R_iload_n dX3_isTwin_36 rfl ?_
    refine R_iconst dX3_isTwin_37 rfl rfl ?_
    refine R_iaddN dX3_isTwin_38 (by unfold inI; omega) ?_
    refine R_aload_n dX3_isTwin_39 rfl ?_
    refine R_getI fd3_8 kf3_46 rfl dX3_isTwin_40 ?_
    rw [hlen]
    refine R_icmp_ge 71 dX3_isTwin_43 (by decide) (fun hc43 => ?_) (fun hc43 => ?_)
    · refine R_iconst dX3_isTwin_71 rfl rfl ?_
      refine R_ireturn rfl (by first | rfl | exact nar_b2i | exact nar_bi) (by decide) (by decide) dX3_isTwin_72 ?_
      exact ⟨by rw [bi_f (by rw [etw]; simp only [Bool.or_eq_true, Bool.and_eq_true, decide_eq_true_eq]; omega)], rfl, rfl, rfl, rfl⟩
    refine R_aload_n dX3_isTwin_46 rfl ?_
    refine R_aload_n dX3_isTwin_47 rfl ?_
    refine R_getR _ (hr _ _ _ rfl) fd3_1 kf3_9 rfl dX3_isTwin_48 ?_
    refine R_iload_n dX3_isTwin_51 rfl ?_
    refine R_iconst dX3_isTwin_52 rfl rfl ?_
    refine R_iaddN dX3_isTwin_53 (by unfold inI; omega) ?_
    refine R_iald rfl (by omega) (by omega) dX3_isTwin_54 ?_
    rw [hj2 (by omega)]
    have hmm := hm2 (by omega)
    refine R_iald rfl (by omega) (by omega) dX3_isTwin_55 ?_
    rw [Int.toNat_natCast]
    refine R_aload_n dX3_isTwin_56 rfl ?_
    refine R_aload_n dX3_isTwin_57 rfl ?_
    refine R_getR _ (hr _ _ _ rfl) fd3_1 kf3_9 rfl dX3_isTwin_58 ?_
    refine R_iload_n dX3_isTwin_61 rfl ?_
    refine R_iald rfl (by omega) (by omega) dX3_isTwin_62 ?_
    rw [Int.toNat_natCast, hj0]
    refine R_iald rfl (by omega) (by omega) dX3_isTwin_63 ?_
    rw [Int.toNat_natCast]
    refine R_icmp_ne 71 dX3_isTwin_64 (by decide) (fun hc64 => ?_) (fun hc64 => ?_)
    · refine R_iconst dX3_isTwin_71 rfl rfl ?_
      refine R_ireturn rfl (by first | rfl | exact nar_b2i | exact nar_bi) (by decide) (by decide) dX3_isTwin_72 ?_
      exact ⟨by rw [bi_f (by rw [etw]; simp only [Bool.or_eq_true, Bool.and_eq_true, decide_eq_true_eq]; omega)], rfl, rfl, rfl, rfl⟩
    · refine R_iconst dX3_isTwin_67 rfl rfl ?_
      refine R_goto 72 dX3_isTwin_68 (by decide) ?_
      refine R_ireturn rfl (by first | rfl | exact nar_b2i | exact nar_bi) (by decide) (by decide) dX3_isTwin_72 ?_
      exact ⟨by rw [bi_t (by rw [etw]; simp only [Bool.or_eq_true, Bool.and_eq_true, decide_eq_true_eq]; omega)], rfl, rfl, rfl, rfl⟩
  refine R_aload_n dX3_isTwin_0 rfl ?_
  refine R_getR _ (hr _ _ _ rfl) fd3_0 kf3_38 rfl dX3_isTwin_1 ?_
  refine R_getR _ (hr _ _ _ rfl) fd0_2 kf3_49 rfl dX3_isTwin_4 ?_
  refine R_getR _ (hr _ _ _ rfl) fd4_1 kf3_69 rfl dX3_isTwin_7 ?_
  refine R_astore_n dX3_isTwin_10 (by decide) rfl [_, _, _] rfl ?_
  refine R_iload_n dX3_isTwin_11 rfl ?_
  refine R_if_le 36 dX3_isTwin_12 (by decide) (fun hc12 => ?_) (fun hc12 => ?_)
  · exact second (by omega)
  refine R_aload_n dX3_isTwin_15 rfl ?_
  refine R_aload_n dX3_isTwin_16 rfl ?_
  refine R_getR _ (hr _ _ _ rfl) fd3_1 kf3_9 rfl dX3_isTwin_17 ?_
  refine R_iload_n dX3_isTwin_20 rfl ?_
  refine R_iconst dX3_isTwin_21 rfl rfl ?_
  refine R_isubN dX3_isTwin_22 (by unfold inI; omega) ?_
  refine R_iald rfl (by omega) (by omega) dX3_isTwin_23 ?_
  rw [hj1 (by omega)]
  have hmm := hm1 (by omega)
  refine R_iald rfl (by omega) (by omega) dX3_isTwin_24 ?_
  rw [Int.toNat_natCast]
  refine R_aload_n dX3_isTwin_25 rfl ?_
  refine R_aload_n dX3_isTwin_26 rfl ?_
  refine R_getR _ (hr _ _ _ rfl) fd3_1 kf3_9 rfl dX3_isTwin_27 ?_
  refine R_iload_n dX3_isTwin_30 rfl ?_
  refine R_iald rfl (by omega) (by omega) dX3_isTwin_31 ?_
  rw [Int.toNat_natCast, hj0]
  refine R_iald rfl (by omega) (by omega) dX3_isTwin_32 ?_
  rw [Int.toNat_natCast]
  refine R_icmp_eq 67 dX3_isTwin_33 (by decide) (fun hc33 => ?_) (fun hc33 => ?_)
  · refine R_iconst dX3_isTwin_67 rfl rfl ?_
    refine R_goto 72 dX3_isTwin_68 (by decide) ?_
    refine R_ireturn rfl (by first | rfl | exact nar_b2i | exact nar_bi) (by decide) (by decide) dX3_isTwin_72 ?_
    exact ⟨by rw [bi_t (by rw [etw]; simp only [Bool.or_eq_true, Bool.and_eq_true, decide_eq_true_eq]; omega)], rfl, rfl, rfl, rfl⟩
  · exact second (by omega)
end OBS
