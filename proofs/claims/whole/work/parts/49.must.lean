section MMIN
variable {M : MI} {mc ms n0 : Nat} {Q : PQ} {ce sl : Nat} {sh : SH} {pc : Nat} {ls : List (Option AV)} {st : List AV} {g z : GG} {r : RR}
theorem R_mmin {a b : Int} {index : Nat} (hk : Cond.methodLink M.1.cls index Lib.Math.min.name ∈ TB) (hf : 1 ≤ M.2.2.2.2.frames) (hlo : 2 * st.length + 13 ≤ M.2.2.2.2.locals) (hce : ce ≤ M.2.2.2.2.cells) (hsl : sl ≤ M.2.2.2.2.slots) (hd : decode M.2.1 pc = .ok (.invokestatic index, 3)) (kk : RJ M mc ms n0 Q ce sl sh (pc + 3) ls (vI (if b < a then b else a) :: st) g z r) : RJ M mc ms n0 Q ce sl sh pc ls (vI b :: vI a :: st) g z r := by
  intro p l e s m args below meth cd dC dI cy ad0 ad adK adV A H locs Ls hC hn hd0 hst hW hS hO hl hs hL
  have hx := hC.1
  have hb := hC.2.1
  have hb1 : inI b := okx hs
  have ha1 : inI a := okx (okt hs)
  refine va_mmin hx hb (by rw [hC.2.2.1]; exact hL.1.symm) hC.2.2.2.2.2.1 (hC.2.2.2.2.2.2.2.1 _ hk) (hC.2.2.2.2.2.2.2.1 _ kMs_min) (hC.2.2.2.2.2.2.2.1 _ kMi) (hC.2.2.2.2.2.2.2.1 _ kMc_min) hf (Nat.le_trans (Nat.add_le_add_right (cat_sum st) 13) hlo) hce hsl hd ?_
  have ee : (if i32 b < i32 a then i32 b else i32 a) = i32 (if b < a then b else a) := by
    by_cases h : b < a
    · rw [if_pos h, if_pos ((i32_lt hb1 ha1).mpr h)]
    · rw [if_neg h, if_neg (fun q => h ((i32_lt hb1 ha1).mp q))]
  rw [ee]
  exact kk p l e s m args below meth cd dC dI cy ad0 ad adK adV A H locs Ls hC hn hd0 hst hW hS hO hl (okc (v := vI (if b < a then b else a)) (show inI (if b < a then b else a) by split; exact hb1; exact ha1) (okt (okt hs))) hL
end MMIN
def facA (s : VW) (c : Nat) (l : List Nat) (j x : Nat) : Nat → Int := fun k => if k = 0 then facS s c l j 0 + (x : Int) else facS s c l j k
/-- child j's letter with x unwritten ones of its SEX ahead of it -/
def ltA (s : VW) (K : Nat → CUS) (a b Y : Int) (c : Nat) (l : List Nat) (j x : Nat) : Int := fF (selK K a b Y (s 9 (l.getD j 0))) (thS s l j) (facA s c l j x)
def mhS (s : VW) (c w : Nat) (v : Int) : Bool := if s 7 (c * 4 + w) = -1 then decide (0 ≤ v ∧ v < s 0 0 ∧ s 1 v.toNat = ((w % 2 : Nat) : Int)) else decide (s 7 (c * 4 + w) = v)
/-- the NAME due by a letter, where the parents' NAMES are hw -/
def duM (s : VW) (hw : Nat → Int) (c : Nat) (l : List Nat) (j : Nat) (t : Int) : Int := if t < 0 then -2 else if t < 4 then hw t.toNat else if t = 4 then s 3 c else if t = 5 then s 4 c else if t = 6 then s 12 (l.getD j 0) else ddN s (l.getD j 0) (l.take j)
def okM (s : VW) (A : Nat → Nat → Int) (hw : Nat → Int) (c : Nat) (l : List Nat) (j x : Nat) : Bool := decide (duM s hw c l j (A j x) = -2) || decide (duM s hw c l j (A j x) = s 8 (l.getD j 0))
def advM (ok : Nat → Bool) : Nat → Nat → Nat
  | 0, x => x
  | n + 1, x => if x ≤ 5 ∧ ok x = false then advM ok n (x + 1) else x
def fewU (s : VW) (A : Nat → Nat → Int) (hw : Nat → Int) (c : Nat) (l : List Nat) (sex : Int) : Nat → Nat
  | 0 => 0
  | j + 1 => if sx s (l.getD j 0) = sex then advM (okM s A hw c l j) 6 (fewU s A hw c l sex j) else fewU s A hw c l sex j
theorem advM_le {ok : Nat → Bool} : ∀ (n x : Nat), x ≤ 6 → advM ok n x ≤ 6 := by
  intro n
  induction n with
  | zero => intro x h; exact h
  | succ n ih =>
    intro x h
    unfold advM
    split
    · exact ih _ (by omega)
    · exact h
theorem fewU_le {s : VW} {A : Nat → Nat → Int} {hw : Nat → Int} {c : Nat} {l : List Nat} {sex : Int} (j : Nat) : fewU s A hw c l sex j ≤ 6 := by
  induction j with
  | zero => simp [fewU]
  | succ j ih =>
    unfold fewU
    split
    · exact advM_le _ _ ih
    · exact ih
section MUST
variable {g z : GG} {r : RR}
theorem c_X3_mayHold (hr : RS r) (hN : 0 ≤ g 2 2 ∧ g 2 2 ≤ 16) (hC5 : 0 ≤ g 5 5 ∧ g 5 5 ≤ 6) (c : Nat) (hc6 : (c : Int) < g 5 5) (hgc : g 32 7 = (c : Int)) (w : Nat) (hw : w < 4) (v : Int) : CT (mX3_mayHold (rmD 2 0 0)) 0 0 shW [vR (some 32), vI (w : Int), vI v] g z r (qP shW g z r (some (vI (bi (mhS (vC g) c w v))))) := by
  refine CT.of 1 rfl rfl ?_
  have e : mhS (vC g) c w v = if g 10 (c * 4 + w) = -1 then decide (0 ≤ v ∧ v < g 2 2 ∧ g 3 v.toNat = ((w % 2 : Nat) : Int)) else decide (g 10 (c * 4 + w) = v) := rfl
  have hwb : bAnd (w : Int) 1 = ((w % 2 : Nat) : Int) := by
    have := bAnd_w (w := (w : Int)) (by omega)
    rw [this]; omega
  refine R_aload_n dX3_mayHold_0 rfl ?_
  refine R_getR _ (hr _ _ _ rfl) fd3_0 kf3_38 rfl dX3_mayHold_1 ?_
  refine R_getR _ (hr _ _ _ rfl) fd0_1 kf3_109 rfl dX3_mayHold_4 ?_
  refine R_aload_n dX3_mayHold_7 rfl ?_
  refine R_getI fd3_7 kf3_42 rfl dX3_mayHold_8 ?_
  rw [hgc]
  refine R_iload_n dX3_mayHold_11 rfl ?_
  refine R_callV (c_X1_parentOf hr hC5 (c : Int) (w : Int)) (mvX1_parentOf _) kiX1_parentOf kvX1_parentOf km3_113 rfl rfl (by decide) ⟨rfl, rfl, by decide, by decide⟩ (Nat.le_of_ble_eq_true rfl) dX3_mayHold_12 (fun v1 sh1 g1 z1 r1 hq => ?_)
  obtain ⟨rfl, rfl, rfl, rfl, rfl⟩ := hq
  rw [if_pos (by omega), show ((c : Int) * 4 + (w : Int)).toNat = c * 4 + w by omega]
  refine R_istore_n dX3_mayHold_15 (by decide) rfl [_, _, _, _] rfl ?_
  refine R_iload_n dX3_mayHold_16 rfl ?_
  refine R_iconst dX3_mayHold_17 rfl rfl ?_
  refine R_icmp_ne 38 dX3_mayHold_18 (by decide) (fun hc18 => ?_) (fun hc18 => ?_)
  · refine R_iload_n dX3_mayHold_38 rfl ?_
    refine R_iload_n dX3_mayHold_39 rfl ?_
    refine R_icmp_ne 47 dX3_mayHold_40 (by decide) (fun hc40 => ?_) (fun hc40 => ?_)
    · refine R_iconst dX3_mayHold_47 rfl rfl ?_
      refine R_ireturn rfl (by first | rfl | exact nar_b2i | exact nar_bi) (by decide) (by decide) dX3_mayHold_48 ?_
      exact ⟨by rw [e, if_neg hc18, bi_f (by rw [decide_eq_true_eq]; exact hc40)], rfl, rfl, rfl, rfl⟩
    · refine R_iconst dX3_mayHold_43 rfl rfl ?_
      refine R_goto 48 dX3_mayHold_44 (by decide) ?_
      refine R_ireturn rfl (by first | rfl | exact nar_b2i | exact nar_bi) (by decide) (by decide) dX3_mayHold_48 ?_
      exact ⟨by rw [e, if_neg hc18, bi_t (by rw [decide_eq_true_eq]; exact hc40)], rfl, rfl, rfl, rfl⟩
  · refine R_aload_n dX3_mayHold_21 rfl ?_
    refine R_getR _ (hr _ _ _ rfl) fd3_0 kf3_38 rfl dX3_mayHold_22 ?_
    refine R_getR _ (hr _ _ _ rfl) fd0_0 kf3_136 rfl dX3_mayHold_25 ?_
    refine R_iload_n dX3_mayHold_28 rfl ?_
    refine R_iload_n dX3_mayHold_29 rfl ?_
    refine R_iconst dX3_mayHold_30 rfl rfl ?_
    refine R_iand dX3_mayHold_31 ?_
    rw [hwb]
    refine R_callV (c_X5_has hr hN v ((w % 2 : Nat) : Int)) (mvX5_has _) kiX5_has kvX5_has km3_181 rfl rfl (by decide) ⟨rfl, rfl, by decide, by decide⟩ (Nat.le_of_ble_eq_true rfl) dX3_mayHold_32 (fun v1 sh1 g1 z1 r1 hq => ?_)
    obtain ⟨rfl, rfl, rfl, rfl, rfl⟩ := hq
    refine R_goto 48 dX3_mayHold_35 (by decide) ?_
    refine R_ireturn rfl (by first | rfl | exact nar_b2i | exact nar_bi) (by decide) (by decide) dX3_mayHold_48 ?_
    exact ⟨by rw [e, if_pos hc18]; simp only [bi, b2i, decide_eq_true_eq], rfl, rfl, rfl, rfl⟩
theorem c_X3_foresee (K : Nat → CUS) (H : FP g r K) (c : Nat) (hc6 : (c : Int) < g 5 5) (hgc : g 32 7 = (c : Int)) (l : List Nat) (hl : FamIs g l) (hm : ∀ a ∈ l, a < 10) (hll : l.length ≤ 10) (u : Nat) (hu : u = 30 ∨ u = 31) : CT (mX3_foresee (rmD 4 0 0)) 0 0 shW [vR (some 32), vR (some u)] g z r (qG shW z r fun v g' => v = none ∧ (∀ c', ¬ stc c' → c' ≤ 34 ∨ 39 ≤ c' → g' c' = g c') ∧ ∀ j, j < l.length → g' 35 j = ddN (vC g) (l.getD j 0) (l.take j) ∧ ∀ x, x ≤ 5 → g' 38 (j * 6 + x) = ltA (vC g) K (g u 1) (g u 2) (g u 3) c l j x) := by
  obtain ⟨hr, hT, hB, hB2, hN, hC5, hF, ho, hK⟩ := id H
  refine CT.of 4 rfl rfl ?_
  have hus : shW[u]? = some (9, 4) := by rcases hu with rfl | rfl <;> rfl
  have hur : r u 0 = some 21 := by rcases hu with rfl | rfl <;> exact hr _ _ _ rfl
  generalize hA : ltA (vC g) K (g u 1) (g u 2) (g u 3) c l = A
  generalize hQ : (qG shW z r fun v g' => v = none ∧ (∀ c', ¬ stc c' → c' ≤ 34 ∨ 39 ≤ c' → g' c' = g c') ∧ ∀ j, j < l.length → g' 35 j = ddN (vC g) (l.getD j 0) (l.take j) ∧ ∀ x, x ≤ 5 → g' 38 (j * 6 + x) = A j x) = Q
  have hcong : ∀ g' : GG, (∀ c', ¬ stc c' → c' ≤ 34 ∨ 39 ≤ c' → g' c' = g c') → vC g' = vC g ∧ BD g' ∧ FamIs g' l ∧ ciK g' r K ∧ g' 32 7 = (c : Int) := by
    intro g' h
    have hv : ∀ c', vcell c' → g' c' = g c' := fun c' h' => h c' (by unfold stc; unfold vcell at h'; omega) (by unfold vcell at h'; omega)
    exact ⟨vC_cong hv, BD_cong hv hB, FamIs_cong (by rw [h 32 (by unfold stc; omega) (by omega)]) (h 33 (by unfold stc; omega) (by omega)) hl, fun k hk => CuIs_cong (hT k hk).1 (fun c' h1 h2 => h c' h1 (by omega)) (hK k hk), by rw [h 32 (by unfold stc; omega) (by omega)]; exact hgc⟩
  have outer : ∀ (n j : Nat) (g' : GG) (a3 a4 a5 : Option AV), j + n = l.length → (∀ c', ¬ stc c' → c' ≤ 34 ∨ 39 ≤ c' → g' c' = g c') → (∀ j', j' < j → g' 35 j' = ddN (vC g) (l.getD j' 0) (l.take j') ∧ ∀ x, x ≤ 5 → g' 38 (j' * 6 + x) = A j' x) → RJ (mX3_foresee (rmD 4 0 0)) 0 0 shW.length Q 0 0 shW 2 [some (vR (some 32)), some (vR (some u)), some (vI (j : Int)), a3, a4, a5] [] g' z r := by
    intro n
    induction n with
    | zero =>
      intro j g' a3 a4 a5 hj h1 h2
      obtain ⟨k1, k2, k4, k5, k6⟩ := hcong g' h1
      refine R_iload_n dX3_foresee_2 rfl ?_
      refine R_aload_n dX3_foresee_3 rfl ?_
      refine R_getI fd3_8 kf3_46 rfl dX3_foresee_4 ?_
      rw [k4.1]
      refine R_icmp_ge 101 dX3_foresee_7 (by decide) (fun hc7 => ?_) (fun hc7 => ?_)
      · refine R_return rfl (by decide) (by decide) dX3_foresee_101 ?_
        rw [← hQ]
        exact ⟨⟨rfl, h1, fun j' h' => h2 j' (by omega)⟩, rfl, rfl, rfl⟩
      · exact absurd (by omega) hc7
    | succ n ih =>
      intro j g' a3 a4 a5 hj h1 h2
      obtain ⟨k1, k2, k4, k5, k6⟩ := hcong g' h1
      have hjl : j < l.length := by omega
      have ha := hm _ (getD_mem hjl)
      refine R_iload_n dX3_foresee_2 rfl ?_
      refine R_aload_n dX3_foresee_3 rfl ?_
      refine R_getI fd3_8 kf3_46 rfl dX3_foresee_4 ?_
      rw [k4.1]
      refine R_icmp_ge 101 dX3_foresee_7 (by decide) (fun hc7 => ?_) (fun hc7 => ?_)
      · exact absurd hc7 (by omega)
      refine R_aload_n dX3_foresee_10 rfl ?_
      refine R_iload_n dX3_foresee_11 rfl ?_
      refine R_callV (c_X3_observe hr k2 c (by omega) k6 l k4 hm hll j hjl) (mvX3_observe _) kiX3_observe kvX3_observe km3_94 rfl rfl (by decide) ⟨rfl, rfl, by decide, by decide⟩ (Nat.le_of_ble_eq_true rfl) dX3_foresee_12 (fun v1 sh1 g1 z1 r1 hq => ?_)
      obtain ⟨⟨rfl, o1, o2, o3, o4⟩, rfl, rfl, rfl⟩ := hq
      rw [k1] at o3 o4
      rw [k1]
      have p1 : ∀ c', ¬ stc c' → c' ≤ 34 ∨ 39 ≤ c' → g1 c' = g c' := fun c' h4 h5 => by rw [o1 c' (by omega) (by omega)]; exact h1 c' h4 h5
      obtain ⟨m1, m2, m4, m5, m6⟩ := hcong g1 p1
      have eu : ∀ k, g1 u k = g u k := fun k => by rw [p1 u (by unfold stc; omega) (by omega)]
      have e13 : g1 13 = g 13 := p1 13 (by unfold stc; omega) (by omega)
      have hg38 : g1 38 = g' 38 := o1 38 (by decide) (by decide)
      have p2 : ∀ j', j' < j → g1 35 j' = ddN (vC g) (l.getD j' 0) (l.take j') ∧ ∀ x, x ≤ 5 → g1 38 (j' * 6 + x) = A j' x := fun j' h' => by rw [hg38, o2 j' (by omega)]; exact h2 j' h'
      have hsel : selK K (g u 1) (g u 2) (g u 3) ((vC g) 9 (l.getD j 0)) = selK K (g1 u 1) (g1 u 2) (g1 u 3) (g1 13 (l.getD j 0)) := by rw [eu, eu, eu, e13]; rfl
      have hAj : ∀ x, A j x = fF (selK K (g1 u 1) (g1 u 2) (g1 u 3) (g1 13 (l.getD j 0))) (thS (vC g) l j) (facA (vC g) c l j x) := fun x => by rw [← hA, ← hsel]; rfl
      have hf0 : 1 ≤ facS (vC g) c l j 0 ∧ facS (vC g) c l j 0 ≤ 11 := by
        have q1 : cntS (vC g) (l.getD j 0) (l.take j) ≤ (l.take j).length := List.length_filter_le _ _
        have q2 : (l.take j).length ≤ j := by rw [List.length_take]; omega
        have q3 : facS (vC g) c l j 0 = 1 + (cntS (vC g) (l.getD j 0) (l.take j) : Int) := rfl
        omega
      have inner : ∀ (cu : Option Nat), inY g1 r u (g1 13 (l.getD j 0)) = cu → ∀ (m x : Nat) (g2 : GG), x + m = 6 → (∀ c', ¬ stc c' → c' ≤ 34 ∨ 39 ≤ c' → g2 c' = g c') → g2 35 = g1 35 → (∀ j', j' < j → ∀ x, x ≤ 5 → g2 38 (j' * 6 + x) = A j' x) → (∀ x', x' < x → g2 38 (j * 6 + x') = A j x') → (∀ k, k < 9 → g2 37 k = facA (vC g) c l j x k) → RJ (mX3_foresee (rmD 4 0 0)) 0 0 shW.length Q 0 0 shW 42 [some (vR (some 32)), some (vR (some u)), some (vI (j : Int)), some (vI (thS (vC g) l j : Nat)), some (vR cu), some (vI (x : Int))] [] g2 z r := by
        intro cu hcu m
        induction m with
        | zero =>
          intro x g2 hx q1 q2 q3 q4 q5
          refine R_iload dX3_foresee_42 rfl ?_
          refine R_iconst dX3_foresee_44 rfl rfl ?_
          refine R_icmp_gt 95 dX3_foresee_45 (by decide) (fun hc45 => ?_) (fun hc45 => ?_)
          · refine R_iincN dX3_foresee_95 rfl (by decide) rfl (by unfold inI; omega) [_, _, _, _, _, _] rfl ?_
            refine R_goto 2 dX3_foresee_98 (by decide) ?_
            exact ih (j + 1) g2 _ _ _ (by omega) q1 (fun j' h' => by
              rw [q2]
              by_cases hjj : j' = j
              · subst hjj; exact ⟨o3, fun x' hx' => q4 x' (by omega)⟩
              · exact ⟨(p2 j' (by omega)).1, fun x' hx' => q3 j' (by omega) x' hx'⟩)
          · exact absurd (by omega) hc45
        | succ m ihm =>
          intro x g2 hx q1 q2 q3 q4 q5
          have q50 := q5 0 (by omega)
          have hfa0 : facA (vC g) c l j x 0 = facS (vC g) c l j 0 + (x : Int) := rfl
          have fin : ∀ (g3 : GG) (y : Int), y = A j x → (∀ c', ¬ stc c' → c' ≤ 34 ∨ 39 ≤ c' → g3 c' = g c') → g3 35 = g1 35 → g3 38 = g2 38 → g3 37 = g2 37 → RJ (mX3_foresee (rmD 4 0 0)) 0 0 shW.length Q 0 0 shW 78 [some (vR (some 32)), some (vR (some u)), some (vI (j : Int)), some (vI (thS (vC g) l j : Nat)), some (vR cu), some (vI (x : Int))] [vI y, vI ((j : Int) * 6 + (x : Int)), vR (some 38)] g3 z r := by
            intro g3 y hy w1 w2 w3 w4
            refine R_iast rfl (by omega) (by omega) dX3_foresee_78 ?_
            refine R_aload_n dX3_foresee_79 rfl ?_
            refine R_getR _ (hr _ _ _ rfl) fd3_5 kf3_32 rfl dX3_foresee_80 ?_
            try simp +decide only [up2_far, up2_s, up2_kk]
            refine R_iconst dX3_foresee_83 rfl rfl ?_
            refine R_dup2 dX3_foresee_84 (fun _ h => by cases h) (fun _ h => by cases h) ?_
            refine R_iald rfl (by omega) (by omega) dX3_foresee_85 ?_
            try simp +decide only [up2_far, up2_s, up2_kk]
            rw [w4, show (0 : Int).toNat = 0 from rfl, q50, hfa0]
            refine R_iconst dX3_foresee_86 rfl rfl ?_
            refine R_iaddN dX3_foresee_87 (by unfold inI; omega) ?_
            refine R_iast rfl (by omega) (by omega) dX3_foresee_88 ?_
            refine R_iincN dX3_foresee_89 rfl (by decide) rfl (by unfold inI; omega) [_, _, _, _, _, _] rfl ?_
            refine R_goto 42 dX3_foresee_92 (by decide) ?_
            rw [show ((j : Int) * 6 + (x : Int)).toNat = j * 6 + x by omega, show (0 : Int).toNat = 0 from rfl]
            refine ihm (x + 1) _ (by omega) (fun c' h4 h5 => by rw [up2_ne (by unfold stc at h4; omega), up2_ne (by unfold stc at h4; omega)]; exact w1 c' h4 h5) (by rw [up2_ne (by decide), up2_ne (by decide)]; exact w2) (fun j' hj' x' hx' => by rw [up2_far (by decide), up2_k (by omega), w3]; exact q3 j' hj' x' hx') (fun x' hx' => ?_) (fun k hk => ?_)
            · rw [up2_far (by decide)]
              by_cases hxx : x' = x
              · subst hxx; rw [up2_s]; exact hy
              · rw [up2_k (by omega), w3]; exact q4 x' (by omega)
            · by_cases hk0 : k = 0
              · subst hk0; rw [up2_s]; simp only [facA, if_true]; omega
              · rw [up2_k hk0, up2_far (by decide), w4, q5 k hk]; simp only [facA, hk0, if_false]
          refine R_iload dX3_foresee_42 rfl ?_
          refine R_iconst dX3_foresee_44 rfl rfl ?_
          refine R_icmp_gt 95 dX3_foresee_45 (by decide) (fun hc45 => ?_) (fun hc45 => ?_)
          · exact absurd hc45 (by omega)
          refine R_aload_n dX3_foresee_48 rfl ?_
          refine R_getR _ (hr _ _ _ rfl) fd3_6 kf3_35 rfl dX3_foresee_49 ?_
          refine R_iload_n dX3_foresee_52 rfl ?_
          refine R_bipush dX3_foresee_53 rfl (by decide +kernel) ?_
          refine R_imulN dX3_foresee_55 (by unfold inI; omega) ?_
          refine R_iload dX3_foresee_56 rfl ?_
          refine R_iaddN dX3_foresee_58 (by unfold inI; omega) ?_
          refine R_aload dX3_foresee_59 rfl ?_
          refine R_ifnonnull 68 dX3_foresee_61 (by decide) (fun x61 hc61 => ?_) (fun hc61 => ?_)
          · obtain ⟨cc, rfl⟩ : ∃ cc, cu = some cc := ⟨_, hc61⟩
            rcases inY_sel hT m5 u (g1 13 (l.getD j 0)) with ⟨hin, hs⟩ | ⟨k, hk, hin, hs⟩
            · rw [hin] at hcu; exact absurd hcu (by simp)
            · rw [hin] at hcu
              have hcc : tc r k = cc := by injection hcu
              subst hcc
              obtain ⟨hcu2, hcr⟩ := hT k hk
              obtain ⟨v1', v2', v4', v5', v6'⟩ := hcong g2 q1
              refine R_aload dX3_foresee_68 rfl ?_
              refine R_aload_n dX3_foresee_70 rfl ?_
              refine R_getR _ (hr _ _ _ rfl) fd3_5 kf3_32 rfl dX3_foresee_71 ?_
              refine R_iload_n dX3_foresee_74 rfl ?_
              refine R_callV (c_X2_firstFor hr (tc r k) hcu2 (K k) (v5' k hk) (thS (vC g) l j) thS_lt) (mvX2_firstFor _) kiX2_firstFor kvX2_firstFor km3_103 (isCu_sh hcu2) rfl (by decide) ⟨rfl, rfl, by decide, by decide⟩ (Nat.le_of_ble_eq_true rfl) dX3_foresee_75 (fun v1 sh1 g3 z1 r1 hq => ?_)
              obtain ⟨⟨rfl, o, rfl⟩, rfl, rfl, rfl⟩ := hq
              have hst := stc_cu hcu2
              refine fin _ _ ?_ (fun c' h4 h5 => ?_) ?_ ?_ ?_
              · rw [hAj, hs]
                exact fF_env (v5' k hk) (fun k' hk' => q5 k' hk') _
              · funext q; rw [upC_far (fun e => h4 (by rw [e]; exact hst)), q1 c' h4 h5]
              · rw [← q2]; funext q; exact upC_far (by unfold stc at hst; omega)
              · funext q; exact upC_far (by unfold stc at hst; omega)
              · funext q; exact upC_far (by unfold stc at hst; omega)
          · subst hc61
            rcases inY_sel hT m5 u (g1 13 (l.getD j 0)) with ⟨hin, hs⟩ | ⟨k, hk, hin, hs⟩
            · refine R_iconst dX3_foresee_64 rfl rfl ?_
              refine R_goto 78 dX3_foresee_65 (by decide) ?_
              exact fin g2 _ (by rw [hAj, hs]; rfl) q1 q2 rfl rfl
            · rw [hin] at hcu; exact absurd hcu (by simp)
      refine R_istore_n dX3_foresee_15 (by decide) rfl [_, _, _, _, _, _] rfl ?_
      refine R_aload_n dX3_foresee_16 rfl ?_
      refine R_aload_n dX3_foresee_17 rfl ?_
      refine R_getR _ (hr _ _ _ rfl) fd3_0 kf3_38 rfl dX3_foresee_18 ?_
      refine R_getR _ (hr _ _ _ rfl) fd0_2 kf3_49 rfl dX3_foresee_21 ?_
      refine R_getR _ (hr _ _ _ rfl) fd4_1 kf3_69 rfl dX3_foresee_24 ?_
      refine R_aload_n dX3_foresee_27 rfl ?_
      refine R_getR _ (hr _ _ _ rfl) fd3_1 kf3_9 rfl dX3_foresee_28 ?_
      refine R_iload_n dX3_foresee_31 rfl ?_
      refine R_iald rfl (by omega) (by omega) dX3_foresee_32 ?_
      rw [Int.toNat_natCast, fam_at m4 hjl]
      refine R_iald rfl (by omega) (by omega) dX3_foresee_33 ?_
      rw [Int.toNat_natCast]
      refine R_callV (c_X9_inYear hT u hus hur (g1 13 (l.getD j 0))) (mvX9_inYear _) kiX9_inYear kvX9_inYear km3_97 hus rfl (by decide) ⟨rfl, rfl, by decide, by decide⟩ (Nat.le_of_ble_eq_true rfl) dX3_foresee_34 (fun v1 sh1 g1 z1 r1 hq => ?_)
      obtain ⟨rfl, rfl, rfl, rfl, rfl⟩ := hq
      refine R_astore dX3_foresee_37 (by decide) rfl [_, _, _, _, _, _] rfl ?_
      refine R_iconst dX3_foresee_39 rfl rfl ?_
      refine R_istore dX3_foresee_40 (by decide) rfl [_, _, _, _, _, _] rfl ?_
      exact inner _ rfl 6 0 g1 (by omega) p1 rfl (fun j' hj' => (p2 j' hj').2) (fun x' hx' => absurd hx' (by omega)) (fun k hk => by
        rw [o4 k hk]
        unfold facA
        by_cases hk0 : k = 0
        · subst hk0; simp
        · simp [hk0])
  refine R_iconst dX3_foresee_0 rfl rfl ?_
  refine R_istore_n dX3_foresee_1 (by decide) rfl [_, _, _, _, _, _] rfl ?_
  exact outer l.length 0 g none none none (by omega) (fun _ _ _ => rfl) (fun j' h' => absurd h' (by omega))
end MUST
