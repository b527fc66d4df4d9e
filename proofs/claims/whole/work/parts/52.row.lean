/-- a row of COUPLES T (bytes): whether CHRISTENING i's is one that it can have -/
def canR (s : VW) (T : Nat → Int) (i : Nat) : Bool := decide (T i = 6) || (decide (0 ≤ T i ∧ T i < s 0 1) && canTie s i (T i).toNat)
def setR (T : Nat → Int) (c : Int) : Nat → Nat
  | 0 => 0
  | n + 1 => if T n = c then setR T c n ||| 2 ^ n else setR T c n
def strF (s : VW) (T : Nat → Int) (n : Nat) : Option Nat := (List.range n).find? (fun i => !canR s T i)
def brkF (s : VW) (T : Nat → Int) (m : Nat) (n : Nat) : Option Nat := (List.range' m n).find? (fun c => (fam s c (setR T (c : Int) (s 0 2).toNat)).isNone)
/-- 0 for a WAY, else what judge answers -/
def wayF (s : VW) (T : Nat → Int) : Int := match strF s T (s 0 2).toNat with
  | some i => -2000000 - (i : Int)
  | none => match brkF s T 0 (s 0 1).toNat with
    | some c => -3000000 - (c : Int)
    | none => 0
theorem setR_bit {T : Nat → Int} {c : Int} (n i : Nat) : (setR T c n).testBit i = (decide (i < n) && decide (T i = c)) := by
  induction n with
  | zero => simp [setR]
  | succ n ih =>
    unfold setR
    by_cases hi : i = n
    · subst hi
      split
      · rename_i h; simp [Nat.testBit_or, Nat.testBit_two_pow, h]
      · rename_i h; rw [ih]; simp [h]
    · have e : decide (i < n + 1) = decide (i < n) := by simp only [decide_eq_decide]; omega
      split
      · rw [Nat.testBit_or, ih, Nat.testBit_two_pow, e]
        have : decide (n = i) = false := by simp only [decide_eq_false_iff_not]; omega
        rw [this, Bool.or_false]
      · rw [ih, e]
theorem setR_lt {T : Nat → Int} {c : Int} (n : Nat) : setR T c n < 2 ^ n := by
  refine Nat.lt_pow_two_of_testBit _ (fun i hi => ?_)
  rw [setR_bit]
  simp; omega
def DC (g g' : GG) : Prop := ∀ c', ¬ stc c' → (c' ≤ 30 ∧ c' ≠ 19) ∨ 41 ≤ c' → g' c' = g c'
theorem DC.rfl {g : GG} : DC g g := fun _ _ _ => Eq.refl _
theorem DC.trans {g g1 g2 : GG} (h1 : DC g g1) (h2 : DC g1 g2) : DC g g2 := fun c' a b => (h2 c' a b).trans (h1 c' a b)
theorem SC.dc {g g' : GG} (h : SC g g') : DC g g' := fun c' a b => h c' a (by omega)
theorem DC.vC {g g' : GG} (h : DC g g') : vC g' = vC g := vC_cong (fun c' h' => h c' (by unfold stc; unfold vcell at h'; omega) (by unfold vcell at h'; omega))
theorem FP.congD {g g' : GG} {r : RR} {K : Nat → CUS} (h : DC g g') (H : FP g r K) : FP g' r K := by
  obtain ⟨h1, h2, h3, h4, h5, h6, h7, h8, h9⟩ := H
  have hv : ∀ c', vcell c' → g' c' = g c' := fun c' h' => h c' (by unfold stc; unfold vcell at h'; omega) (by unfold vcell at h'; omega)
  refine ⟨h1, h2, BD_cong hv h3, ?_, ?_, ?_, ?_, ?_, fun k hk => ?_⟩
  · unfold BD2; rw [hv 4 (by unfold vcell; omega), hv 1 (by unfold vcell; omega)]; exact h4
  · rw [hv 2 (by unfold vcell; omega)]; exact h5
  · rw [hv 5 (by unfold vcell; omega)]; exact h6
  · rw [hv 11 (by unfold vcell; omega)]; exact h7
  · rw [hv 13 (by unfold vcell; omega), hv 11 (by unfold vcell; omega), h 18 (by unfold stc; omega) (by omega)]; exact h8
  · have hc := (h2 k hk).1
    have hcell : ∀ d, d < 5 → g' (tc r k + d) = g (tc r k + d) := fun d hd => h _ (by unfold stc; rcases hc with e | e | e | e | e <;> rw [e] <;> omega) (by rcases hc with e | e | e | e | e <;> rw [e] <;> omega)
    have := h9 k hk
    unfold CuIs at this ⊢
    rw [show g' (tc r k) = g (tc r k) from hcell 0 (by omega), hcell 1 (by omega), hcell 2 (by omega), hcell 3 (by omega), hcell 4 (by omega)]
    exact this
section ROW
variable {g z : GG} {r : RR}
theorem c_X7_firstBroken (K : Nat → CUS) (H : FP g r K) (T : Nat → Int) (hS : ∀ c : Nat, (c : Int) < g 5 5 → g 40 c = (setR T (c : Int) (g 11 7).toNat : Nat)) : CT (mX7_firstBroken (rmD 3 0 0)) 0 0 shW [vR (some 39)] g z r (qG shW z r fun v g' => v = some (vI (match brkF (vC g) T 0 (g 5 5).toNat with | some c => -3000000 - (c : Int) | none => 0)) ∧ SC g g') := by
  obtain ⟨hr, hT, hB, hB2, hN, hC5, hF, ho, hK⟩ := id H
  refine CT.of 1 rfl rfl ?_
  generalize hX : (match brkF (vC g) T 0 (g 5 5).toNat with | some c => -3000000 - (c : Int) | none => 0) = X
  generalize hQ : (qG shW z r fun v g' => v = some (vI X) ∧ SC g g') = Q
  have loop : ∀ (n c : Nat) (g' : GG), (c : Int) + n = g 5 5 → SC g g' → (match brkF (vC g) T c n with | some c => -3000000 - (c : Int) | none => 0) = X → RJ (mX7_firstBroken (rmD 3 0 0)) 0 0 shW.length Q 0 0 shW 2 [some (vR (some 39)), some (vI ((c : Int)))] [] g' z r := by
    intro n
    induction n with
    | zero =>
      intro c g' hc s1 hx
      refine R_iload_n dX7_firstBroken_2 rfl ?_
      refine R_aload_n dX7_firstBroken_3 rfl ?_
      refine R_getR _ (hr _ _ _ rfl) fd7_0 kf7_15 rfl dX7_firstBroken_4 ?_
      refine R_getR _ (hr _ _ _ rfl) fd0_1 kf7_41 rfl dX7_firstBroken_7 ?_
      refine R_getI fd1_5 kf7_63 rfl dX7_firstBroken_10 ?_
      rw [s1 5 (by unfold stc; omega) (by omega)]
      refine R_icmp_ge 44 dX7_firstBroken_13 (by decide) (fun hc13 => ?_) (fun hc13 => ?_)
      · refine R_iconst dX7_firstBroken_44 rfl rfl ?_
        refine R_ireturn rfl (by first | rfl | exact nar_b2i | exact nar_bi) (by decide) (by decide) dX7_firstBroken_45 ?_
        rw [← hQ]
        exact ⟨⟨by rw [← hx]; rfl, s1⟩, rfl, rfl, rfl⟩
      · exact absurd (by omega) hc13
    | succ n ih =>
      intro c g' hc s1 hx
      obtain ⟨-, -, hB', hB2', hN', hC5', hF', ho', hK'⟩ := H.cong s1
      have hsl := setR_lt (T := T) (c := (c : Int)) (g 11 7).toNat
      have hp : (2 : Nat) ^ (g 11 7).toNat ≤ 2 ^ 10 := Nat.pow_le_pow_right (by decide) (by omega)
      unfold brkF at hx
      rw [List.range'_succ, List.find?_cons] at hx
      have eF : ((vC g) 0 2).toNat = (g 11 7).toNat := rfl
      rw [eF] at hx
      refine R_iload_n dX7_firstBroken_2 rfl ?_
      refine R_aload_n dX7_firstBroken_3 rfl ?_
      refine R_getR _ (hr _ _ _ rfl) fd7_0 kf7_15 rfl dX7_firstBroken_4 ?_
      refine R_getR _ (hr _ _ _ rfl) fd0_1 kf7_41 rfl dX7_firstBroken_7 ?_
      refine R_getI fd1_5 kf7_63 rfl dX7_firstBroken_10 ?_
      rw [s1 5 (by unfold stc; omega) (by omega)]
      refine R_icmp_ge 44 dX7_firstBroken_13 (by decide) (fun hc13 => ?_) (fun hc13 => ?_)
      · exact absurd hc13 (by omega)
      refine R_aload_n dX7_firstBroken_16 rfl ?_
      refine R_getR _ (hr _ _ _ rfl) fd7_1 kf7_19 rfl dX7_firstBroken_17 ?_
      refine R_iload_n dX7_firstBroken_20 rfl ?_
      refine R_aload_n dX7_firstBroken_21 rfl ?_
      refine R_getR _ (hr _ _ _ rfl) fd7_2 kf7_9 rfl dX7_firstBroken_22 ?_
      refine R_iload_n dX7_firstBroken_25 rfl ?_
      refine R_iald rfl (by omega) (by omega) dX7_firstBroken_26 ?_
      rw [s1 40 (by unfold stc; omega) (by omega), Int.toNat_natCast, hS c (by omega)]
      refine R_callV (c_X3_gather hr hC5' hF' ho' (fun j _ => hB'.1 j) c (setR T (c : Int) (g 11 7).toNat) (by omega) (by omega)) (mvX3_gather _) kiX3_gather kvX3_gather km7_64 rfl rfl (by decide) ⟨rfl, rfl, by decide, by decide⟩ (Nat.le_of_ble_eq_true rfl) dX7_firstBroken_27 (fun v1 sh1 g1 z1 r1 hq => ?_)
      obtain ⟨⟨o1, o2, o3⟩, rfl, rfl, rfl⟩ := hq
      rw [s1.vC] at o3
      have s2 : SC g g1 := fun c' a b => (o1 c' (by omega) (by omega)).trans (s1 c' a b)
      rcases o3 with ⟨l, hfam, rfl, hl⟩ | ⟨hfam, rfl⟩
      · rw [hfam] at hx
        refine R_if_ne 38 dX7_firstBroken_30 (by decide) (fun hc30 => ?_) (fun hc30 => ?_)
        · refine R_iincN dX7_firstBroken_38 rfl (by decide) rfl (by unfold inI; omega) [_, _] rfl ?_
          refine R_goto 2 dX7_firstBroken_41 (by decide) ?_
          exact ih (c + 1) g1 (by omega) s2 hx
        · exact absurd hc30 (by decide)
      · rw [hfam] at hx
        refine R_if_ne 38 dX7_firstBroken_30 (by decide) (fun hc30 => ?_) (fun hc30 => ?_)
        · exact absurd rfl hc30
        · refine R_ldcC (v := -3000000) kk7_69 (by decide +kernel) dX7_firstBroken_33 (by decide) ?_
          refine R_iload_n dX7_firstBroken_35 rfl ?_
          refine R_isubN dX7_firstBroken_36 (by unfold inI; omega) ?_
          refine R_ireturn rfl (by first | rfl | exact nar_b2i | exact nar_bi) (by decide) (by decide) dX7_firstBroken_37 ?_
          rw [← hQ]
          exact ⟨⟨by rw [← hx]; rfl, s2⟩, rfl, rfl, rfl⟩
  refine R_iconst dX7_firstBroken_0 rfl rfl ?_
  refine R_istore_n dX7_firstBroken_1 (by decide) rfl [_, _] rfl ?_
  exact loop (g 5 5).toNat 0 g (by omega) SC.rfl hX
theorem c_X7_take (K : Nat → CUS) (H : FP g r K) (hT8 : g 11 7 ≤ g 19 1 ∧ g 19 1 ≤ 200) (hTb : ∀ i, 0 ≤ g 20 i ∧ g 20 i ≤ 255) : CT (mX7_take (rmD 4 0 0)) 0 0 shW [vR (some 39), vR (some 19)] g z r (qG shW z r fun v g' => v = some (vI (wayF (vC g) (g 20))) ∧ DC g g' ∧ (g' 19 = fun k => if k = 1 then 0 else g 19 k) ∧ g' 31 = g 31 ∧ (wayF (vC g) (g 20) = 0 → ∀ c : Nat, c ≤ 6 → g' 40 c = (setR (g 20) (c : Int) (g 11 7).toNat : Nat))) := by
  obtain ⟨hr, hT, hB, hB2, hN, hC5, hF, ho, hK⟩ := id H
  refine CT.of 4 rfl rfl ?_
  generalize hQ : (qG shW z r fun v g' => v = some (vI (wayF (vC g) (g 20))) ∧ DC g g' ∧ (g' 19 = fun k => if k = 1 then 0 else g 19 k) ∧ g' 31 = g 31 ∧ (wayF (vC g) (g 20) = 0 → ∀ c : Nat, c ≤ 6 → g' 40 c = (setR (g 20) (c : Int) (g 11 7).toNat : Nat))) = Q
  obtain ⟨nF, hnF⟩ : ∃ n : Nat, g 11 7 = (n : Int) := ⟨(g 11 7).toNat, by omega⟩
  have eF : ((vC g) 0 2).toNat = nF := by show (g 11 7).toNat = nF; omega
  have loop2 : ∀ (m : Nat) (st : Int) (g2 : GG) (B : Nat → Nat) (a4 a5 : Option AV), m ≤ nF → (∀ c', c' ≠ 40 → g2 c' = g c') → (∀ c, c ≤ 6 → g2 40 c = (B c : Int)) → (∀ c i, (B c).testBit i = (decide (m ≤ i ∧ i < nF) && (canR (vC g) (g 20) i && decide (g 20 i = (c : Int))))) → (match (List.range m).find? (fun i => !canR (vC g) (g 20) i) with | some i => (i : Int) | none => st) = (match strF (vC g) (g 20) nF with | some i => (i : Int) | none => -1) → RJ (mX7_take (rmD 4 0 0)) 0 0 shW.length Q 0 0 shW 39 [some (vR (some 39)), some (vR (some 19)), some (vI st), some (vI ((m : Int) - 1)), a4, a5] [] g2 z r := by
    intro m
    induction m with
    | zero =>
      intro st g2 B a4 a5 hm q1 q2 q3 q4
      simp only [List.range_zero, List.find?_nil] at q4
      refine R_iload_n dX7_take_39 rfl ?_
      refine R_if_lt 121 dX7_take_40 (by decide) (fun hc40 => ?_) (fun hc40 => ?_)
      · refine R_aload_n dX7_take_121 rfl ?_
        refine R_callV (c_X8_clear) (mvX8_clear _) kiX8_clear kvX8_clear km7_55 rfl rfl (by decide) ⟨rfl, rfl, by decide, by decide⟩ (Nat.le_of_ble_eq_true rfl) dX7_take_122 (fun v1 sh1 g1 z1 r1 hq => ?_)
        obtain ⟨⟨rfl, rfl⟩, rfl, rfl, rfl⟩ := hq
        have d1 : DC g (up2 g2 19 1 0) := fun c' a b => by rw [up2_ne (by omega)]; exact q1 c' (by omega)
        have d19 : (up2 g2 19 1 0) 19 = fun k => if k = 1 then 0 else g 19 k := by
          funext k
          by_cases hk : k = 1
          · subst hk; rw [up2_s, if_pos rfl]
          · rw [up2_k hk, if_neg hk, q1 19 (by decide)]
        have d31 : (up2 g2 19 1 0) 31 = g 31 := by rw [up2_ne (by decide)]; exact q1 31 (by decide)
        have d11 : (up2 g2 19 1 0) 11 7 = g 11 7 := by rw [up2_far (by decide), q1 11 (by decide)]
        have d5 : (up2 g2 19 1 0) 5 5 = g 5 5 := by rw [up2_far (by decide), q1 5 (by decide)]
        cases hst : strF (vC g) (g 20) nF with
        | some i =>
          rw [hst] at q4
          simp only at q4
          have hw : wayF (vC g) (g 20) = -2000000 - (i : Int) := by unfold wayF; rw [eF, hst]
          have hi : i < nF := by have := List.mem_of_find?_eq_some hst; rwa [List.mem_range] at this
          refine R_iload_n dX7_take_125 rfl ?_
          refine R_iconst dX7_take_126 rfl rfl ?_
          refine R_icmp_ne 137 dX7_take_127 (by decide) (fun hc127 => ?_) (fun hc127 => ?_)
          · refine R_ldcC (v := -2000000) kk7_62 (by decide +kernel) dX7_take_137 (by decide) ?_
            refine R_iload_n dX7_take_139 rfl ?_
            refine R_isubN dX7_take_140 (by unfold inI; omega) ?_
            refine R_ireturn rfl (by first | rfl | exact nar_b2i | exact nar_bi) (by decide) (by decide) dX7_take_141 ?_
            rw [← hQ]
            exact ⟨⟨by rw [hw, q4], d1, d19, d31, fun h => by rw [hw] at h; exact absurd h (by omega)⟩, rfl, rfl, rfl⟩
          · exact absurd hc127 (by omega)
        | none =>
          rw [hst] at q4
          simp only at q4
          have hall : ∀ i, i < nF → canR (vC g) (g 20) i = true := fun i hi => by
            have := List.find?_eq_none.mp hst i (List.mem_range.mpr hi)
            simpa using this
          have hB : ∀ c, c ≤ 6 → (up2 g2 19 1 0) 40 c = (setR (g 20) (c : Int) (g 11 7).toNat : Nat) := by
            intro c hc
            rw [up2_far (by decide), q2 c hc, show (g 11 7).toNat = nF by omega]
            congr 1
            apply Nat.eq_of_testBit_eq
            intro i
            rw [q3, setR_bit]
            by_cases hi : i < nF
            · simp [hi, hall i hi]
            · simp [hi]
          have hw : wayF (vC g) (g 20) = (match brkF (vC g) (g 20) 0 (g 5 5).toNat with | some c => -3000000 - (c : Int) | none => 0) := by unfold wayF; rw [eF, hst]; rfl
          refine R_iload_n dX7_take_125 rfl ?_
          refine R_iconst dX7_take_126 rfl rfl ?_
          refine R_icmp_ne 137 dX7_take_127 (by decide) (fun hc127 => ?_) (fun hc127 => ?_)
          · exact absurd q4 hc127
          · refine R_aload_n dX7_take_130 rfl ?_
            refine R_callV (c_X7_firstBroken K (H.congD d1) (g 20) (fun c hc => by rw [d11]; exact hB c (by rw [d5] at hc; omega))) (mvX7_firstBroken _) kiX7_firstBroken kvX7_firstBroken km7_58 rfl rfl (by decide) ⟨rfl, rfl, by decide, by decide⟩ (Nat.le_of_ble_eq_true rfl) dX7_take_131 (fun v1 sh1 g3 z1 r1 hq => ?_)
            obtain ⟨⟨rfl, s3⟩, rfl, rfl, rfl⟩ := hq
            rw [d1.vC, d5, ← hw]
            refine R_goto 141 dX7_take_134 (by decide) ?_
            refine R_ireturn rfl (by first | rfl | exact nar_b2i | exact nar_bi) (by decide) (by decide) dX7_take_141 ?_
            rw [← hQ]
            exact ⟨⟨rfl, d1.trans s3.dc, by rw [s3 19 (by unfold stc; omega) (by omega)]; exact d19, by rw [s3 31 (by unfold stc; omega) (by omega)]; exact d31, fun _ c hc => by rw [s3 40 (by unfold stc; omega) (by omega)]; exact hB c hc⟩, rfl, rfl, rfl⟩
      · exact absurd (by omega) hc40
    | succ m ih =>
      intro st g2 B a4 a5 hm q1 q2 q3 q4
      have hTm := hTb m
      have e20 : g2 20 = g 20 := q1 20 (by decide)
      have e19 : g2 19 = g 19 := q1 19 (by decide)
      have hv : vC g2 = vC g := vC_cong (fun c' h' => q1 c' (by unfold vcell at h'; omega))
      rw [List.range_succ, List.find?_append] at q4
      refine R_iload_n dX7_take_39 rfl ?_
      refine R_if_lt 121 dX7_take_40 (by decide) (fun hc40 => ?_) (fun hc40 => ?_)
      · exact absurd hc40 (by omega)
      rw [show ((m + 1 : Nat) : Int) - 1 = (m : Int) by omega]
      refine R_aload_n dX7_take_43 rfl ?_
      refine R_iload_n dX7_take_44 rfl ?_
      refine R_callV (c_X8_at hr (by rw [e19]; omega) (m : Int) (by rw [e19]; omega)) (mvX8_at _) kiX8_at kvX8_at km7_35 rfl rfl (by decide) ⟨rfl, rfl, by decide, by decide⟩ (Nat.le_of_ble_eq_true rfl) dX7_take_45 (fun v1 sh1 g1 z1 r1 hq => ?_)
      obtain ⟨rfl, rfl, rfl, rfl, rfl⟩ := hq
      rw [e20, Int.toNat_natCast]
      have yes : canR (vC g) (g 20) m = true → 0 ≤ g 20 m ∧ g 20 m ≤ 6 → RJ (mX7_take (rmD 4 0 0)) 0 0 shW.length Q 0 0 shW 85 [some (vR (some 39)), some (vR (some 19)), some (vI st), some (vI (m : Int)), some (vI (g 20 m)), a5] [] g2 z r := by
        intro hcan hT6
        have hq4 : (match (List.range m).find? (fun i => !canR (vC g) (g 20) i) with | some i => (i : Int) | none => st) = (match strF (vC g) (g 20) nF with | some i => (i : Int) | none => -1) := by
          rw [← q4]
          cases (List.range m).find? (fun i => !canR (vC g) (g 20) i) with
          | some i => rfl
          | none => simp [hcan]
        obtain ⟨t, ht⟩ : ∃ t : Nat, g 20 m = (t : Int) := ⟨(g 20 m).toNat, by omega⟩
        have hBt : B t < 1024 := by
          have : B t < 2 ^ 10 := Nat.lt_pow_two_of_testBit _ (fun i hi => by rw [q3]; simp; omega)
          omega
        refine R_iconst dX7_take_85 rfl rfl ?_
        refine R_goto 90 dX7_take_86 (by decide) ?_
        refine R_istore dX7_take_90 (by decide) rfl [_, _, _, _, _, _] rfl ?_
        refine R_iload dX7_take_92 rfl ?_
        refine R_if_eq 113 dX7_take_94 (by decide) (fun hc94 => ?_) (fun hc94 => ?_)
        · exact absurd hc94 (by decide)
        refine R_aload_n dX7_take_97 rfl ?_
        refine R_getR _ (hr _ _ _ rfl) fd7_2 kf7_9 rfl dX7_take_98 ?_
        refine R_iload dX7_take_101 rfl ?_
        refine R_dup2 dX7_take_103 (fun _ h => by cases h) (fun _ h => by cases h) ?_
        rw [ht]
        refine R_iald rfl (by omega) (by omega) dX7_take_104 ?_
        rw [Int.toNat_natCast, q2 t (by omega)]
        refine R_iconst dX7_take_105 rfl rfl ?_
        refine R_iload_n dX7_take_106 rfl ?_
        refine R_ishl dX7_take_107 ?_
        refine R_ior dX7_take_108 ?_
        rw [or_bit (by omega) (by omega)]
        refine R_iast rfl (by omega) (by omega) dX7_take_109 ?_
        refine R_goto 115 dX7_take_110 (by decide) ?_
        refine R_iincN dX7_take_115 rfl (by decide) rfl (by unfold inI; omega) [_, _, _, _, _, _] rfl ?_
        refine R_goto 39 dX7_take_118 (by decide) ?_
        rw [Int.toNat_natCast, show (m : Int) + -1 = (m : Int) - 1 by omega]
        refine ih st _ (fun c => if c = t then B t ||| 2 ^ m else B c) _ _ (by omega) (fun c' h' => by rw [up2_ne h']; exact q1 c' h') (fun c hc => ?_) (fun c i => ?_) hq4
        · by_cases hct : c = t
          · subst hct; rw [up2_s]; simp
          · rw [up2_k hct]; simp only [hct, if_false]; exact q2 c hc
        · by_cases hct : c = t
          · subst hct
            simp only [if_true]
            rw [Nat.testBit_or, q3, Nat.testBit_two_pow]
            by_cases him : i = m
            · subst him
              simp [hcan, ht]; omega
            · have e1 : decide (m = i) = false := by simp only [decide_eq_false_iff_not]; omega
              have e2 : decide (m + 1 ≤ i ∧ i < nF) = decide (m ≤ i ∧ i < nF) := by simp only [decide_eq_decide]; omega
              rw [e1, Bool.or_false, e2]
          · simp only [hct, if_false]
            rw [q3]
            by_cases him : i = m
            · subst him
              have : decide (g 20 i = (c : Int)) = false := by simp only [decide_eq_false_iff_not]; omega
              simp [this]
            · have e2 : decide (m + 1 ≤ i ∧ i < nF) = decide (m ≤ i ∧ i < nF) := by simp only [decide_eq_decide]; omega
              rw [e2]
      have no : canR (vC g) (g 20) m = false → RJ (mX7_take (rmD 4 0 0)) 0 0 shW.length Q 0 0 shW 89 [some (vR (some 39)), some (vR (some 19)), some (vI st), some (vI (m : Int)), some (vI (g 20 m)), a5] [] g2 z r := by
        intro hcan
        refine R_iconst dX7_take_89 rfl rfl ?_
        refine R_istore dX7_take_90 (by decide) rfl [_, _, _, _, _, _] rfl ?_
        refine R_iload dX7_take_92 rfl ?_
        refine R_if_eq 113 dX7_take_94 (by decide) (fun hc94 => ?_) (fun hc94 => ?_)
        · refine R_iload_n dX7_take_113 rfl ?_
          refine R_istore_n dX7_take_114 (by decide) rfl [_, _, _, _, _, _] rfl ?_
          refine R_iincN dX7_take_115 rfl (by decide) rfl (by unfold inI; omega) [_, _, _, _, _, _] rfl ?_
          refine R_goto 39 dX7_take_118 (by decide) ?_
          rw [show (m : Int) + -1 = (m : Int) - 1 by omega]
          refine ih (m : Int) g2 B _ _ (by omega) q1 q2 (fun c i => ?_) ?_
          · rw [q3]
            by_cases him : i = m
            · subst him; simp [hcan]
            · have e2 : decide (m + 1 ≤ i ∧ i < nF) = decide (m ≤ i ∧ i < nF) := by simp only [decide_eq_decide]; omega
              rw [e2]
          · rw [← q4]
            cases (List.range m).find? (fun i => !canR (vC g) (g 20) i) with
            | some i => rfl
            | none => simp [hcan]
        · exact absurd rfl hc94
      have ecan : canR (vC g) (g 20) m = (decide (g 20 m = 6) || (decide (0 ≤ g 20 m ∧ g 20 m < g 5 5) && canTie (vC g) m (g 20 m).toNat)) := rfl
      refine R_istore dX7_take_48 (by decide) rfl [_, _, _, _, _, _] rfl ?_
      refine R_iload dX7_take_50 rfl ?_
      refine R_bipush dX7_take_52 rfl (by decide +kernel) ?_
      refine R_icmp_eq 85 dX7_take_54 (by decide) (fun hc54 => ?_) (fun hc54 => ?_)
      · exact yes (by rw [ecan]; simp [hc54]) (by omega)
      refine R_aload_n dX7_take_57 rfl ?_
      refine R_getR _ (hr _ _ _ rfl) fd7_0 kf7_15 rfl dX7_take_58 ?_
      refine R_getR _ (hr _ _ _ rfl) fd0_1 kf7_41 rfl dX7_take_61 ?_
      refine R_iload dX7_take_64 rfl ?_
      refine R_callV (c_X1_has hr (g 20 m)) (mvX1_has _) kiX1_has kvX1_has km7_45 rfl rfl (by decide) ⟨rfl, rfl, by decide, by decide⟩ (Nat.le_of_ble_eq_true rfl) dX7_take_66 (fun v1 sh1 g1 z1 r1 hq => ?_)
      obtain ⟨rfl, rfl, rfl, rfl, rfl⟩ := hq
      rw [q1 5 (by decide)]
      by_cases hh : 0 ≤ g 20 m ∧ g 20 m < g 5 5
      · rw [b2i_t hh]
        refine R_if_eq 89 dX7_take_69 (by decide) (fun hc69 => ?_) (fun hc69 => ?_)
        · exact absurd hc69 (by decide)
        refine R_aload_n dX7_take_72 rfl ?_
        refine R_getR _ (hr _ _ _ rfl) fd7_0 kf7_15 rfl dX7_take_73 ?_
        refine R_iload_n dX7_take_76 rfl ?_
        refine R_iload dX7_take_77 rfl ?_
        refine R_callV (c_X0_canTie hr (m : Int) (g 20 m) (by omega) (by omega)) (mvX0_canTie _) kiX0_canTie kvX0_canTie km7_51 rfl rfl (by decide) ⟨rfl, rfl, by decide, by decide⟩ (Nat.le_of_ble_eq_true rfl) dX7_take_79 (fun v1 sh1 g1 z1 r1 hq => ?_)
        obtain ⟨rfl, rfl, rfl, rfl, rfl⟩ := hq
        rw [hv, Int.toNat_natCast]
        by_cases ht : canTie (vC g) m (g 20 m).toNat = true
        · rw [bi_t ht]
          refine R_if_eq 89 dX7_take_82 (by decide) (fun hc82 => ?_) (fun hc82 => ?_)
          · exact absurd hc82 (by decide)
          · exact yes (by rw [ecan]; simp [hh, ht]) (by omega)
        · rw [bi_f ht]
          refine R_if_eq 89 dX7_take_82 (by decide) (fun hc82 => ?_) (fun hc82 => ?_)
          · exact no (by rw [ecan]; simp [hc54, ht])
          · exact absurd rfl hc82
      · rw [b2i_f hh]
        refine R_if_eq 89 dX7_take_69 (by decide) (fun hc69 => ?_) (fun hc69 => ?_)
        · exact no (by rw [ecan]; simp only [hc54, hh, decide_false, Bool.false_and, Bool.or_self])
        · exact absurd rfl hc69
  have loop1 : ∀ (n k : Nat) (o : Nat → Int), k + n = 7 → (∀ j, j < k → o j = 0) → RJ (mX7_take (rmD 4 0 0)) 0 0 shW.length Q 0 0 shW 2 [some (vR (some 39)), some (vR (some 19)), some (vI ((k : Int))), none, none, none] [] (upC g 40 o) z r := by
    intro n
    induction n with
    | zero =>
      intro k o hk h0
      refine R_iload_n dX7_take_2 rfl ?_
      refine R_aload_n dX7_take_3 rfl ?_
      refine R_getR _ (hr _ _ _ rfl) fd7_2 kf7_9 rfl dX7_take_4 ?_
      refine R_alen15 rfl (by decide) dX7_take_7 ?_
      refine R_icmp_ge 24 dX7_take_8 (by decide) (fun hc8 => ?_) (fun hc8 => ?_)
      · refine R_iconst dX7_take_24 rfl rfl ?_
        refine R_istore_n dX7_take_25 (by decide) rfl [_, _, _, _, _, _] rfl ?_
        refine R_aload_n dX7_take_26 rfl ?_
        refine R_getR _ (hr _ _ _ rfl) fd7_0 kf7_15 rfl dX7_take_27 ?_
        try simp +decide only [up2_far, up2_s, up2_kk]
        refine R_getR _ (hr _ _ _ rfl) fd0_2 kf7_23 rfl dX7_take_30 ?_
        try simp +decide only [up2_far, up2_s, up2_kk]
        refine R_getI fd4_7 kf7_29 rfl dX7_take_33 ?_
        try simp +decide only [up2_far, up2_s, up2_kk]
        refine R_iconst dX7_take_36 rfl rfl ?_
        rw [show upC g 40 o 11 7 = g 11 7 from upC_far (by decide), hnF]
        refine R_isubN dX7_take_37 (by unfold inI; omega) ?_
        refine R_istore_n dX7_take_38 (by decide) rfl [_, _, _, _, _, _] rfl ?_
        exact loop2 nF (-1) _ (fun _ => 0) _ _ (Nat.le_refl _) (fun c' h' => by funext q; exact upC_far h') (fun c hc => by rw [upC_s, h0 c (by omega)]; rfl) (fun c i => by simp; omega) rfl
      · exact absurd (by omega) hc8
    | succ n ih =>
      intro k o hk h0
      refine R_iload_n dX7_take_2 rfl ?_
      refine R_aload_n dX7_take_3 rfl ?_
      refine R_getR _ (hr _ _ _ rfl) fd7_2 kf7_9 rfl dX7_take_4 ?_
      refine R_alen15 rfl (by decide) dX7_take_7 ?_
      refine R_icmp_ge 24 dX7_take_8 (by decide) (fun hc8 => ?_) (fun hc8 => ?_)
      · exact absurd hc8 (by omega)
      refine R_aload_n dX7_take_11 rfl ?_
      refine R_getR _ (hr _ _ _ rfl) fd7_2 kf7_9 rfl dX7_take_12 ?_
      refine R_iload_n dX7_take_15 rfl ?_
      refine R_iconst dX7_take_16 rfl rfl ?_
      refine R_iast rfl (by omega) (by omega) dX7_take_17 ?_
      refine R_iincN dX7_take_18 rfl (by decide) rfl (by unfold inI; omega) [_, _, _, _, _, _] rfl ?_
      refine R_goto 2 dX7_take_21 (by decide) ?_
      rw [Int.toNat_natCast, up2_upC]
      refine ih (k + 1) _ (by omega) (fun j hj => ?_)
      by_cases hjk : j = k
      · simp [hjk]
      · simp only [hjk, if_false]; exact h0 j (by omega)
  refine R_iconst dX7_take_0 rfl rfl ?_
  refine R_istore_n dX7_take_1 (by decide) rfl [_, _, _, _, _, _] rfl ?_
  have h := loop1 7 0 (g 40) (by omega) (fun j hj => absurd hj (by omega))
  rw [upC_self] at h
  exact h
end ROW
