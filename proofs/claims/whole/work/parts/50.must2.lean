/-- the least over pairs of NAMES that the parents of a SEX may have: NAMES below n as the second one's -/
def mIn (s : VW) (f : Nat → Nat → Nat) (c sex his : Nat) : Nat → Nat → Nat
  | 0, acc => acc
  | n + 1, acc => if mhS s c sex (his : Int) && mhS s c (sex + 2) (n : Int) then (if f his n < mIn s f c sex his n acc then f his n else mIn s f c sex his n acc) else mIn s f c sex his n acc
def mOut (s : VW) (f : Nat → Nat → Nat) (c sex : Nat) : Nat → Nat
  | 0 => 6
  | n + 1 => mIn s f c sex n (s 0 0).toNat (mOut s f c sex n)
def hw2 (sex his hers : Nat) : Nat → Int := fun k => if k = sex then (his : Int) else (hers : Int)
/-- MUST HAVE BEEN -/
def muS (s : VW) (K : Nat → CUS) (a b Y : Int) (c : Nat) (l : List Nat) (sex : Nat) : Nat := mOut s (fun his hers => fewU s (ltA s K a b Y c l) (hw2 sex his hers) c l (sex : Int) l.length) c sex (s 0 0).toNat
theorem fF_bit {K : CUS} {th : Nat} {e : Nat → Int} : fF K th e = -1 ∨ ∃ q : Nat, fF K th e = (q : Int) ∧ th.testBit q = true := by
  unfold fF
  cases h : K.find? (fun q => th.testBit q.1 && q.2 e) with
  | none => exact Or.inl rfl
  | some q =>
    have := List.find?_some h
    rw [Bool.and_eq_true] at this
    exact Or.inr ⟨q.1, rfl, this.1⟩
theorem thS_par {s : VW} {l : List Nat} {j q : Nat} (hs : sx s (l.getD j 0) = 0 ∨ sx s (l.getD j 0) = 1) (h : (thS s l j).testBit q = true) (h4 : q < 4) : ((q % 2 : Nat) : Int) = sx s (l.getD j 0) := by
  unfold thS at h
  rcases (show q = 0 ∨ q = 1 ∨ q = 2 ∨ q = 3 by omega) with rfl | rfl | rfl | rfl <;> rcases hs with hs | hs <;> rw [hs] at h ⊢ <;> first | rfl | (exfalso; revert h; split <;> split <;> decide)
section MUST2
variable {g z : GG} {r : RR}
theorem c_X3_suits (hr : RS r) (hB : BD g) (c : Nat) (hc6 : c < 6) (hgc : g 32 7 = (c : Int)) (l : List Nat) (hl : FamIs g l) (hm : ∀ a ∈ l, a < 10) (hll : l.length ≤ 10) (A : Nat → Nat → Int) (j x : Nat) (hj : j < l.length) (hx : x ≤ 5) (h38 : g 38 (j * 6 + x) = A j x) (h35 : g 35 j = ddN (vC g) (l.getD j 0) (l.take j)) : CT (mX3_suits (rmD 2 0 0)) 0 0 shW [vR (some 32), vI (j : Int), vI (x : Int)] g z r (qG shW z r fun v g' => v = some (vI (bi (okM (vC g) A (g 36) c l j x))) ∧ g' = up2 g 34 j (A j x)) := by
  refine CT.of 1 rfl rfl ?_
  have ha := hm _ (getD_mem hj)
  have hgj := fam_at hl hj
  have hl2 : FamIs (up2 g 34 j (A j x)) l := FamIs_cong (up2_far (by decide)) (up2_ne (by decide)) hl
  have hdue : dueG (up2 g 34 j (A j x)) c l j = duM (vC g) (g 36) c l j (A j x) := by
    unfold dueG duM
    rw [up2_s, up2_far (by decide), up2_far (by decide), up2_far (by decide), up2_far (by decide), up2_far (by decide), h35]
    rfl
  refine R_aload_n dX3_suits_0 rfl ?_
  refine R_getR _ (hr _ _ _ rfl) fd3_2 kf3_15 rfl dX3_suits_1 ?_
  refine R_iload_n dX3_suits_4 rfl ?_
  refine R_aload_n dX3_suits_5 rfl ?_
  refine R_getR _ (hr _ _ _ rfl) fd3_6 kf3_35 rfl dX3_suits_6 ?_
  refine R_iload_n dX3_suits_9 rfl ?_
  refine R_bipush dX3_suits_10 rfl (by decide +kernel) ?_
  refine R_imulN dX3_suits_12 (by unfold inI; omega) ?_
  refine R_iload_n dX3_suits_13 rfl ?_
  refine R_iaddN dX3_suits_14 (by unfold inI; omega) ?_
  refine R_iald rfl (by omega) (by omega) dX3_suits_15 ?_
  rw [show ((j : Int) * 6 + (x : Int)).toNat = j * 6 + x by omega, h38]
  refine R_iast rfl (by omega) (by omega) dX3_suits_16 ?_
  refine R_aload_n dX3_suits_17 rfl ?_
  refine R_iload_n dX3_suits_18 rfl ?_
  rw [Int.toNat_natCast]
  refine R_callV (c_X3_due hr c hc6 (by rw [up2_far (by decide)]; exact hgc) l hl2 hm hll j hj) (mvX3_due _) kiX3_due kvX3_due km3_86 rfl rfl (by decide) ⟨rfl, rfl, by decide, by decide⟩ (Nat.le_of_ble_eq_true rfl) dX3_suits_19 (fun v1 sh1 g1 z1 r1 hq => ?_)
  obtain ⟨rfl, rfl, rfl, rfl, rfl⟩ := hq
  rw [hdue]
  have e8 : (vC g) 8 (l.getD j 0) = g 12 (l.getD j 0) := rfl
  refine R_istore_n dX3_suits_22 (by decide) rfl [_, _, _, _] rfl ?_
  refine R_iload_n dX3_suits_23 rfl ?_
  refine R_bipush dX3_suits_24 rfl (by decide +kernel) ?_
  refine R_icmp_eq 50 dX3_suits_26 (by decide) (fun hc26 => ?_) (fun hc26 => ?_)
  · refine R_iconst dX3_suits_50 rfl rfl ?_
    refine R_goto 55 dX3_suits_51 (by decide) ?_
    refine R_ireturn rfl (by first | rfl | exact nar_b2i | exact nar_bi) (by decide) (by decide) dX3_suits_55 ?_
    exact ⟨⟨by rw [bi_t (by unfold okM; simp [hc26])], rfl⟩, rfl, rfl, rfl⟩
  · refine R_iload_n dX3_suits_29 rfl ?_
    refine R_aload_n dX3_suits_30 rfl ?_
    refine R_getR _ (hr _ _ _ rfl) fd3_0 kf3_38 rfl dX3_suits_31 ?_
    try simp +decide only [up2_far, up2_s, up2_kk]
    refine R_getR _ (hr _ _ _ rfl) fd0_2 kf3_49 rfl dX3_suits_34 ?_
    try simp +decide only [up2_far, up2_s, up2_kk]
    refine R_getR _ (hr _ _ _ rfl) fd4_0 kf3_72 rfl dX3_suits_37 ?_
    try simp +decide only [up2_far, up2_s, up2_kk]
    refine R_aload_n dX3_suits_40 rfl ?_
    refine R_getR _ (hr _ _ _ rfl) fd3_1 kf3_9 rfl dX3_suits_41 ?_
    try simp +decide only [up2_far, up2_s, up2_kk]
    refine R_iload_n dX3_suits_44 rfl ?_
    refine R_iald rfl (by omega) (by omega) dX3_suits_45 ?_
    try simp +decide only [up2_far, up2_s, up2_kk]
    rw [Int.toNat_natCast, hgj]
    refine R_iald rfl (by omega) (by omega) dX3_suits_46 ?_
    try simp +decide only [up2_far, up2_s, up2_kk]
    rw [Int.toNat_natCast]
    refine R_icmp_ne 54 dX3_suits_47 (by decide) (fun hc47 => ?_) (fun hc47 => ?_)
    · refine R_iconst dX3_suits_54 rfl rfl ?_
      refine R_ireturn rfl (by first | rfl | exact nar_b2i | exact nar_bi) (by decide) (by decide) dX3_suits_55 ?_
      exact ⟨⟨by rw [bi_f (by unfold okM; rw [e8]; simp only [Bool.or_eq_true, decide_eq_true_eq]; omega)], rfl⟩, rfl, rfl, rfl⟩
    · refine R_iconst dX3_suits_50 rfl rfl ?_
      refine R_goto 55 dX3_suits_51 (by decide) ?_
      refine R_ireturn rfl (by first | rfl | exact nar_b2i | exact nar_bi) (by decide) (by decide) dX3_suits_55 ?_
      exact ⟨⟨by rw [bi_t (by unfold okM; rw [e8]; simp only [Bool.or_eq_true, decide_eq_true_eq]; omega)], rfl⟩, rfl, rfl, rfl⟩
theorem c_X3_fewest (hr : RS r) (hB : BD g) (c : Nat) (hc6 : c < 6) (hgc : g 32 7 = (c : Int)) (l : List Nat) (hl : FamIs g l) (hm : ∀ a ∈ l, a < 10) (hll : l.length ≤ 10) (A : Nat → Nat → Int) (h38 : ∀ j x, j < l.length → x ≤ 5 → g 38 (j * 6 + x) = A j x) (h35 : ∀ j, j < l.length → g 35 j = ddN (vC g) (l.getD j 0) (l.take j)) (sex : Int) : CT (mX3_fewest (rmD 3 0 0)) 0 0 shW [vR (some 32), vI sex] g z r (qG shW z r fun v g' => v = some (vI (fewU (vC g) A (g 36) c l sex l.length : Nat)) ∧ ∀ c', c' ≠ 34 → g' c' = g c') := by
  refine CT.of 2 rfl rfl ?_
  generalize hQ : (qG shW z r fun v g' => v = some (vI (fewU (vC g) A (g 36) c l sex l.length : Nat)) ∧ ∀ c', c' ≠ 34 → g' c' = g c') = Q
  have hcong : ∀ g' : GG, (∀ c', c' ≠ 34 → g' c' = g c') → vC g' = vC g ∧ BD g' ∧ FamIs g' l ∧ g' 32 7 = (c : Int) := by
    intro g' h
    have hv : ∀ c', vcell c' → g' c' = g c' := fun c' h' => h c' (by unfold vcell at h'; omega)
    exact ⟨vC_cong hv, BD_cong hv hB, FamIs_cong (by rw [h 32 (by decide)]) (h 33 (by decide)) hl, by rw [h 32 (by decide)]; exact hgc⟩
  have outer : ∀ (n j : Nat) (g' : GG), j + n = l.length → (∀ c', c' ≠ 34 → g' c' = g c') → RJ (mX3_fewest (rmD 3 0 0)) 0 0 shW.length Q 0 0 shW 4 [some (vR (some 32)), some (vI (sex)), some (vI (((fewU (vC g) A (g 36) c l sex j : Nat) : Int))), some (vI ((j : Int)))] [] g' z r := by
    intro n
    induction n with
    | zero =>
      intro j g' hj h1
      obtain ⟨k1, k2, k4, k6⟩ := hcong g' h1
      refine R_iload_n dX3_fewest_4 rfl ?_
      refine R_aload_n dX3_fewest_5 rfl ?_
      refine R_getI fd3_8 kf3_46 rfl dX3_fewest_6 ?_
      rw [k4.1]
      refine R_icmp_ge 47 dX3_fewest_9 (by decide) (fun hc9 => ?_) (fun hc9 => ?_)
      · refine R_iload_n dX3_fewest_47 rfl ?_
        refine R_ireturn rfl (by first | rfl | exact nar_b2i | exact nar_bi) (by decide) (by decide) dX3_fewest_48 ?_
        rw [← hQ]
        exact ⟨⟨by rw [show l.length = j by omega], h1⟩, rfl, rfl, rfl⟩
      · exact absurd (by omega) hc9
    | succ n ih =>
      intro j g' hj h1
      obtain ⟨k1, k2, k4, k6⟩ := hcong g' h1
      have hjl : j < l.length := by omega
      have hn := fun g' => ih (j + 1) g' (by omega)
      rw [fewU] at hn
      refine R_iload_n dX3_fewest_4 rfl ?_
      refine R_aload_n dX3_fewest_5 rfl ?_
      refine R_getI fd3_8 kf3_46 rfl dX3_fewest_6 ?_
      rw [k4.1]
      refine R_icmp_ge 47 dX3_fewest_9 (by decide) (fun hc9 => ?_) (fun hc9 => ?_)
      · exact absurd hc9 (by omega)
      by_cases hsx : sx (vC g) (l.getD j 0) = sex
      · rw [if_pos hsx] at hn
        have inner : ∀ (m x : Nat) (g2 : GG), x + m = 6 → (∀ c', c' ≠ 34 → g2 c' = g c') → advM (okM (vC g) A (g 36) c l j) m x = advM (okM (vC g) A (g 36) c l j) 6 (fewU (vC g) A (g 36) c l sex j) → RJ (mX3_fewest (rmD 3 0 0)) 0 0 shW.length Q 0 0 shW 12 [some (vR (some 32)), some (vI (sex)), some (vI ((x : Int))), some (vI ((j : Int)))] [] g2 z r := by
          intro m
          induction m with
          | zero =>
            intro x g2 hx q1 q2
            obtain ⟨v1', v2', v4', v6'⟩ := hcong g2 q1
            refine R_aload_n dX3_fewest_12 rfl ?_
            refine R_iload_n dX3_fewest_13 rfl ?_
            refine R_callV (c_X3_sexAt hr v2' l v4' hm hll j hjl) (mvX3_sexAt _) kiX3_sexAt kvX3_sexAt km3_124 rfl rfl (by decide) ⟨rfl, rfl, by decide, by decide⟩ (Nat.le_of_ble_eq_true rfl) dX3_fewest_14 (fun v1 sh1 g1 z1 r1 hq => ?_)
            obtain ⟨rfl, rfl, rfl, rfl, rfl⟩ := hq
            rw [v1', hsx]
            refine R_iload_n dX3_fewest_17 rfl ?_
            refine R_icmp_ne 41 dX3_fewest_18 (by decide) (fun hc18 => ?_) (fun hc18 => ?_)
            · exact absurd rfl hc18
            refine R_iload_n dX3_fewest_21 rfl ?_
            refine R_iconst dX3_fewest_22 rfl rfl ?_
            refine R_icmp_gt 41 dX3_fewest_23 (by decide) (fun hc23 => ?_) (fun hc23 => ?_)
            · refine R_iincN dX3_fewest_41 rfl (by decide) rfl (by unfold inI; omega) [_, _, _, _] rfl ?_
              refine R_goto 4 dX3_fewest_44 (by decide) ?_
              have := hn g2 q1
              rw [← q2, advM] at this
              exact this
            · exact absurd (by omega) hc23
          | succ m ihm =>
            intro x g2 hx q1 q2
            obtain ⟨v1', v2', v4', v6'⟩ := hcong g2 q1
            rw [advM] at q2
            refine R_aload_n dX3_fewest_12 rfl ?_
            refine R_iload_n dX3_fewest_13 rfl ?_
            refine R_callV (c_X3_sexAt hr v2' l v4' hm hll j hjl) (mvX3_sexAt _) kiX3_sexAt kvX3_sexAt km3_124 rfl rfl (by decide) ⟨rfl, rfl, by decide, by decide⟩ (Nat.le_of_ble_eq_true rfl) dX3_fewest_14 (fun v1 sh1 g1 z1 r1 hq => ?_)
            obtain ⟨rfl, rfl, rfl, rfl, rfl⟩ := hq
            rw [v1', hsx]
            refine R_iload_n dX3_fewest_17 rfl ?_
            refine R_icmp_ne 41 dX3_fewest_18 (by decide) (fun hc18 => ?_) (fun hc18 => ?_)
            · exact absurd rfl hc18
            refine R_iload_n dX3_fewest_21 rfl ?_
            refine R_iconst dX3_fewest_22 rfl rfl ?_
            refine R_icmp_gt 41 dX3_fewest_23 (by decide) (fun hc23 => ?_) (fun hc23 => ?_)
            · exact absurd hc23 (by omega)
            refine R_aload_n dX3_fewest_26 rfl ?_
            refine R_iload_n dX3_fewest_27 rfl ?_
            refine R_iload_n dX3_fewest_28 rfl ?_
            refine R_callV (c_X3_suits hr v2' c hc6 v6' l v4' hm hll A j x hjl (by omega) (by rw [q1 38 (by decide)]; exact h38 j x hjl (by omega)) (by rw [q1 35 (by decide), v1']; exact h35 j hjl)) (mvX3_suits _) kiX3_suits kvX3_suits km3_184 rfl rfl (by decide) ⟨rfl, rfl, by decide, by decide⟩ (Nat.le_of_ble_eq_true rfl) dX3_fewest_29 (fun v1 sh1 g1 z1 r1 hq => ?_)
            obtain ⟨⟨rfl, rfl⟩, rfl, rfl, rfl⟩ := hq
            rw [v1', q1 36 (by decide)]
            have q3 : ∀ c', c' ≠ 34 → (up2 g2 34 j (A j x)) c' = g c' := fun c' h' => by rw [up2_ne h']; exact q1 c' h'
            by_cases hok : okM (vC g) A (g 36) c l j x = true
            · rw [bi_t hok]
              rw [if_neg (fun q => by rw [hok] at q; exact absurd q.2 (by decide))] at q2
              refine R_if_ne 41 dX3_fewest_32 (by decide) (fun hc32 => ?_) (fun hc32 => ?_)
              · refine R_iincN dX3_fewest_41 rfl (by decide) rfl (by unfold inI; omega) [_, _, _, _] rfl ?_
                refine R_goto 4 dX3_fewest_44 (by decide) ?_
                have := hn _ q3
                rw [← q2] at this
                exact this
              · exact absurd hc32 (by decide)
            · rw [bi_f hok]
              rw [if_pos ⟨by omega, Bool.eq_false_iff.mpr hok⟩] at q2
              refine R_if_ne 41 dX3_fewest_32 (by decide) (fun hc32 => ?_) (fun hc32 => ?_)
              · exact absurd rfl hc32
              · refine R_iincN dX3_fewest_35 rfl (by decide) rfl (by unfold inI; omega) [_, _, _, _] rfl ?_
                refine R_goto 12 dX3_fewest_38 (by decide) ?_
                exact ihm (x + 1) _ (by omega) q3 q2
        have hle := fewU_le (s := vC g) (A := A) (hw := g 36) (c := c) (l := l) (sex := sex) j
        refine inner (6 - fewU (vC g) A (g 36) c l sex j) (fewU (vC g) A (g 36) c l sex j) g' (by omega) h1 ?_
        have adv_fuel : ∀ (m m' x : Nat), 6 ≤ x + m → 6 ≤ x + m' → advM (okM (vC g) A (g 36) c l j) m x = advM (okM (vC g) A (g 36) c l j) m' x := by
          intro m
          induction m with
          | zero =>
            intro m' x hm1 hm2
            cases m' with
            | zero => rfl
            | succ m' => rw [advM, advM, if_neg (by omega)]
          | succ m ihm =>
            intro m' x hm1 hm2
            cases m' with
            | zero => rw [advM, advM, if_neg (by omega)]
            | succ m' =>
              rw [advM, advM]
              split
              · exact ihm m' (x + 1) (by omega) (by omega)
              · rfl
        exact adv_fuel _ _ _ (by omega) (by omega)
      · rw [if_neg hsx] at hn
        refine R_aload_n dX3_fewest_12 rfl ?_
        refine R_iload_n dX3_fewest_13 rfl ?_
        refine R_callV (c_X3_sexAt hr k2 l k4 hm hll j hjl) (mvX3_sexAt _) kiX3_sexAt kvX3_sexAt km3_124 rfl rfl (by decide) ⟨rfl, rfl, by decide, by decide⟩ (Nat.le_of_ble_eq_true rfl) dX3_fewest_14 (fun v1 sh1 g1 z1 r1 hq => ?_)
        obtain ⟨rfl, rfl, rfl, rfl, rfl⟩ := hq
        rw [k1]
        refine R_iload_n dX3_fewest_17 rfl ?_
        refine R_icmp_ne 41 dX3_fewest_18 (by decide) (fun hc18 => ?_) (fun hc18 => ?_)
        · refine R_iincN dX3_fewest_41 rfl (by decide) rfl (by unfold inI; omega) [_, _, _, _] rfl ?_
          refine R_goto 4 dX3_fewest_44 (by decide) ?_
          exact hn g' h1
        · exact absurd hc18 hsx
  refine R_iconst dX3_fewest_0 rfl rfl ?_
  refine R_istore_n dX3_fewest_1 (by decide) rfl [_, _, _, _] rfl ?_
  refine R_iconst dX3_fewest_2 rfl rfl ?_
  refine R_istore_n dX3_fewest_3 (by decide) rfl [_, _, _, _] rfl ?_
  exact outer l.length 0 g (by omega) (fun _ _ => rfl)
end MUST2
