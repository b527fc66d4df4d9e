/-- how the reference goes on from NAMES p of the two parents (16: open), child k having letter t -/
def stM (s : VW) (c : Nat) (l : List Nat) (k : Nat) (t : Int) (p : Nat × Nat) : Option (Nat × Nat) :=
  if t < 0 then some p
  else if toldS s c l k t.toNat ≠ -1 then (if toldS s c l k t.toNat = s 8 (l.getD k 0) then some p else none)
  else if t < 2 then (if p.1 = 16 ∨ (p.1 : Int) = s 8 (l.getD k 0) then some ((s 8 (l.getD k 0)).toNat, p.2) else none)
  else (if p.2 = 16 ∨ (p.2 : Int) = s 8 (l.getD k 0) then some (p.1, (s 8 (l.getD k 0)).toNat) else none)
/-- what the reference holds possible behind n children: so many unwritten ones, such NAMES -/
def CM (s : VW) (A : Nat → Nat → Int) (c : Nat) (l : List Nat) (sex : Int) : Nat → Nat → Nat × Nat → Prop
  | 0, a, p => a = 0 ∧ p = (16, 16)
  | j + 1, a, p => if sx s (l.getD j 0) = sex then (a ≤ 5 ∧ ∃ a0 p0, a0 ≤ a ∧ CM s A c l sex j a0 p0 ∧ stM s c l j (A j a) p0 = some p) else CM s A c l sex j a p
def PH (s : VW) (c : Nat) (l : List Nat) (A : Nat → Nat → Int) : Prop :=
  (∀ j x, j < l.length → A j x = -1 ∨ ∃ q : Nat, A j x = (q : Int) ∧ q < 8 ∧ (q < 4 → ((q % 2 : Nat) : Int) = sx s (l.getD j 0)) ∧ (4 ≤ q → 0 ≤ toldS s c l j q)) ∧
  (∀ j, j < l.length → 0 ≤ s 8 (l.getD j 0) ∧ s 8 (l.getD j 0) ≤ 15 ∧ s 8 (l.getD j 0) < s 0 0) ∧
  (∀ w, w < 4 → s 7 (c * 4 + w) = -1 ∨ (0 ≤ s 7 (c * 4 + w) ∧ s 7 (c * 4 + w) < s 0 0 ∧ s 1 (s 7 (c * 4 + w)).toNat = ((w % 2 : Nat) : Int))) ∧
  (∀ x : Nat, x < 2 → ∃ v : Nat, (v : Int) < s 0 0 ∧ s 1 v = (x : Int))
theorem advM_of {ok : Nat → Bool} {e : Nat} (h5 : ok e = true) : ∀ (n x : Nat), x ≤ e → advM ok n x ≤ e := by
  intro n
  induction n with
  | zero => intro x h; exact h
  | succ n ih =>
    intro x h
    unfold advM
    split
    · rename_i q
      refine ih (x + 1) ?_
      have : x ≠ e := fun eq => by rw [eq, h5] at q; exact absurd q.2 (by decide)
      omega
    · exact h
theorem advM_ge {ok : Nat → Bool} : ∀ (n x : Nat), x ≤ advM ok n x := by
  intro n
  induction n with
  | zero => intro x; exact Nat.le_refl _
  | succ n ih =>
    intro x
    unfold advM
    split
    · exact Nat.le_trans (Nat.le_succ x) (ih (x + 1))
    · exact Nat.le_refl _
theorem advM_ok {ok : Nat → Bool} : ∀ (n x : Nat), 6 ≤ x + n → advM ok n x ≤ 5 → ok (advM ok n x) = true := by
  intro n
  induction n with
  | zero => intro x h h5; simp only [advM] at h5; omega
  | succ n ih =>
    intro x h h5
    unfold advM at h5 ⊢
    split
    · rename_i q
      rw [if_pos q] at h5
      exact ih (x + 1) (by omega) h5
    · rename_i q
      rw [if_neg q] at h5
      by_cases e : ok x = true
      · exact e
      · exact absurd ⟨h5, Bool.eq_false_iff.mpr e⟩ q
section MUSTM
variable {s : VW} {c : Nat} {l : List Nat} {A : Nat → Nat → Int} {sex : Nat}
theorem mh_name (hsex : sex < 2) (w : Nat) (hw : w = sex ∨ w = sex + 2) {v : Int} (h7 : s 7 (c * 4 + w) = -1) (h0 : 0 ≤ v) (h1 : v < s 0 0) (h2 : s 1 v.toNat = (sex : Int)) : mhS s c w v = true := by
  unfold mhS
  rw [if_pos h7, decide_eq_true_eq]
  exact ⟨h0, h1, by rw [h2]; omega⟩
theorem mh_told {w : Nat} {v : Int} (h7 : s 7 (c * 4 + w) ≠ -1) (h : mhS s c w v = true) : s 7 (c * 4 + w) = v := by
  unfold mhS at h
  rw [if_neg h7, decide_eq_true_eq] at h
  exact h
/-- whether the class finds child j well with a unwritten ones is what the reference asks -/
theorem ok_st (hP : PH s c l A) (hsex : sex < 2) {j a : Nat} (hj : j < l.length) (hs : sx s (l.getD j 0) = (sex : Int)) {his hers : Nat} (h1 : mhS s c sex (his : Int) = true) (h2 : mhS s c (sex + 2) (hers : Int) = true) :
    (okM s A (hw2 sex his hers) c l j a = true → ∀ p : Nat × Nat, (p.1 = 16 ∨ p.1 = his) → (p.2 = 16 ∨ p.2 = hers) → ∃ p', stM s c l j (A j a) p = some p' ∧ (p'.1 = 16 ∨ p'.1 = his) ∧ (p'.2 = 16 ∨ p'.2 = hers)) ∧
    (∀ p p' : Nat × Nat, stM s c l j (A j a) p = some p' → (p'.1 = 16 ∨ p'.1 = his) → (p'.2 = 16 ∨ p'.2 = hers) → okM s A (hw2 sex his hers) c l j a = true ∧ (p.1 = 16 ∨ p.1 = his) ∧ (p.2 = 16 ∨ p.2 = hers)) := by
  obtain ⟨hA, hN, h7, hx⟩ := hP
  obtain ⟨n0, n1, n2⟩ := hN j hj
  unfold okM
  simp only [Bool.or_eq_true, decide_eq_true_eq]
  rcases hA j a hj with hq | ⟨q, hq, q8, q4, q5⟩
  · rw [hq]
    have e : ∀ p, stM s c l j (-1) p = some p := fun p => by unfold stM; rw [if_pos (by omega)]
    refine ⟨fun _ p a b => ⟨p, e p, a, b⟩, fun p p' h a b => ?_⟩
    rw [e] at h
    have := Option.some.inj h
    subst this
    exact ⟨Or.inl rfl, a, b⟩
  · rw [hq]
    have et : ((q : Int)).toNat = q := Int.toNat_natCast q
    by_cases hp : q < 4
    · have hpar := q4 hp
      rw [hs] at hpar
      have hqs : q = sex ∨ q = sex + 2 := by omega
      have hdu : duM s (hw2 sex his hers) c l j (q : Int) = hw2 sex his hers q := by unfold duM; rw [if_neg (by omega), if_pos (by omega), et]
      have hto : toldS s c l j q = s 7 (c * 4 + q) := by unfold toldS; rw [if_pos hp]
      have hst : ∀ p, stM s c l j (q : Int) p = if s 7 (c * 4 + q) ≠ -1 then (if s 7 (c * 4 + q) = s 8 (l.getD j 0) then some p else none) else if (q : Int) < 2 then (if p.1 = 16 ∨ (p.1 : Int) = s 8 (l.getD j 0) then some ((s 8 (l.getD j 0)).toNat, p.2) else none) else (if p.2 = 16 ∨ (p.2 : Int) = s 8 (l.getD j 0) then some (p.1, (s 8 (l.getD j 0)).toNat) else none) := fun p => by unfold stM; rw [if_neg (by omega), et, hto]
      rw [hdu]
      rcases hqs with rfl | rfl
      · have hw : hw2 q his hers q = (his : Int) := by unfold hw2; rw [if_pos rfl]
        rw [hw]
        by_cases ht : s 7 (c * 4 + q) = -1
        · have hst2 : ∀ p, stM s c l j (q : Int) p = if p.1 = 16 ∨ (p.1 : Int) = s 8 (l.getD j 0) then some ((s 8 (l.getD j 0)).toNat, p.2) else none := fun p => by rw [hst, if_neg (by simp [ht]), if_pos (by omega)]
          refine ⟨fun hok p a b => ⟨((s 8 (l.getD j 0)).toNat, p.2), ?_, Or.inr (by simp only; omega), b⟩, fun p p' h a b => ?_⟩
          · rw [hst2, if_pos (by omega)]
          · rw [hst2] at h
            split at h
            · rename_i hc
              have := Option.some.inj h
              subst this
              simp only at a b
              exact ⟨by omega, by omega, b⟩
            · cases h
        · have hv := mh_told ht h1
          have hst2 : ∀ p, stM s c l j (q : Int) p = if s 7 (c * 4 + q) = s 8 (l.getD j 0) then some p else none := fun p => by rw [hst, if_pos ht]
          refine ⟨fun hok p a b => ⟨p, ?_, a, b⟩, fun p p' h a b => ?_⟩
          · rw [hst2, if_pos (by omega)]
          · rw [hst2] at h
            split at h
            · rename_i hc
              have := Option.some.inj h
              subst this
              exact ⟨Or.inr (by omega), a, b⟩
            · cases h
      · have hw : hw2 sex his hers (sex + 2) = (hers : Int) := by unfold hw2; rw [if_neg (by omega)]
        rw [hw]
        by_cases ht : s 7 (c * 4 + (sex + 2)) = -1
        · have hst2 : ∀ p, stM s c l j ((sex + 2 : Nat) : Int) p = if p.2 = 16 ∨ (p.2 : Int) = s 8 (l.getD j 0) then some (p.1, (s 8 (l.getD j 0)).toNat) else none := fun p => by rw [hst, if_neg (by simp [ht]), if_neg (by omega)]
          refine ⟨fun hok p a b => ⟨(p.1, (s 8 (l.getD j 0)).toNat), ?_, a, Or.inr (by simp only; omega)⟩, fun p p' h a b => ?_⟩
          · rw [hst2, if_pos (by omega)]
          · rw [hst2] at h
            split at h
            · rename_i hc
              have := Option.some.inj h
              subst this
              simp only at a b
              exact ⟨by omega, a, by omega⟩
            · cases h
        · have hv := mh_told ht h2
          have hst2 : ∀ p, stM s c l j ((sex + 2 : Nat) : Int) p = if s 7 (c * 4 + (sex + 2)) = s 8 (l.getD j 0) then some p else none := fun p => by rw [hst, if_pos ht]
          refine ⟨fun hok p a b => ⟨p, ?_, a, b⟩, fun p p' h a b => ?_⟩
          · rw [hst2, if_pos (by omega)]
          · rw [hst2] at h
            split at h
            · rename_i hc
              have := Option.some.inj h
              subst this
              exact ⟨Or.inr (by omega), a, b⟩
            · cases h
    · have hto := q5 (by omega)
      have hdu : duM s (hw2 sex his hers) c l j (q : Int) = toldS s c l j q := by
        unfold duM toldS
        rw [if_neg (by omega), if_neg (by omega), if_neg hp]
        have a4 : ((q : Int) = 4) ↔ q = 4 := by omega
        have a5 : ((q : Int) = 5) ↔ q = 5 := by omega
        have a6 : ((q : Int) = 6) ↔ q = 6 := by omega
        simp only [a4, a5, a6]
      rw [hdu]
      have hst2 : ∀ p, stM s c l j (q : Int) p = if toldS s c l j q = s 8 (l.getD j 0) then some p else none := fun p => by unfold stM; rw [if_neg (by omega), et, if_pos (by omega)]
      refine ⟨fun hok p a b => ⟨p, ?_, a, b⟩, fun p p' h a b => ?_⟩
      · rw [hst2, if_pos (by omega)]
      · rw [hst2] at h
        split at h
        · rename_i hc
          have := Option.some.inj h
          subst this
          exact ⟨Or.inr hc, a, b⟩
        · cases h
/-- NAMES that the reference has set are NAMES that the parents may have -/
theorem st_names (hP : PH s c l A) (hsex : sex < 2) {j a : Nat} (hj : j < l.length) (hs : sx s (l.getD j 0) = (sex : Int)) {p p' : Nat × Nat} (h : stM s c l j (A j a) p = some p') (h1 : p.1 = 16 ∨ ((p.1 : Int) < s 0 0 ∧ p.1 ≤ 15 ∧ mhS s c sex (p.1 : Int) = true)) (h2 : p.2 = 16 ∨ ((p.2 : Int) < s 0 0 ∧ p.2 ≤ 15 ∧ mhS s c (sex + 2) (p.2 : Int) = true)) :
    (p'.1 = 16 ∨ ((p'.1 : Int) < s 0 0 ∧ p'.1 ≤ 15 ∧ mhS s c sex (p'.1 : Int) = true)) ∧ (p'.2 = 16 ∨ ((p'.2 : Int) < s 0 0 ∧ p'.2 ≤ 15 ∧ mhS s c (sex + 2) (p'.2 : Int) = true)) := by
  obtain ⟨hA, hN, h7, hx⟩ := hP
  obtain ⟨n0, n1, n2⟩ := hN j hj
  have hcast : (((s 8 (l.getD j 0)).toNat : Nat) : Int) = s 8 (l.getD j 0) := Int.toNat_of_nonneg n0
  rcases hA j a hj with hq | ⟨q, hq, q8, q4, q5⟩
  · rw [hq] at h
    unfold stM at h
    rw [if_pos (by omega)] at h
    have := Option.some.inj h
    subst this
    exact ⟨h1, h2⟩
  · rw [hq] at h
    unfold stM at h
    rw [if_neg (by omega), Int.toNat_natCast] at h
    by_cases ht : toldS s c l j q = -1
    · have hp : q < 4 := by
        by_cases e : q < 4
        · exact e
        · have := q5 (by omega); omega
      have hto : toldS s c l j q = s 7 (c * 4 + q) := by unfold toldS; rw [if_pos hp]
      have hpar := q4 hp
      rw [hs] at hpar
      rw [if_neg (by simp [ht])] at h
      split at h
      · split at h
        · have := Option.some.inj h
          subst this
          simp only
          refine ⟨Or.inr ⟨by omega, by omega, ?_⟩, h2⟩
          have hqs : q = sex := by omega
          subst hqs
          rw [hcast]
          exact mh_name hsex q (Or.inl rfl) (by rw [← hto]; exact ht) n0 n2 hs
        · cases h
      · split at h
        · have := Option.some.inj h
          subst this
          simp only
          refine ⟨h1, Or.inr ⟨by omega, by omega, ?_⟩⟩
          have hqs : q = sex + 2 := by omega
          subst hqs
          rw [hcast]
          exact mh_name hsex (sex + 2) (Or.inr rfl) (by rw [← hto]; exact ht) n0 n2 hs
        · cases h
    · rw [if_pos ht] at h
      split at h
      · have := Option.some.inj h
        subst this
        exact ⟨h1, h2⟩
      · cases h
theorem CM_sound (hP : PH s c l A) (hsex : sex < 2) : ∀ (n : Nat), n ≤ l.length → ∀ (a : Nat) (p : Nat × Nat), CM s A c l (sex : Int) n a p → a ≤ 5 ∧ ((p.1 = 16 ∨ ((p.1 : Int) < s 0 0 ∧ p.1 ≤ 15 ∧ mhS s c sex (p.1 : Int) = true)) ∧ (p.2 = 16 ∨ ((p.2 : Int) < s 0 0 ∧ p.2 ≤ 15 ∧ mhS s c (sex + 2) (p.2 : Int) = true))) ∧ ∀ his hers : Nat, mhS s c sex (his : Int) = true → mhS s c (sex + 2) (hers : Int) = true → (p.1 = 16 ∨ p.1 = his) → (p.2 = 16 ∨ p.2 = hers) → fewU s A (hw2 sex his hers) c l (sex : Int) n ≤ a := by
  intro n
  induction n with
  | zero =>
    rintro - a p ⟨rfl, rfl⟩
    exact ⟨by omega, ⟨Or.inl rfl, Or.inl rfl⟩, fun _ _ _ _ _ _ => Nat.le_refl _⟩
  | succ n ih =>
    intro hn a p h
    unfold CM at h
    unfold fewU
    by_cases hs : sx s (l.getD n 0) = (sex : Int)
    · rw [if_pos hs] at h
      obtain ⟨h5, a0, p0, ha, hc, hst⟩ := h
      obtain ⟨i1, i2, i3⟩ := ih (by omega) a0 p0 hc
      refine ⟨h5, st_names hP hsex (by omega) hs hst i2.1 i2.2, fun his hers m1 m2 e1 e2 => ?_⟩
      rw [if_pos hs]
      obtain ⟨k1, k2, k3⟩ := (ok_st hP hsex (by omega) hs m1 m2).2 p0 p hst e1 e2
      exact advM_of k1 6 _ (Nat.le_trans (i3 his hers m1 m2 k2 k3) ha)
    · rw [if_neg hs] at h
      simp only [if_neg hs]
      exact ih (by omega) a p h
theorem fewU_mono {hw : Nat → Int} {sx' : Int} (n : Nat) : fewU s A hw c l sx' n ≤ fewU s A hw c l sx' (n + 1) := by
  conv => rhs; unfold fewU
  split
  · exact advM_ge _ _
  · exact Nat.le_refl _
theorem CM_full (hP : PH s c l A) (hsex : sex < 2) {his hers : Nat} (m1 : mhS s c sex (his : Int) = true) (m2 : mhS s c (sex + 2) (hers : Int) = true) : ∀ (n : Nat), n ≤ l.length → fewU s A (hw2 sex his hers) c l (sex : Int) n ≤ 5 → ∃ p, CM s A c l (sex : Int) n (fewU s A (hw2 sex his hers) c l (sex : Int) n) p ∧ (p.1 = 16 ∨ p.1 = his) ∧ (p.2 = 16 ∨ p.2 = hers) := by
  intro n
  induction n with
  | zero => intro _ _; exact ⟨(16, 16), ⟨rfl, rfl⟩, Or.inl rfl, Or.inl rfl⟩
  | succ n ih =>
    intro hn h5
    have hmo := fewU_mono (s := s) (A := A) (hw := hw2 sex his hers) (c := c) (l := l) (sx' := (sex : Int)) n
    obtain ⟨p, hp, e1, e2⟩ := ih (by omega) (by omega)
    by_cases hs : sx s (l.getD n 0) = (sex : Int)
    · have eq : fewU s A (hw2 sex his hers) c l (sex : Int) (n + 1) = advM (okM s A (hw2 sex his hers) c l n) 6 (fewU s A (hw2 sex his hers) c l (sex : Int) n) := by rw [fewU, if_pos hs]
      have hok := advM_ok (ok := okM s A (hw2 sex his hers) c l n) 6 (fewU s A (hw2 sex his hers) c l (sex : Int) n) (by omega) (by rw [← eq]; exact h5)
      rw [← eq] at hok
      obtain ⟨p', q1, q2, q3⟩ := (ok_st hP hsex (by omega) hs m1 m2).1 hok p e1 e2
      refine ⟨p', ?_, q2, q3⟩
      unfold CM
      rw [if_pos hs]
      exact ⟨h5, _, p, hmo, hp, q1⟩
    · have eq : fewU s A (hw2 sex his hers) c l (sex : Int) (n + 1) = fewU s A (hw2 sex his hers) c l (sex : Int) n := by rw [fewU, if_neg hs]
      refine ⟨p, ?_, e1, e2⟩
      rw [eq]
      unfold CM
      rw [if_neg hs]
      exact hp
end MUSTM
theorem mIn_spec {s : VW} {f : Nat → Nat → Nat} {c sex his : Nat} : ∀ (n acc : Nat), mIn s f c sex his n acc ≤ acc ∧ (∀ hers, hers < n → mhS s c sex (his : Int) = true → mhS s c (sex + 2) (hers : Int) = true → mIn s f c sex his n acc ≤ f his hers) ∧ (mIn s f c sex his n acc = acc ∨ ∃ hers, hers < n ∧ mhS s c sex (his : Int) = true ∧ mhS s c (sex + 2) (hers : Int) = true ∧ mIn s f c sex his n acc = f his hers) := by
  intro n acc
  induction n with
  | zero => exact ⟨Nat.le_refl _, fun _ h => absurd h (by omega), Or.inl rfl⟩
  | succ n ih =>
    obtain ⟨i1, i2, i3⟩ := ih
    unfold mIn
    by_cases hm : (mhS s c sex (his : Int) && mhS s c (sex + 2) (n : Int)) = true
    · rw [if_pos hm]
      rw [Bool.and_eq_true] at hm
      by_cases hlt : f his n < mIn s f c sex his n acc
      · rw [if_pos hlt]
        refine ⟨by omega, fun hers hh m1 m2 => ?_, Or.inr ⟨n, by omega, hm.1, hm.2, rfl⟩⟩
        by_cases e : hers = n
        · subst e; exact Nat.le_refl _
        · have := i2 hers (by omega) m1 m2; omega
      · rw [if_neg hlt]
        refine ⟨i1, fun hers hh m1 m2 => ?_, ?_⟩
        · by_cases e : hers = n
          · subst e; omega
          · exact i2 hers (by omega) m1 m2
        · rcases i3 with h | ⟨hers, a, b⟩
          · exact Or.inl h
          · exact Or.inr ⟨hers, by omega, b⟩
    · rw [if_neg hm]
      refine ⟨i1, fun hers hh m1 m2 => ?_, ?_⟩
      · by_cases e : hers = n
        · subst e; exact absurd (by rw [m1, m2]; rfl) hm
        · exact i2 hers (by omega) m1 m2
      · rcases i3 with h | ⟨hers, a, b⟩
        · exact Or.inl h
        · exact Or.inr ⟨hers, by omega, b⟩
theorem mOut_spec {s : VW} {f : Nat → Nat → Nat} {c sex : Nat} : ∀ (n : Nat), mOut s f c sex n ≤ 6 ∧ (∀ his hers, his < n → hers < (s 0 0).toNat → mhS s c sex (his : Int) = true → mhS s c (sex + 2) (hers : Int) = true → mOut s f c sex n ≤ f his hers) ∧ (mOut s f c sex n = 6 ∨ ∃ his hers, his < n ∧ hers < (s 0 0).toNat ∧ mhS s c sex (his : Int) = true ∧ mhS s c (sex + 2) (hers : Int) = true ∧ mOut s f c sex n = f his hers) := by
  intro n
  induction n with
  | zero => exact ⟨Nat.le_refl _, fun _ _ h => absurd h (by omega), Or.inl rfl⟩
  | succ n ih =>
    obtain ⟨i1, i2, i3⟩ := ih
    obtain ⟨k1, k2, k3⟩ := mIn_spec (s := s) (f := f) (c := c) (sex := sex) (his := n) (s 0 0).toNat (mOut s f c sex n)
    unfold mOut
    refine ⟨by omega, fun his hers h1 h2 m1 m2 => ?_, ?_⟩
    · by_cases e : his = n
      · subst e; exact k2 hers h2 m1 m2
      · have := i2 his hers (by omega) h2 m1 m2; omega
    · rcases k3 with h | ⟨hers, a, b1, b2, b3⟩
      · rw [h]
        rcases i3 with h | ⟨his, hers, a, b⟩
        · exact Or.inl h
        · exact Or.inr ⟨his, hers, by omega, b⟩
      · exact Or.inr ⟨n, hers, by omega, a, b1, b2, b3⟩
/-- MUST HAVE BEEN, by the reference's table -/
theorem must_eq {s : VW} {K : Nat → CUS} {a b Y : Int} {c : Nat} {l : List Nat} {sex : Nat} (hsex : sex < 2) (hP : PH s c l (ltA s K a b Y c l)) : (∀ x p, CM s (ltA s K a b Y c l) c l (sex : Int) l.length x p → muS s K a b Y c l sex ≤ x) ∧ (muS s K a b Y c l sex ≤ 5 → ∃ p, CM s (ltA s K a b Y c l) c l (sex : Int) l.length (muS s K a b Y c l sex) p) := by
  obtain ⟨k1, k2, k3⟩ := mOut_spec (s := s) (f := fun his hers => fewU s (ltA s K a b Y c l) (hw2 sex his hers) c l (sex : Int) l.length) (c := c) (sex := sex) (s 0 0).toNat
  have mex : ∀ w, (w = sex ∨ w = sex + 2) → ∃ v : Nat, (v : Int) < s 0 0 ∧ mhS s c w (v : Int) = true := by
    intro w hw
    rcases hP.2.2.1 w (by omega) with h7 | ⟨h0, h1, h2⟩
    · obtain ⟨v, v1, v2⟩ := hP.2.2.2 sex hsex
      exact ⟨v, v1, mh_name hsex w hw h7 (by omega) v1 (by rw [Int.toNat_natCast]; exact v2)⟩
    · refine ⟨(s 7 (c * 4 + w)).toNat, by omega, ?_⟩
      unfold mhS
      rw [if_neg (by omega), decide_eq_true_eq]
      omega
  refine ⟨fun x p hc => ?_, fun h5 => ?_⟩
  · obtain ⟨-, ⟨p1, p2⟩, hall⟩ := CM_sound hP hsex l.length (Nat.le_refl _) x p hc
    obtain ⟨his, h1, h2, h3⟩ : ∃ his : Nat, (his : Int) < s 0 0 ∧ mhS s c sex (his : Int) = true ∧ (p.1 = 16 ∨ p.1 = his) := by
      rcases p1 with h | ⟨h, -, hm⟩
      · obtain ⟨v, a1, a2⟩ := mex sex (Or.inl rfl); exact ⟨v, a1, a2, Or.inl h⟩
      · exact ⟨p.1, h, hm, Or.inr rfl⟩
    obtain ⟨hers, g1, g2, g3⟩ : ∃ hers : Nat, (hers : Int) < s 0 0 ∧ mhS s c (sex + 2) (hers : Int) = true ∧ (p.2 = 16 ∨ p.2 = hers) := by
      rcases p2 with h | ⟨h, -, hm⟩
      · obtain ⟨v, a1, a2⟩ := mex (sex + 2) (Or.inr rfl); exact ⟨v, a1, a2, Or.inl h⟩
      · exact ⟨p.2, h, hm, Or.inr rfl⟩
    exact Nat.le_trans (k2 his hers (by omega) (by omega) h2 g2) (hall his hers h2 g2 h3 g3)
  · rcases k3 with h | ⟨his, hers, h1, h2, h3, h4, h6⟩
    · have : muS s K a b Y c l sex = 6 := h
      omega
    · have e : muS s K a b Y c l sex = fewU s (ltA s K a b Y c l) (hw2 sex his hers) c l (sex : Int) l.length := h6
      rw [e] at h5 ⊢
      obtain ⟨p, hp, -⟩ := CM_full hP hsex h3 h4 l.length (Nat.le_refl _) h5
      exact ⟨p, hp⟩
