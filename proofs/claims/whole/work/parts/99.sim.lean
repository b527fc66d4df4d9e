/-! the reference's reader, by its stack: the same as the descent -/
abbrev QS : Type := Nat × List Int × Nat × List (Int × Int)
def rstX (x : PX) (Fl : Int → Prop) (k : Nat → BN → Prop) : Prop := match x with
  | .inl f => Fl f
  | .inr q => k q.1 q.2
theorem rstX_bd {x : PX} {h : Nat → BN → PX} {Fl : Int → Prop} {k : Nat → BN → Prop} : rstX (bdX x h) Fl k = rstX x Fl (fun p b => rstX (h p b) Fl k) := by
  cases x <;> rfl
/-- a chain: H0 stands ahead of an operand, H1 behind it -/
theorem sim_chn {T : Nat → Int} {N : Nat} (hT : ∀ p, N ≤ p → T p = 0) (hN : N ≤ 160) {ok : Int → Bool} (ok0 : ok 0 = false) {mk : Int → BN → BN → BN} (hmk : ∀ c a b, (mk c a b).2.1 = a.2.1 ++ (b.2.1 ++ [(c, 0)])) {op : Nat → PX} {H0 H1 : QS → Prop} {Fl : Int → Prop} {P Pk : List Int → Prop} {o : Nat} {Pend : Int → Prop}
    (hpg : ∀ p p' b, p ≤ N → op p = .inr (p', b) → p < p' ∧ p' ≤ N ∧ Pend (T p'))
    (hop : ∀ p σ C, P σ → p ≤ N → rstX (op p) Fl (fun p' b => H1 (p', σ, o, C ++ b.2.1)) → H0 (p, σ, o, C))
    (hstep : ∀ p σ C, Pk σ → ok (T p) = true → H0 (p + 1, T p :: σ, o, C) → H1 (p, σ, o, C))
    (hfl : ∀ p c σ C, ok c = true → Pend (T p) → H1 (p, σ, o, C ++ [(c, 0)]) → H1 (p, c :: σ, o, C))
    (hP : ∀ c σ, ok c = true → Pk σ → P (c :: σ)) (hP0 : ∀ σ, Pk σ → P σ) :
    ∀ p σ C, Pk σ → p ≤ N → rstX (chn T ok mk op p) Fl (fun p' b => H1 (p', σ, o, C ++ b.2.1)) → H0 (p, σ, o, C) := by
  have loop : ∀ (n p : Nat) (a : BN) (σ : List Int) (C : List (Int × Int)), Pk σ → p ≤ N → N < n + p → rstX (lop T ok mk op n p a) Fl (fun p' b => H1 (p', σ, o, C ++ b.2.1)) → H1 (p, σ, o, C ++ a.2.1) := by
    intro n
    induction n with
    | zero => intro p a σ C _ h1 h2; omega
    | succ n ih =>
      intro p a σ C hk h1 h2 h
      unfold lop at h
      by_cases hc : ok (T p) = true
      · rw [if_pos hc, rstX_bd] at h
        have hlt : p < N := txt_lt hT (fun e => by rw [e, ok0] at hc; cases hc)
        refine hstep p σ _ hk hc (hop (p + 1) (T p :: σ) _ (hP _ _ hc hk) (by omega) ?_)
        cases hx : op (p + 1) with
        | inl f => rw [hx] at h; exact h
        | inr q =>
          obtain ⟨p', b⟩ := q
          rw [hx] at h
          obtain ⟨r1, r2, r3⟩ := hpg (p + 1) p' b (by omega) hx
          refine hfl p' (T p) σ _ hc r3 ?_
          have := ih p' (mk (T p) a b) σ C hk r2 (by omega) h
          rw [hmk] at this
          rw [List.append_assoc, List.append_assoc]
          exact this
      · rw [if_neg hc] at h
        exact h
  intro p σ C hk hp h
  unfold chn at h
  rw [rstX_bd] at h
  refine hop p σ C (hP0 _ hk) hp ?_
  cases hx : op p with
  | inl f => rw [hx] at h; exact h
  | inr q =>
    obtain ⟨p', b⟩ := q
    rw [hx] at h
    obtain ⟨r1, r2, r3⟩ := hpg p p' b hp hx
    exact loop 200 p' b σ C hk r2 (by omega) h
/-- factor: brackets, then one value -/
def fcB (T : Nat → Int) (s : QS) : Int ⊕ QS := if dig (T s.1) then (match nmbP T s.1 with
    | .inl f => .inl f
    | .inr q => .inr (q.1, s.2.1, s.2.2.1, s.2.2.2 ++ q.2.2.1))
  else if isVl (T s.1) then .inr (s.1 + 1, s.2.1, s.2.2.1, s.2.2.2 ++ [(1, T s.1)]) else .inl (-1000 - (s.1 : Int))
def fcF (T : Nat → Int) : Nat → QS → Int ⊕ QS
  | 0, s => fcB T s
  | n + 1, s => if T s.1 = 91 then (if s.2.2.1 = 6 then .inl (-5000 - (s.1 : Int)) else fcF T n (s.1 + 1, 91 :: s.2.1, s.2.2.1 + 1, s.2.2.2)) else fcB T s
def emO (l : List Int) : List (Int × Int) := l.map (fun c => (c, 0))
def pTm (x : Int) : Bool := okS 3 x
def pTP (x : Int) : Bool := okS 3 x || okS 2 x
def hd0 (l : List Int) : Int := l.headD 0
/-- goesOn: 0 done, 1 a factor follows, 2 behind a bracket -/
def goF (T : Nat → Int) (s : QS) : Int ⊕ (Nat × QS) :=
  if okS 3 (T s.1) then .inr (1, s.1 + 1, T s.1 :: s.2.1.dropWhile pTm, s.2.2.1, s.2.2.2 ++ emO (s.2.1.takeWhile pTm))
  else if okS 2 (T s.1) then .inr (1, s.1 + 1, T s.1 :: s.2.1.dropWhile pTP, s.2.2.1, s.2.2.2 ++ emO (s.2.1.takeWhile pTP))
  else if T s.1 = 93 then (if hd0 (s.2.1.dropWhile pTP) = 91 then .inr (2, s.1 + 1, (s.2.1.dropWhile pTP).tail, s.2.2.1 - 1, s.2.2.2 ++ emO (s.2.1.takeWhile pTP)) else .inl (-1000 - (s.1 : Int)))
  else if isSg (T s.1) then (if hd0 (s.2.1.dropWhile pTP) = 91 ∨ isSg (hd0 (s.2.1.dropWhile pTP)) = true then .inl (-1000 - (s.1 : Int)) else .inr (1, s.1 + 1, T s.1 :: s.2.1.dropWhile pTP, s.2.2.1, s.2.2.2 ++ emO (s.2.1.takeWhile pTP)))
  else if isSg (hd0 (s.2.1.dropWhile pTP)) = true then .inr (0, s.1, (s.2.1.dropWhile pTP).tail, s.2.2.1, (s.2.2.2 ++ emO (s.2.1.takeWhile pTP)) ++ [(hd0 (s.2.1.dropWhile pTP), 0)]) else .inl (-1000 - (s.1 : Int))
def rsF (x : Int ⊕ QS) (Fl : Int → Prop) (k : QS → Prop) : Prop := match x with
  | .inl f => Fl f
  | .inr s => k s
def rsG (x : Int ⊕ (Nat × QS)) (Fl : Int → Prop) (k0 k1 k2 : QS → Prop) : Prop := match x with
  | .inl f => Fl f
  | .inr s => if s.1 = 0 then k0 s.2 else if s.1 = 1 then k1 s.2 else k2 s.2
section SIMA
variable {T : Nat → Int} {N : Nat} {X A E : QS → Prop} {Fl : Int → Prop}
def HA (T : Nat → Int) (X : QS → Prop) (Fl : Int → Prop) (s : QS) : Prop := rsF (fcF T (7 - s.2.2.1) s) Fl X
def HX (T : Nat → Int) (E A X : QS → Prop) (Fl : Int → Prop) (s : QS) : Prop := rsG (goF T s) Fl E A X
theorem HA_91 {p o : Nat} {σ : List Int} {C : List (Int × Int)} (h : T p = 91) (ho : o < 6) : HA T X Fl (p, σ, o, C) = HA T X Fl (p + 1, 91 :: σ, o + 1, C) := by
  unfold HA
  show rsF (fcF T (7 - o) (p, σ, o, C)) Fl X = rsF (fcF T (7 - (o + 1)) (p + 1, 91 :: σ, o + 1, C)) Fl X
  rw [show 7 - o = (7 - (o + 1)) + 1 by omega, fcF]
  simp only
  rw [if_pos h, if_neg (by omega)]
theorem HA_6 {p : Nat} {σ : List Int} {C : List (Int × Int)} (h : T p = 91) (hf : Fl (-5000 - (p : Int))) : HA T X Fl (p, σ, 6, C) := by
  unfold HA
  show rsF (fcF T 1 (p, σ, 6, C)) Fl X
  rw [fcF]
  simp only
  rw [if_pos h, if_pos trivial]
  exact hf
theorem HA_b {p o : Nat} {σ : List Int} {C : List (Int × Int)} (h : T p ≠ 91) : HA T X Fl (p, σ, o, C) = rsF (fcB T (p, σ, o, C)) Fl X := by
  unfold HA
  show rsF (fcF T (7 - o) (p, σ, o, C)) Fl X = _
  cases 7 - o with
  | zero => rfl
  | succ n => rw [fcF]; simp only; rw [if_neg h]
theorem tk_nil {f : Int → Bool} {σ : List Int} (h : f (hd0 σ) = false) : σ.takeWhile f = [] ∧ σ.dropWhile f = σ := by
  cases σ with
  | nil => exact ⟨rfl, rfl⟩
  | cons c t =>
    have h : f c = false := h
    rw [List.takeWhile_cons, List.dropWhile_cons, h]
    exact ⟨rfl, rfl⟩
theorem tk_cons {f : Int → Bool} {c : Int} {σ : List Int} (h : f c = true) : (c :: σ).takeWhile f = c :: σ.takeWhile f ∧ (c :: σ).dropWhile f = σ.dropWhile f := by
  rw [List.takeWhile_cons, List.dropWhile_cons, h]
  exact ⟨rfl, rfl⟩
theorem emO_cons {c : Int} {l : List Int} {C : List (Int × Int)} : C ++ emO (c :: l) = (C ++ [(c, 0)]) ++ emO l := by
  simp [emO]
theorem HX_tm {p o : Nat} {c : Int} {σ : List Int} {C : List (Int × Int)} (h : okS 3 c = true) : HX T E A X Fl (p, c :: σ, o, C) = HX T E A X Fl (p, σ, o, C ++ [(c, 0)]) := by
  have h1 : pTm c = true := h
  have h2 : pTP c = true := by unfold pTP; rw [h]; rfl
  unfold HX goF
  simp only
  rw [(tk_cons h1).1, (tk_cons h1).2, (tk_cons h2).1, (tk_cons h2).2, emO_cons, emO_cons]
theorem HX_pl {p o : Nat} {c : Int} {σ : List Int} {C : List (Int × Int)} (h : okS 2 c = true) (hp : okS 3 (T p) = false) : HX T E A X Fl (p, c :: σ, o, C) = HX T E A X Fl (p, σ, o, C ++ [(c, 0)]) := by
  have h2 : pTP c = true := by unfold pTP; rw [h]; exact Bool.or_true _
  unfold HX goF
  simp only [hp, Bool.false_eq_true, ↓reduceIte]
  rw [(tk_cons h2).1, (tk_cons h2).2, emO_cons]
theorem okS_3 {c : Int} (h : okS 3 c = true) : c = 42 ∨ c = 47 ∨ c = 37 := by simpa [okS] using h
theorem okS_2 {c : Int} (h : okS 2 c = true) : c = 43 ∨ c = 45 := by simpa [okS] using h
theorem isSg_c {c : Int} (h : isSg c = true) : c = 60 ∨ c = 62 ∨ c = 61 := by simpa [isSg] using h
theorem HX_s3 {p o : Nat} {σ : List Int} {C : List (Int × Int)} (hk : okS 3 (hd0 σ) = false) (h : okS 3 (T p) = true) : HX T E A X Fl (p, σ, o, C) = A (p + 1, T p :: σ, o, C) := by
  have h1 := tk_nil (f := pTm) (σ := σ) hk
  unfold HX goF
  simp only
  rw [if_pos h, h1.1, h1.2]
  rw [show C ++ emO [] = C from List.append_nil C]
  rfl
theorem HX_s2 {p o : Nat} {σ : List Int} {C : List (Int × Int)} (hk : pTP (hd0 σ) = false) (h : okS 2 (T p) = true) : HX T E A X Fl (p, σ, o, C) = A (p + 1, T p :: σ, o, C) := by
  have h1 := tk_nil (f := pTP) (σ := σ) hk
  have h3 : okS 3 (T p) = false := by rcases okS_2 h with e | e <;> rw [e] <;> rfl
  unfold HX goF
  simp only
  rw [h3, if_neg (by decide), if_pos h, h1.1, h1.2]
  rw [show C ++ emO [] = C from List.append_nil C]
  rfl
/-- behind an E -/
theorem HX_end {p o : Nat} {σ : List Int} {C : List (Int × Int)} (hk : pTP (hd0 σ) = false) (h3 : okS 3 (T p) = false) (h2 : okS 2 (T p) = false) : HX T E A X Fl (p, σ, o, C) = (if T p = 93 then (if hd0 σ = 91 then X (p + 1, σ.tail, o - 1, C) else Fl (-1000 - (p : Int))) else if isSg (T p) then (if hd0 σ = 91 ∨ isSg (hd0 σ) = true then Fl (-1000 - (p : Int)) else A (p + 1, T p :: σ, o, C)) else if isSg (hd0 σ) = true then E (p, σ.tail, o, C ++ [(hd0 σ, 0)]) else Fl (-1000 - (p : Int))) := by
  have h1 := tk_nil (f := pTP) (σ := σ) hk
  have e0 : C ++ emO [] = C := List.append_nil C
  unfold HX goF
  simp only
  rw [h3, h2, if_neg (by decide), if_neg (by decide), h1.1, h1.2, e0]
  split
  · split <;> rfl
  · split
    · split <;> rfl
    · split <;> rfl
theorem bBin_c (c : Int) (a b : BN) : (bBin c a b).2.1 = a.2.1 ++ (b.2.1 ++ [(c, 0)]) := rfl
theorem bJmp_c (c : Int) (a b : BN) : (bJmp c a b).2.1 = a.2.1 ++ (b.2.1 ++ [(c, 0)]) := rfl
theorem triv_PG {N : Nat} {G : BN → Prop} {op : Nat → PX} (h : PG N G op) : PG N (fun _ => True) op := fun p hp => ⟨(h p hp).1, fun p' b hb => by obtain ⟨a1, a2, a3, -⟩ := (h p hp).2 p' b hb; exact ⟨a1, a2, a3, trivial⟩⟩
theorem exp_PG0 (hT : ∀ p, N ≤ p → T p = 0) (hN : N ≤ 160) {f : Nat → PX} (hf : PG N (fun _ => True) f) : PG N (fun _ => True) (chn T (okS 3) bBin f) ∧ PG N (fun _ => True) (expB T f) ∧ (∀ p p' b, p ≤ N → chn T (okS 3) bBin f p = .inr (p', b) → okS 3 (T p') = false) ∧ ∀ p p' b, p ≤ N → expB T f p = .inr (p', b) → okS 2 (T p') = false ∧ okS 3 (T p') = false := by
  have h1 := chn_PG (G := fun _ => True) (G' := fun _ => True) hT hN (ok := okS 3) okS0 bBin_c (fun _ _ _ _ _ _ => trivial) (fun _ _ => trivial) hf
  have h2 := chn_PG (G := fun _ => True) (G' := fun _ => True) hT hN (ok := okS 2) okS0 bBin_c (fun _ _ _ _ _ _ => trivial) (fun _ _ => trivial) h1.1
  refine ⟨h1.1, h2.1, h1.2, fun p p' b hp hb => ⟨h2.2 p p' b hp hb, ?_⟩⟩
  have key : ∀ (n p : Nat) (a : BN), p ≤ N → okS 3 (T p) = false → lop T (okS 2) bBin (chn T (okS 3) bBin f) n p a = .inr (p', b) → okS 3 (T p') = false := by
    intro n
    induction n with
    | zero => intro p a _ h hb; cases hb; exact h
    | succ n ih =>
      intro p a hp h hb
      unfold lop at hb
      split at hb
      · rename_i hc
        have hlt : p < N := txt_lt hT (fun e => by rw [e, okS0] at hc; cases hc)
        obtain ⟨q, c, q1, q2⟩ := bdX_r hb
        obtain ⟨r1, r2, -⟩ := (h1.1 (p + 1) (by omega)).2 q c q1
        exact ih q _ r2 (h1.2 (p + 1) q c (by omega) q1) q2
      · cases hb; exact h
  unfold expB at hb
  obtain ⟨q, c, q1, q2⟩ := bdX_r hb
  obtain ⟨r1, r2, -⟩ := (h1.1 p hp).2 q c q1
  exact key 200 q c r2 (h1.2 p q c hp q1) q2
theorem FAC_PG0 (hT : ∀ p, N ≤ p → T p = 0) (hN : N ≤ 160) : ∀ d, PG N (fun _ => True) (FAC T d) := by
  intro d
  induction d with
  | zero => exact facB_PG hT hN (fun _ => trivial) (fun _ _ => trivial) (fun e h => by cases h)
  | succ d ih => exact facB_PG hT hN (fun _ => trivial) (fun _ _ => trivial) (fun e h => by cases h; exact (exp_PG0 hT hN ih).2.1)
theorem sim_exp (hT : ∀ p, N ≤ p → T p = 0) (hN : N ≤ 160) (hA : ∀ s, HA T X Fl s → A s) {f : Nat → PX} (hf : PG N (fun _ => True) f) {o : Nat} (hop : ∀ p σ C, p ≤ N → rstX (f p) Fl (fun p' b => HX T E A X Fl (p', σ, o, C ++ b.2.1)) → HA T X Fl (p, σ, o, C)) :
    ∀ p σ C, pTP (hd0 σ) = false → p ≤ N → rstX (expB T f p) Fl (fun p' b => HX T E A X Fl (p', σ, o, C ++ b.2.1)) → HA T X Fl (p, σ, o, C) := by
  obtain ⟨g1, g2, g3, g4⟩ := exp_PG0 hT hN hf
  have term := sim_chn (H0 := HA T X Fl) (H1 := HX T E A X Fl) (Fl := Fl) (o := o) (P := fun _ => True) (Pk := fun σ => okS 3 (hd0 σ) = false) (Pend := fun _ => True) hT hN (ok := okS 3) okS0 bBin_c (op := f) (fun p p' b hp hb => by obtain ⟨a1, a2, -⟩ := (hf p hp).2 p' b hb; exact ⟨a1, a2, trivial⟩) (fun p σ C _ hp h => hop p σ C hp h) (fun p σ C hk hc h => by rw [HX_s3 hk hc]; exact hA _ h) (fun p c σ C hc _ h => by rw [HX_tm hc]; exact h) (fun _ _ _ _ => trivial) (fun _ _ => trivial)
  exact sim_chn (H0 := HA T X Fl) (H1 := HX T E A X Fl) (Fl := Fl) (o := o) (P := fun σ => okS 3 (hd0 σ) = false) (Pk := fun σ => pTP (hd0 σ) = false) (Pend := fun c => okS 3 c = false) hT hN (ok := okS 2) okS0 bBin_c (op := chn T (okS 3) bBin f) (fun p p' b hp hb => by obtain ⟨a1, a2, -⟩ := (g1 p hp).2 p' b hb; exact ⟨a1, a2, g3 p p' b hp hb⟩) term (fun p σ C hk hc h => by rw [HX_s2 hk hc]; exact hA _ h) (fun p c σ C hc he h => by rw [HX_pl hc he]; exact h) (fun c σ hc _ => by show okS 3 c = false; rcases okS_2 hc with e | e <;> rw [e] <;> rfl) (fun σ h => (Bool.or_eq_false_iff.mp h).1)
theorem sim_fac (hT : ∀ p, N ≤ p → T p = 0) (hN : N ≤ 160) (hA : ∀ s, HA T X Fl s → A s) (hX : ∀ s, HX T E A X Fl s → X s) : ∀ (d o : Nat), o + d = 6 → ∀ p σ C, p ≤ N → rstX (FAC T d p) Fl (fun p' b => HX T E A X Fl (p', σ, o, C ++ b.2.1)) → HA T X Fl (p, σ, o, C) := by
  have base : ∀ (sub : Option (Nat → PX)) (o p : Nat) (σ : List Int) (C : List (Int × Int)), T p ≠ 91 → rstX (facB T sub p) Fl (fun p' b => HX T E A X Fl (p', σ, o, C ++ b.2.1)) → HA T X Fl (p, σ, o, C) := by
    intro sub o p σ C h91 h
    rw [HA_b h91]
    unfold facB at h
    unfold fcB
    simp only
    by_cases hd : dig (T p) = true
    · rw [if_pos hd] at h ⊢
      cases hx : nmbP T p with
      | inl f => rw [hx] at h; exact h
      | inr q => rw [hx] at h; exact hX _ h
    · rw [if_neg hd, if_neg h91] at h
      rw [if_neg hd]
      by_cases hv : isVl (T p) = true
      · rw [if_pos hv] at h ⊢
        exact hX _ h
      · rw [if_neg hv] at h ⊢
        exact h
  intro d
  induction d with
  | zero =>
    intro o ho p σ C hp h
    by_cases h91 : T p = 91
    · have ho : o = 6 := by omega
      subst ho
      refine HA_6 h91 ?_
      unfold FAC facB at h
      simp only at h
      rw [if_neg (by rw [h91]; decide), if_pos h91] at h
      exact h
    · exact base none o p σ C h91 h
  | succ d ih =>
    intro o ho p σ C hp h
    by_cases h91 : T p = 91
    · rw [HA_91 h91 (by omega)]
      have hlt : p < N := txt_lt hT (by omega)
      unfold FAC facB at h
      simp only at h
      rw [if_neg (by rw [h91]; decide), if_pos h91, rstX_bd] at h
      refine sim_exp hT hN hA (FAC_PG0 hT hN d) (ih (o + 1) (by omega)) (p + 1) (91 :: σ) C rfl (by omega) ?_
      cases hx : expB T (FAC T d) (p + 1) with
      | inl f => rw [hx] at h; exact h
      | inr q =>
        obtain ⟨p1, b⟩ := q
        rw [hx] at h
        obtain ⟨e2, e3⟩ := (exp_PG0 hT hN (FAC_PG0 hT hN d)).2.2.2 (p + 1) p1 b (by omega) hx
        have h : rstX (if T p1 = 93 then .inr (p1 + 1, b) else .inl (-1000 - (p1 : Int))) Fl (fun p' b => HX T E A X Fl (p', σ, o, C ++ b.2.1)) := h
        show HX T E A X Fl (p1, 91 :: σ, o + 1, C ++ b.2.1)
        rw [HX_end (by rfl) e3 e2]
        by_cases h93 : T p1 = 93
        · rw [if_pos h93] at h ⊢
          rw [if_pos (show hd0 (91 :: σ) = 91 from rfl)]
          exact hX _ h
        · rw [if_neg h93] at h ⊢
          have h : Fl (-1000 - (p1 : Int)) := h
          split
          · rw [if_pos (Or.inl (show hd0 (91 :: σ) = 91 from rfl))]; exact h
          · rw [if_neg (show ¬ isSg (hd0 (91 :: σ)) = true from (by show ¬ isSg 91 = true; decide))]; exact h
    · exact base _ o p σ C h91 h
/-- a comparison; what can't stand behind it is refused there -/
theorem sim_cmp (hT : ∀ p, N ≤ p → T p = 0) (hN : N ≤ 160) (hA : ∀ s, HA T X Fl s → A s) (hX : ∀ s, HX T E A X Fl s → X s) (d o : Nat) (ho : o + d = 6) (p : Nat) (σ : List Int) (C : List (Int × Int)) (hσ : pTP (hd0 σ) = false ∧ hd0 σ ≠ 91 ∧ isSg (hd0 σ) = false) (hp : p ≤ N) (h : rstX (cmpB T (FAC T d) p) Fl (fun p' b => if T p' = 93 ∨ isSg (T p') = true then Fl (-1000 - (p' : Int)) else E (p', σ, o, C ++ b.2.1))) : HA T X Fl (p, σ, o, C) := by
  have ex := sim_exp hT hN hA (FAC_PG0 hT hN d) (sim_fac hT hN hA hX d o ho)
  have eg := exp_PG0 hT hN (FAC_PG0 hT hN d)
  unfold cmpB at h
  rw [rstX_bd] at h
  refine ex p σ C hσ.1 hp ?_
  cases hx : expB T (FAC T d) p with
  | inl f => rw [hx] at h; exact h
  | inr q =>
    obtain ⟨p1, a⟩ := q
    rw [hx] at h
    obtain ⟨e2, e3⟩ := eg.2.2.2 p p1 a hp hx
    obtain ⟨-, hp1, -⟩ := (eg.2.1 p hp).2 p1 a hx
    have h : rstX (if isSg (T p1) then bdX (expB T (FAC T d) (p1 + 1)) (fun p2 b => .inr (p2, bBin (T p1) a b)) else .inl (-1000 - (p1 : Int))) Fl (fun p' b => if T p' = 93 ∨ isSg (T p') = true then Fl (-1000 - (p' : Int)) else E (p', σ, o, C ++ b.2.1)) := h
    show HX T E A X Fl (p1, σ, o, C ++ a.2.1)
    rw [HX_end hσ.1 e3 e2]
    by_cases hs : isSg (T p1) = true
    · have hlt : p1 < N := txt_lt hT (fun e => by rw [e] at hs; cases hs)
      rw [if_pos hs, rstX_bd] at h
      rw [if_neg (by intro e; rw [e] at hs; cases hs), if_pos hs, if_neg (by rintro (q | q); exact hσ.2.1 q; rw [hσ.2.2] at q; cases q)]
      apply hA
      have htop : pTP (hd0 (T p1 :: σ)) = false := by show pTP (T p1) = false; rcases isSg_c hs with e | e | e <;> rw [e] <;> rfl
      refine ex (p1 + 1) (T p1 :: σ) _ htop (by omega) ?_
      cases hy : expB T (FAC T d) (p1 + 1) with
      | inl f => rw [hy] at h; exact h
      | inr q =>
        obtain ⟨p2, b⟩ := q
        rw [hy] at h
        obtain ⟨f2, f3⟩ := eg.2.2.2 (p1 + 1) p2 b (by omega) hy
        have h : if T p2 = 93 ∨ isSg (T p2) = true then Fl (-1000 - (p2 : Int)) else E (p2, σ, o, C ++ (a.2.1 ++ (b.2.1 ++ [(T p1, 0)]))) := h
        show HX T E A X Fl (p2, T p1 :: σ, o, (C ++ a.2.1) ++ b.2.1)
        rw [HX_end htop f3 f2]
        have hh : hd0 (T p1 :: σ) = T p1 := rfl
        rw [hh]
        by_cases h93 : T p2 = 93
        · rw [if_pos (Or.inl h93)] at h
          rw [if_pos h93, if_neg (by intro e; rw [e] at hs; cases hs)]
          exact h
        · by_cases hs2 : isSg (T p2) = true
          · rw [if_pos (Or.inr hs2)] at h
            rw [if_neg h93, if_pos hs2, if_pos (Or.inr hs)]
            exact h
          · rw [if_neg (by rintro (q | q); exact h93 q; exact hs2 q)] at h
            rw [if_neg h93, if_neg hs2, if_pos hs]
            show E (p2, σ, o, ((C ++ a.2.1) ++ b.2.1) ++ [(T p1, 0)])
            rw [List.append_assoc, List.append_assoc]
            exact h
    · rw [if_neg hs] at h
      have h : Fl (-1000 - (p1 : Int)) := h
      split
      · rw [if_neg hσ.2.1]; exact h
      · rw [hσ.2.2, if_neg (by decide)]; exact h
end SIMA
