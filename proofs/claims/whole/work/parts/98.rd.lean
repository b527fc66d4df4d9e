/-! what a TEXT says: one reader, by descent; what it read is a bundle: the class's steps (by their first place), the reference's codes, the meaning -/
abbrev BN : Type := (Nat → List (Int × Int)) × List (Int × Int) × ((Nat → Int) → Int × Bool)
abbrev PX : Type := Int ⊕ (Nat × BN)
def bNum (v : Int) : BN := (fun _ => [(48, v)], [(0, v)], fun _ => (v, false))
def bFac (c : Int) : BN := (fun _ => [(110, (fidx c : Int))], [(1, c)], fun env => (env (fidx c), false))
def bBin (op : Int) (a b : BN) : BN := (fun f => a.1 f ++ (b.1 (f + a.2.1.length) ++ [(op, 0)]), a.2.1 ++ (b.2.1 ++ [(op, 0)]), fun env => doesM op (a.2.2 env) (b.2.2 env))
def bJmp (op : Int) (a b : BN) : BN := (fun f => a.1 f ++ ((op, ((f + a.2.1.length + 1 + b.2.1.length : Nat) : Int)) :: b.1 (f + a.2.1.length + 1)), a.2.1 ++ (b.2.1 ++ [(op, 0)]), fun env => doesM op (a.2.2 env) (b.2.2 env))
def bNot (a : BN) : BN := (fun f => a.1 f ++ [(33, 0)], a.2.1 ++ [(2, 0)], fun env => (w32 (1 - (a.2.2 env).1), (a.2.2 env).2))
def bdX (x : PX) (k : Nat → BN → PX) : PX := match x with
  | .inl f => .inl f
  | .inr q => k q.1 q.2
/-- the signs between: 0 |, 1 &, 2 + -, 3 * / % -/
def okS (k : Nat) (c : Int) : Bool := if k = 0 then decide (c = 124) else if k = 1 then decide (c = 38) else if k = 2 then decide (c = 43 ∨ c = 45) else decide (c = 42 ∨ c = 47 ∨ c = 37)
def dig (c : Int) : Bool := decide (48 ≤ c ∧ c ≤ 57)
def isSg (c : Int) : Bool := decide (c = 60 ∨ c = 62 ∨ c = 61)
def isVl (c : Int) : Bool := decide (c = 110 ∨ c = 98 ∨ c = 120 ∨ c = 121 ∨ c = 119 ∨ c = 116 ∨ c = 97 ∨ c = 101 ∨ c = 99)
def lop (T : Nat → Int) (ok : Int → Bool) (mk : Int → BN → BN → BN) (op : Nat → PX) : Nat → Nat → BN → PX
  | 0, p, a => .inr (p, a)
  | n + 1, p, a => if ok (T p) then bdX (op (p + 1)) (fun p' b => lop T ok mk op n p' (mk (T p) a b)) else .inr (p, a)
def chn (T : Nat → Int) (ok : Int → Bool) (mk : Int → BN → BN → BN) (op : Nat → PX) : Nat → PX := fun p => bdX (op p) (fun p' a => lop T ok mk op 200 p' a)
def numP (T : Nat → Int) : Nat → Nat → Int → Nat × Int
  | 0, p, v => (p, v)
  | n + 1, p, v => if dig (T p) then numP T n (p + 1) (10 * v + T p - 48) else (p, v)
def nmbP (T : Nat → Int) (p : Nat) : PX := if dig (T (numP T 5 p 0).1) then .inl (-2000 - ((numP T 5 p 0).1 : Int)) else .inr ((numP T 5 p 0).1, bNum (numP T 5 p 0).2)
def facB (T : Nat → Int) (sub : Option (Nat → PX)) : Nat → PX := fun p => if dig (T p) then nmbP T p else if T p = 91 then (match sub with
    | none => .inl (-5000 - (p : Int))
    | some e => bdX (e (p + 1)) (fun p' b => if T p' = 93 then .inr (p' + 1, b) else .inl (-1000 - (p' : Int))))
  else if isVl (T p) then .inr (p + 1, bFac (T p)) else .inl (-1000 - (p : Int))
def expB (T : Nat → Int) (f : Nat → PX) : Nat → PX := chn T (okS 2) bBin (chn T (okS 3) bBin f)
def FAC (T : Nat → Int) : Nat → Nat → PX
  | 0 => facB T none
  | d + 1 => facB T (some (expB T (FAC T d)))
def cmpB (T : Nat → Int) (f : Nat → PX) : Nat → PX := fun p => bdX (expB T f p) (fun p1 a => if isSg (T p1) then bdX (expB T f (p1 + 1)) (fun p2 b => .inr (p2, bBin (T p1) a b)) else .inl (-1000 - (p1 : Int)))
def cndB (T : Nat → Int) (q : Nat → PX) : Nat → PX := chn T (okS 0) bJmp (chn T (okS 1) bJmp q)
def pieB (T : Nat → Int) (cmp : Nat → PX) (sub : Option (Nat → PX)) : Nat → PX := fun p => if T p = 33 ∨ T p = 40 then (match sub with
    | none => .inl (-5000 - (p : Int))
    | some q => if T p = 40 then bdX (cndB T q (p + 1)) (fun p' b => if T p' = 41 then .inr (p' + 1, b) else .inl (-1000 - (p' : Int))) else bdX (q (p + 1)) (fun p' b => .inr (p', bNot b)))
  else cmp p
def PIE (T : Nat → Int) : Nat → Nat → PX
  | 0 => pieB T (cmpB T (FAC T 0)) none
  | d + 1 => pieB T (cmpB T (FAC T (d + 1))) (some (PIE T d))
/-- within a TEXT of N bytes: FAULTS are below 0; what is read goes on, and is no longer than its bytes -/
def PG (N : Nat) (G : BN → Prop) (op : Nat → PX) : Prop := ∀ p, p ≤ N → (∀ f, op p = .inl f → -6000 ≤ f ∧ f < 0) ∧ ∀ p' b, op p = .inr (p', b) → p < p' ∧ p' ≤ N ∧ p + b.2.1.length ≤ p' ∧ G b
theorem okS0 {k : Nat} : okS k 0 = false := by unfold okS; split; rfl; split; rfl; split <;> rfl
theorem bdX_l {x : PX} {k : Nat → BN → PX} {f : Int} (h : bdX x k = .inl f) : x = .inl f ∨ ∃ p b, x = .inr (p, b) ∧ k p b = .inl f := by
  cases x with
  | inl e => exact Or.inl h
  | inr q => exact Or.inr ⟨q.1, q.2, rfl, h⟩
theorem bdX_r {x : PX} {k : Nat → BN → PX} {y : Nat × BN} (h : bdX x k = .inr y) : ∃ p b, x = .inr (p, b) ∧ k p b = .inr y := by
  cases x with
  | inl e => cases h
  | inr q => exact ⟨q.1, q.2, rfl, h⟩
section PGS
variable {T : Nat → Int} {N : Nat}
theorem txt_lt (hT : ∀ p, N ≤ p → T p = 0) {p : Nat} (h : T p ≠ 0) : p < N := Nat.lt_of_not_le (fun q => h (hT p q))
theorem lop_PG (hT : ∀ p, N ≤ p → T p = 0) (hN : N ≤ 160) {ok : Int → Bool} (ok0 : ok 0 = false) {mk : Int → BN → BN → BN} (hmk : ∀ c a b, (mk c a b).2.1 = a.2.1 ++ (b.2.1 ++ [(c, 0)])) {G G' : BN → Prop} (hG : ∀ c a b, ok c = true → G' a → G b → G' (mk c a b)) {op : Nat → PX} (hop : PG N G op) :
    ∀ (n p0 p : Nat) (a : BN), p ≤ N → N < n + p → p0 + a.2.1.length ≤ p → G' a → (∀ f, lop T ok mk op n p a = .inl f → -6000 ≤ f ∧ f < 0) ∧ ∀ p' b, lop T ok mk op n p a = .inr (p', b) → p ≤ p' ∧ p' ≤ N ∧ p0 + b.2.1.length ≤ p' ∧ G' b ∧ ok (T p') = false := by
  intro n
  induction n with
  | zero => intro p0 p a h1 h2; omega
  | succ n ih =>
    intro p0 p a h1 h2 h3 h4
    unfold lop
    by_cases hk : ok (T p) = true
    · rw [if_pos hk]
      have hlt : p < N := txt_lt hT (fun e => by rw [e, ok0] at hk; cases hk)
      obtain ⟨o1, o2⟩ := hop (p + 1) (by omega)
      constructor
      · intro f hf
        rcases bdX_l hf with q | ⟨p', b, q1, q2⟩
        · exact o1 f q
        · obtain ⟨r1, r2, r3, r4⟩ := o2 p' b q1
          exact (ih p0 p' _ r2 (by omega) (by rw [hmk]; simp only [List.length_append, List.length_cons, List.length_nil]; omega) (hG _ _ _ hk h4 r4)).1 f q2
      · intro p'' b' hb
        obtain ⟨p', b, q1, q2⟩ := bdX_r hb
        obtain ⟨r1, r2, r3, r4⟩ := o2 p' b q1
        obtain ⟨s1, s2⟩ := (ih p0 p' _ r2 (by omega) (by rw [hmk]; simp only [List.length_append, List.length_cons, List.length_nil]; omega) (hG _ _ _ hk h4 r4)).2 p'' b' q2
        exact ⟨by omega, s2⟩
    · rw [if_neg hk]
      refine ⟨fun f hf => (by cases hf), fun p' b hb => ?_⟩
      cases hb
      exact ⟨Nat.le_refl _, h1, h3, h4, Bool.eq_false_iff.mpr hk⟩
theorem chn_PG (hT : ∀ p, N ≤ p → T p = 0) (hN : N ≤ 160) {ok : Int → Bool} (ok0 : ok 0 = false) {mk : Int → BN → BN → BN} (hmk : ∀ c a b, (mk c a b).2.1 = a.2.1 ++ (b.2.1 ++ [(c, 0)])) {G G' : BN → Prop} (hG : ∀ c a b, ok c = true → G' a → G b → G' (mk c a b)) (hG0 : ∀ a, G a → G' a) {op : Nat → PX} (hop : PG N G op) : PG N G' (chn T ok mk op) ∧ ∀ p p' b, p ≤ N → chn T ok mk op p = .inr (p', b) → ok (T p') = false := by
  have key : ∀ p, p ≤ N → (∀ f, chn T ok mk op p = .inl f → -6000 ≤ f ∧ f < 0) ∧ ∀ p' b, chn T ok mk op p = .inr (p', b) → p < p' ∧ p' ≤ N ∧ p + b.2.1.length ≤ p' ∧ G' b ∧ ok (T p') = false := by
    intro p hp
    obtain ⟨o1, o2⟩ := hop p hp
    unfold chn
    constructor
    · intro f hf
      rcases bdX_l hf with q | ⟨p', b, q1, q2⟩
      · exact o1 f q
      · obtain ⟨r1, r2, r3, r4⟩ := o2 p' b q1
        exact (lop_PG hT hN ok0 hmk hG hop 200 p p' b r2 (by omega) r3 (hG0 _ r4)).1 f q2
    · intro p'' b' hb
      obtain ⟨p', b, q1, q2⟩ := bdX_r hb
      obtain ⟨r1, r2, r3, r4⟩ := o2 p' b q1
      obtain ⟨s1, s2⟩ := (lop_PG hT hN ok0 hmk hG hop 200 p p' b r2 (by omega) r3 (hG0 _ r4)).2 p'' b' q2
      exact ⟨by omega, s2⟩
  refine ⟨fun p hp => ⟨(key p hp).1, fun p' b hb => ?_⟩, fun p p' b hp hb => ((key p hp).2 p' b hb).2.2.2.2⟩
  obtain ⟨h1, h2, h3, h4, -⟩ := (key p hp).2 p' b hb
  exact ⟨h1, h2, h3, h4⟩
theorem numP_ok (hT : ∀ p, N ≤ p → T p = 0) : ∀ (n p : Nat) (v : Int), p ≤ N → 0 ≤ v → p ≤ (numP T n p v).1 ∧ (numP T n p v).1 ≤ N ∧ (numP T n p v).1 ≤ p + n ∧ 0 ≤ (numP T n p v).2 ∧ (numP T n p v).2 < (v + 1) * 10 ^ n := by
  intro n
  induction n with
  | zero => intro p v hp hv; exact ⟨Nat.le_refl _, hp, Nat.le_refl _, hv, by simp [numP]; omega⟩
  | succ n ih =>
    intro p v hp hv
    unfold numP
    have h10 : (v + 1) * 10 ^ n ≥ v + 1 := by
      have : (1 : Int) ≤ 10 ^ n := Int.pow_pos (show (0 : Int) < 10 by decide)
      have := Int.mul_le_mul_of_nonneg_left this (show 0 ≤ v + 1 by omega)
      omega
    have e10 : (v + 1) * 10 ^ (n + 1) = ((v + 1) * 10 ^ n) * 10 := by rw [Int.pow_succ, Int.mul_assoc]
    by_cases hd : dig (T p) = true
    · rw [if_pos hd]
      unfold dig at hd
      rw [decide_eq_true_eq] at hd
      have hlt : p < N := txt_lt hT (by omega)
      obtain ⟨h1, h2, h3, h4, h5⟩ := ih (p + 1) (10 * v + T p - 48) (by omega) (by omega)
      refine ⟨by omega, h2, by omega, h4, ?_⟩
      have h6 : (10 * v + T p - 48 + 1) * 10 ^ n ≤ (10 * (v + 1)) * 10 ^ n := Int.mul_le_mul_of_nonneg_right (by omega) (Int.le_of_lt (Int.pow_pos (by decide)))
      rw [Int.mul_assoc] at h6
      omega
    · rw [if_neg hd]
      exact ⟨Nat.le_refl _, hp, by omega, hv, by simp only; omega⟩
theorem nmb_PG (hT : ∀ p, N ≤ p → T p = 0) (hN : N ≤ 160) {G : BN → Prop} (hG : ∀ v, G (bNum v)) {p : Nat} (hp : p ≤ N) (hd : dig (T p) = true) : (∀ f, nmbP T p = .inl f → -6000 ≤ f ∧ f < 0) ∧ ∀ p' b, nmbP T p = .inr (p', b) → p < p' ∧ p' ≤ N ∧ p + b.2.1.length ≤ p' ∧ G b := by
  have hlt : p < N := txt_lt hT (fun e => by rw [e] at hd; cases hd)
  have h1 := numP_ok hT 4 (p + 1) (10 * 0 + T p - 48) (by omega) (by unfold dig at hd; rw [decide_eq_true_eq] at hd; omega)
  have e : numP T 5 p 0 = numP T 4 (p + 1) (10 * 0 + T p - 48) := by rw [numP, if_pos hd]
  unfold nmbP
  rw [e]
  split
  · exact ⟨fun f hf => by cases hf; omega, fun p' b hb => by cases hb⟩
  · refine ⟨fun f hf => (by cases hf), fun p' b hb => ?_⟩
    cases hb
    exact ⟨by omega, h1.2.1, (by show p + 1 ≤ _; omega), hG _⟩
theorem facB_PG (hT : ∀ p, N ≤ p → T p = 0) (hN : N ≤ 160) {G : BN → Prop} (hG : ∀ v, G (bNum v)) (hG2 : ∀ c, isVl c = true → G (bFac c)) {sub : Option (Nat → PX)} (hs : ∀ e, sub = some e → PG N G e) : PG N G (facB T sub) := by
  intro p hp
  unfold facB
  by_cases hd : dig (T p) = true
  · simp only [if_pos hd]
    exact nmb_PG hT hN hG hp hd
  · simp only [if_neg hd]
    by_cases h91 : T p = 91
    · simp only [if_pos h91]
      have hlt : p < N := txt_lt hT (by omega)
      cases sub with
      | none => exact ⟨fun f hf => by cases hf; omega, fun p' b hb => by cases hb⟩
      | some e =>
        obtain ⟨o1, o2⟩ := hs e rfl (p + 1) (by omega)
        constructor
        · intro f hf
          rcases bdX_l hf with q | ⟨p', b, q1, q2⟩
          · exact o1 f q
          · obtain ⟨r1, r2, r3, r4⟩ := o2 p' b q1
            split at q2
            · cases q2
            · cases q2; omega
        · intro p'' b' hb
          obtain ⟨p', b, q1, q2⟩ := bdX_r hb
          obtain ⟨r1, r2, r3, r4⟩ := o2 p' b q1
          split at q2
          · rename_i h93
            have := txt_lt hT (p := p') (by omega)
            cases q2
            exact ⟨by omega, by omega, by omega, r4⟩
          · cases q2
    · simp only [if_neg h91]
      by_cases hv : isVl (T p) = true
      · simp only [if_pos hv]
        have hlt : p < N := txt_lt hT (fun e => by rw [e] at hv; cases hv)
        refine ⟨fun f hf => (by cases hf), fun p' b hb => ?_⟩
        cases hb
        exact ⟨by omega, by omega, by simp [bFac], hG2 _ hv⟩
      · simp only [if_neg hv]
        exact ⟨fun f hf => by cases hf; omega, fun p' b hb => by cases hb⟩
end PGS
