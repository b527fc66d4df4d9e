/-! steps and codes mean the same -/
/-- one step of hC, over what follows -/
def hCb (sg va env : Nat → Int) (to : Nat) (F : Nat → List Int → Bool) (step : Nat) (stk : List Int) : Bool := if step < to then
      (if sg step = 48 ∨ sg step = 110 then (if 16 ≤ stk.length then false else F (step + 1) ((if sg step = 48 then va step else fA env (va step)) :: stk))
      else match stk with
      | [] => false
      | x :: t => if sg step = 33 then F (step + 1) (w32 (1 - x) :: t)
        else if sg step = 38 ∨ sg step = 124 then (if (x = 0 ↔ sg step = 38) then F ((if (step : Int) < va step - 1 then (va step - 1).toNat else step) + 1) (x :: t) else F (step + 1) t)
        else match t with
        | [] => false
        | y :: t' => if x = 0 ∧ (sg step = 47 ∨ sg step = 37) then false else F (step + 1) (reck (sg step) y x :: t'))
    else decide (stk.length = 1 ∧ stk.head? ≠ some 0)
theorem hC_s {sg va env : Nat → Int} {to n step : Nat} {stk : List Int} : hC sg va env to (n + 1) step stk = hCb sg va env to (hC sg va env to n) step stk := rfl
theorem hCb_cong {sg va env : Nat → Int} {to step : Nat} {stk : List Int} {F G : Nat → List Int → Bool} (h : step < to → ∀ step' stk', step < step' → F step' stk' = G step' stk') : hCb sg va env to F step stk = hCb sg va env to G step stk := by
  unfold hCb
  by_cases hs : step < to
  · simp only [if_pos hs]
    have next := h hs
    have hj : step < (if (step : Int) < va step - 1 then (va step - 1).toNat else step) + 1 := by split <;> omega
    split
    · split
      · rfl
      · exact next _ _ (by omega)
    · cases stk with
      | nil => rfl
      | cons x t =>
        simp only
        split
        · exact next _ _ (by omega)
        · split
          · split
            · exact next _ _ hj
            · exact next _ _ (by omega)
          · cases t with
            | nil => rfl
            | cons y t' =>
              simp only
              split
              · rfl
              · exact next _ _ (by omega)
  · simp only [if_neg hs]
theorem hC_fuel {sg va env : Nat → Int} {to : Nat} : ∀ (n m step : Nat) (stk : List Int), 1 ≤ n → to < step + n → 1 ≤ m → to < step + m → hC sg va env to n step stk = hC sg va env to m step stk := by
  intro n
  induction n with
  | zero => intro m step stk h; omega
  | succ n ih =>
    intro m step stk _ h2 h3 h4
    obtain ⟨m, rfl⟩ : ∃ k, m = k + 1 := ⟨m - 1, by omega⟩
    rw [hC_s, hC_s]
    exact hCb_cong (fun hs step' stk' h => ih m step' stk' (by omega) (by omega) (by omega) (by omega))
def hMb (cd ca env : Nat → Int) (F : Nat → List (Int × Bool) → Option Bool) (i : Nat) (stk : List (Int × Bool)) : Option Bool := if 2 < cd i then (match stk with
      | y :: x :: t => F (i + 1) (doesM (cd i) x y :: t)
      | _ => none)
    else if cd i = 2 then (match stk with
      | x :: t => F (i + 1) ((w32 (1 - x.1), x.2) :: t)
      | _ => none)
    else if stk.length < 200 then F (i + 1) ((if cd i = 0 then ca i else env (fidx (ca i)), false) :: stk) else none
theorem hM_s {cd ca env : Nat → Int} {n i : Nat} {stk : List (Int × Bool)} : hM cd ca env (n + 1) i stk = hMb cd ca env (hM cd ca env n) i stk := by
  cases stk with
  | nil => rfl
  | cons y t => cases t with
    | nil => rfl
    | cons x t => rfl
theorem ite_rf {x : Int} {a b : Bool} : (if ((x, false) : Int × Bool).2 = true then a else b) = b := rfl
theorem ite_rt {x : Int} {a b : Bool} : (if ((x, true) : Int × Bool).2 = true then a else b) = a := rfl
def seg (sg va : Nat → Int) (f : Nat) (L : List (Int × Int)) : Prop := ∀ (i : Nat) (q : Int × Int), L[i]? = some q → sg (f + i) = q.1 ∧ va (f + i) = q.2
theorem seg_app {sg va : Nat → Int} {f : Nat} {L1 L2 : List (Int × Int)} : seg sg va f (L1 ++ L2) ↔ seg sg va f L1 ∧ seg sg va (f + L1.length) L2 := by
  constructor
  · intro h
    refine ⟨fun i q hi => h i q ?_, fun i q hi => ?_⟩
    · rw [List.getElem?_append_left (List.getElem?_eq_some_iff.mp hi).1]; exact hi
    · have := h (L1.length + i) q (by rw [List.getElem?_append_right (by omega)]; rw [show L1.length + i - L1.length = i by omega]; exact hi)
      rw [Nat.add_assoc]; exact this
  · rintro ⟨h1, h2⟩ i q hi
    by_cases hl : i < L1.length
    · rw [List.getElem?_append_left hl] at hi; exact h1 i q hi
    · rw [List.getElem?_append_right (by omega)] at hi
      have := h2 _ q hi
      rw [show f + L1.length + (i - L1.length) = f + i by omega] at this
      exact this
theorem seg_cons {sg va : Nat → Int} {f : Nat} {q : Int × Int} {L : List (Int × Int)} : seg sg va f (q :: L) ↔ (sg f = q.1 ∧ va f = q.2) ∧ seg sg va (f + 1) L := by
  constructor
  · intro h
    refine ⟨h 0 q rfl, fun i q' hi => ?_⟩
    have := h (i + 1) q' hi
    rw [show f + (i + 1) = f + 1 + i by omega] at this
    exact this
  · rintro ⟨h1, h2⟩ i q' hi
    match i, hi with
    | 0, hi => cases hi; exact h1
    | i + 1, hi =>
      have := h2 i q' hi
      rw [show f + 1 + i = f + (i + 1) by omega] at this
      exact this
section HCS
variable {sg va env : Nat → Int} {to step : Nat}
theorem hC_fix (hto : to ≤ 160) (stk : List Int) : hC sg va env to 200 step stk = hCb sg va env to (hC sg va env to 200) step stk := by
  have h : hC sg va env to (199 + 1) step stk = hCb sg va env to (hC sg va env to 199) step stk := hC_s
  rw [show (199 + 1 : Nat) = 200 from rfl] at h
  rw [h]
  exact hCb_cong (fun hs step' stk' h => hC_fuel 199 200 step' stk' (by decide) (by omega) (by decide) (by omega))
theorem hC_push (hto : to ≤ 160) (hs : step < to) {stk : List Int} (hk : stk.length < 16) (h : sg step = 48 ∨ sg step = 110) : hC sg va env to 200 step stk = hC sg va env to 200 (step + 1) ((if sg step = 48 then va step else fA env (va step)) :: stk) := by
  rw [hC_fix hto]
  unfold hCb
  rw [if_pos hs, if_pos h, if_neg (by omega)]
theorem hC_not (hto : to ≤ 160) (hs : step < to) {x : Int} {t : List Int} (h : sg step = 33) : hC sg va env to 200 step (x :: t) = hC sg va env to 200 (step + 1) (w32 (1 - x) :: t) := by
  rw [hC_fix hto]
  unfold hCb
  rw [if_pos hs, if_neg (by omega)]
  simp only
  rw [if_pos h]
theorem hC_jmp (hto : to ≤ 160) (hs : step < to) {x : Int} {t : List Int} {e : Nat} (h : sg step = 38 ∨ sg step = 124) (he : va step = (e : Int)) (hse : step + 1 < e) : hC sg va env to 200 step (x :: t) = if (x = 0 ↔ sg step = 38) then hC sg va env to 200 e (x :: t) else hC sg va env to 200 (step + 1) t := by
  rw [hC_fix hto]
  unfold hCb
  rw [if_pos hs, if_neg (by omega)]
  simp only
  rw [if_neg (by omega), if_pos h, he, if_pos (show (step : Int) < (e : Int) - 1 by omega), show ((e : Int) - 1).toNat + 1 = e by omega]
theorem hC_bin (hto : to ≤ 160) (hs : step < to) {x y : Int} {t : List Int} (h : sg step = 43 ∨ sg step = 45 ∨ sg step = 42 ∨ sg step = 47 ∨ sg step = 37 ∨ sg step = 60 ∨ sg step = 62 ∨ sg step = 61) : hC sg va env to 200 step (x :: y :: t) = if x = 0 ∧ (sg step = 47 ∨ sg step = 37) then false else hC sg va env to 200 (step + 1) (reck (sg step) y x :: t) := by
  rw [hC_fix hto]
  unfold hCb
  rw [if_pos hs, if_neg (by omega)]
  simp only
  rw [if_neg (by omega), if_neg (by omega)]
theorem hC_done (hto : to ≤ 160) {stk : List Int} : hC sg va env to 200 to stk = decide (stk.length = 1 ∧ stk.head? ≠ some 0) := by
  rw [hC_fix hto]
  unfold hCb
  rw [if_neg (by omega)]
end HCS
/-- a bundle is good: its steps, with D more places on the stack, and its codes both mean what it means -/
def GA (D : Nat) (b : BN) : Prop := (∀ f, (b.1 f).length = b.2.1.length) ∧ (1 ≤ b.2.1.length) ∧
  (∀ (sg va env : Nat → Int) (to f : Nat) (stk : List Int), seg sg va f (b.1 f) → f + b.2.1.length ≤ to → to ≤ 160 → stk.length + D ≤ 16 → hC sg va env to 200 f stk = if (b.2.2 env).2 = true then false else hC sg va env to 200 (f + b.2.1.length) ((b.2.2 env).1 :: stk)) ∧
  ∀ (cd ca env : Nat → Int) (n i : Nat) (stk : List (Int × Bool)), seg cd ca i b.2.1 → stk.length + b.2.1.length ≤ 200 → hM cd ca env (b.2.1.length + n) i stk = hM cd ca env n (i + b.2.1.length) (b.2.2 env :: stk)
def GB (b : BN) : Prop := GA 14 b ∧ ∀ env, (b.2.2 env).1 = 0 ∨ (b.2.2 env).1 = 1
theorem GA.mono {D D' : Nat} {b : BN} (h : GA D b) (hd : D ≤ D') : GA D' b := ⟨h.1, h.2.1, fun sg va env to f stk h1 h2 h3 h4 => h.2.2.1 sg va env to f stk h1 h2 h3 (by omega), h.2.2.2⟩
theorem GA_num (v : Int) : GA 1 (bNum v) := by
  refine ⟨fun _ => rfl, Nat.le_refl _, fun sg va env to f stk h1 h2 h3 h4 => ?_, fun cd ca env n i stk h1 h2 => ?_⟩
  · obtain ⟨⟨q1, q2⟩, -⟩ := seg_cons.mp h1
    have q1 : sg f = 48 := q1
    have q2 : va f = v := q2
    have h2 : f + 1 ≤ to := h2
    show hC sg va env to 200 f stk = if (((v, false) : Int × Bool).2 = true) then false else hC sg va env to 200 (f + 1) (v :: stk)
    rw [ite_rf, hC_push h3 (by omega) (by omega) (Or.inl q1), if_pos q1, q2]
  · obtain ⟨⟨q1, q2⟩, -⟩ := seg_cons.mp h1
    have q1 : cd i = 0 := q1
    have q2 : ca i = v := q2
    have h2 : stk.length + 1 ≤ 200 := h2
    show hM cd ca env (1 + n) i stk = hM cd ca env n (i + 1) ((v, false) :: stk)
    rw [Nat.add_comm 1 n, hM_s]
    unfold hMb
    rw [if_neg (by omega), if_neg (by omega), if_pos (by omega), if_pos q1, q2]
theorem GA_fac (c : Int) (hc : isVl c = true) : GA 1 (bFac c) := by
  have hi : fidx c < 9 := by unfold fidx; repeat (first | (split; omega) | omega)
  refine ⟨fun _ => rfl, Nat.le_refl _, fun sg va env to f stk h1 h2 h3 h4 => ?_, fun cd ca env n i stk h1 h2 => ?_⟩
  · obtain ⟨⟨q1, q2⟩, -⟩ := seg_cons.mp h1
    have q1 : sg f = 110 := q1
    have q2 : va f = (fidx c : Int) := q2
    have h2 : f + 1 ≤ to := h2
    show hC sg va env to 200 f stk = if (((env (fidx c), false) : Int × Bool).2 = true) then false else hC sg va env to 200 (f + 1) (env (fidx c) :: stk)
    rw [ite_rf, hC_push h3 (by omega) (by omega) (Or.inr q1), if_neg (by omega), q2, fA, if_pos (by omega), Int.toNat_natCast]
  · obtain ⟨⟨q1, q2⟩, -⟩ := seg_cons.mp h1
    have q1 : cd i = 1 := q1
    have q2 : ca i = c := q2
    have h2 : stk.length + 1 ≤ 200 := h2
    show hM cd ca env (1 + n) i stk = hM cd ca env n (i + 1) ((env (fidx c), false) :: stk)
    rw [Nat.add_comm 1 n, hM_s]
    unfold hMb
    rw [if_neg (by omega), if_neg (by omega), if_pos (by omega), if_neg (by omega), q2]
theorem GA_bin {D Da Db : Nat} {a b : BN} {op : Int} (hop : op = 43 ∨ op = 45 ∨ op = 42 ∨ op = 47 ∨ op = 37 ∨ op = 60 ∨ op = 62 ∨ op = 61) (ha : GA Da a) (hb : GA Db b) (h1 : Da ≤ D) (h2 : Db + 1 ≤ D) : GA D (bBin op a b) := by
  obtain ⟨a1, a2, a3, a4⟩ := ha
  obtain ⟨b1, b2, b3, b4⟩ := hb
  have hl : (bBin op a b).2.1.length = a.2.1.length + (b.2.1.length + 1) := by simp [bBin]
  have hd : ∀ x y : Int × Bool, doesM op x y = (reck op x.1 y.1, x.2 || (y.2 || (decide (op = 47 ∨ op = 37) && decide (y.1 = 0)))) := fun x y => by rw [doesM, if_neg (by omega)]
  refine ⟨fun f => by simp [bBin, a1, b1], by omega, fun sg va env to f stk s1 s2 s3 s4 => ?_, fun cd ca env n i stk s1 s2 => ?_⟩
  · rw [hl] at s2 ⊢
    have s1 : seg sg va f (a.1 f ++ (b.1 (f + a.2.1.length) ++ [(op, 0)])) := s1
    obtain ⟨p1, p2⟩ := seg_app.mp s1
    rw [a1] at p2
    obtain ⟨p3, p4⟩ := seg_app.mp p2
    rw [b1] at p4
    obtain ⟨⟨p5, -⟩, -⟩ := seg_cons.mp p4
    have p5 : sg (f + a.2.1.length + b.2.1.length) = op := p5
    show _ = if (doesM op (a.2.2 env) (b.2.2 env)).2 = true then false else hC sg va env to 200 _ ((doesM op (a.2.2 env) (b.2.2 env)).1 :: stk)
    rw [hd, a3 sg va env to f stk p1 (by omega) s3 (by omega)]
    generalize a.2.2 env = x
    obtain ⟨xv, xr⟩ := x
    cases xr with
    | true => simp only [Bool.true_or, ↓reduceIte]
    | false =>
      rw [ite_rf, b3 sg va env to (f + a.2.1.length) (xv :: stk) p3 (by omega) s3 (by simp only [List.length_cons]; omega)]
      generalize b.2.2 env = y
      obtain ⟨yv, yr⟩ := y
      cases yr with
      | true => simp only [Bool.true_or, Bool.or_true, ↓reduceIte]
      | false =>
        rw [ite_rf, hC_bin s3 (by omega) (by rw [p5]; exact hop), p5]
        simp only [Bool.false_or, Bool.and_eq_true, decide_eq_true_eq]
        rw [show f + a.2.1.length + b.2.1.length + 1 = f + (a.2.1.length + (b.2.1.length + 1)) by omega]
        by_cases hz : yv = 0 ∧ (op = 47 ∨ op = 37)
        · rw [if_pos hz, if_pos ⟨hz.2, hz.1⟩]
        · rw [if_neg hz, if_neg (fun q => hz ⟨q.2, q.1⟩)]
  · rw [hl] at s2 ⊢
    have s1 : seg cd ca i (a.2.1 ++ (b.2.1 ++ [(op, 0)])) := s1
    obtain ⟨p1, p2⟩ := seg_app.mp s1
    obtain ⟨p3, p4⟩ := seg_app.mp p2
    obtain ⟨⟨p5, -⟩, -⟩ := seg_cons.mp p4
    have p5 : cd (i + a.2.1.length + b.2.1.length) = op := p5
    rw [show a.2.1.length + (b.2.1.length + 1) + n = a.2.1.length + (b.2.1.length + (n + 1)) by omega, a4 cd ca env _ i stk p1 (by omega), b4 cd ca env _ _ _ p3 (by simp only [List.length_cons]; omega), hM_s]
    unfold hMb
    rw [p5, if_pos (by omega)]
    show hM cd ca env n (i + a.2.1.length + b.2.1.length + 1) (doesM op (a.2.2 env) (b.2.2 env) :: stk) = hM cd ca env n (i + (a.2.1.length + (b.2.1.length + 1))) (doesM op (a.2.2 env) (b.2.2 env) :: stk)
    rw [show i + a.2.1.length + b.2.1.length + 1 = i + (a.2.1.length + (b.2.1.length + 1)) by omega]
theorem GB_not {a : BN} (ha : GB a) : GB (bNot a) := by
  obtain ⟨⟨a1, a2, a3, a4⟩, h01⟩ := ha
  have hl : (bNot a).2.1.length = a.2.1.length + 1 := by simp [bNot]
  refine ⟨⟨fun f => by simp [bNot, a1], by omega, fun sg va env to f stk s1 s2 s3 s4 => ?_, fun cd ca env n i stk s1 s2 => ?_⟩, fun env => ?_⟩
  · rw [hl] at s2 ⊢
    have s1 : seg sg va f (a.1 f ++ [(33, 0)]) := s1
    obtain ⟨p1, p2⟩ := seg_app.mp s1
    rw [a1] at p2
    obtain ⟨⟨p5, -⟩, -⟩ := seg_cons.mp p2
    show _ = if (a.2.2 env).2 = true then false else hC sg va env to 200 _ (w32 (1 - (a.2.2 env).1) :: stk)
    rw [a3 sg va env to f stk p1 (by omega) s3 s4]
    split
    · rfl
    · rw [hC_not s3 (by omega) p5, Nat.add_assoc]
  · rw [hl] at s2 ⊢
    have s1 : seg cd ca i (a.2.1 ++ [(2, 0)]) := s1
    obtain ⟨p1, p2⟩ := seg_app.mp s1
    obtain ⟨⟨p5, -⟩, -⟩ := seg_cons.mp p2
    have p5 : cd (i + a.2.1.length) = 2 := p5
    rw [show a.2.1.length + 1 + n = a.2.1.length + (n + 1) by omega, a4 cd ca env _ i stk p1 (by omega), hM_s]
    unfold hMb
    rw [p5, if_neg (by decide), if_pos rfl]
    show hM cd ca env n (i + a.2.1.length + 1) ((w32 (1 - (a.2.2 env).1), (a.2.2 env).2) :: stk) = hM cd ca env n (i + (a.2.1.length + 1)) ((w32 (1 - (a.2.2 env).1), (a.2.2 env).2) :: stk)
    rw [Nat.add_assoc]
  · show w32 (1 - (a.2.2 env).1) = 0 ∨ w32 (1 - (a.2.2 env).1) = 1
    rcases h01 env with e | e
    · rw [e]; exact Or.inr rfl
    · rw [e]; exact Or.inl rfl
theorem GB_jmp {a b : BN} {op : Int} (hop : op = 38 ∨ op = 124) (ha : GB a) (hb : GB b) : GB (bJmp op a b) := by
  obtain ⟨⟨a1, a2, a3, a4⟩, ha01⟩ := ha
  obtain ⟨⟨b1, b2, b3, b4⟩, hb01⟩ := hb
  have hl : (bJmp op a b).2.1.length = a.2.1.length + (b.2.1.length + 1) := by simp [bJmp]
  have hd : ∀ x y : Int × Bool, doesM op x y = if x.2 = true ∨ x.1 ≠ (if op = 38 then 1 else 0) then x else y := fun x y => by rw [doesM, if_pos hop]
  refine ⟨⟨fun f => by simp [bJmp, a1, b1], by omega, fun sg va env to f stk s1 s2 s3 s4 => ?_, fun cd ca env n i stk s1 s2 => ?_⟩, fun env => ?_⟩
  · rw [hl] at s2 ⊢
    have s1 : seg sg va f (a.1 f ++ ((op, ((f + a.2.1.length + 1 + b.2.1.length : Nat) : Int)) :: b.1 (f + a.2.1.length + 1))) := s1
    obtain ⟨p1, p2⟩ := seg_app.mp s1
    rw [a1] at p2
    obtain ⟨⟨p5, p6⟩, p3⟩ := seg_cons.mp p2
    have p5 : sg (f + a.2.1.length) = op := p5
    have p6 : va (f + a.2.1.length) = ((f + a.2.1.length + 1 + b.2.1.length : Nat) : Int) := p6
    show _ = if (doesM op (a.2.2 env) (b.2.2 env)).2 = true then false else hC sg va env to 200 _ ((doesM op (a.2.2 env) (b.2.2 env)).1 :: stk)
    have h01 := ha01 env
    rw [hd, a3 sg va env to f stk p1 (by omega) s3 s4]
    generalize a.2.2 env = x at h01 ⊢
    obtain ⟨xv, xr⟩ := x
    have h01 : xv = 0 ∨ xv = 1 := h01
    cases xr with
    | true => simp only [true_or, ↓reduceIte]
    | false =>
      rw [ite_rf, hC_jmp s3 (by omega) (by rw [p5]; exact hop) p6 (by omega), p5]
      have e1 : f + a.2.1.length + 1 + b.2.1.length = f + (a.2.1.length + (b.2.1.length + 1)) := by omega
      by_cases hset : (xv = 0 ↔ op = 38)
      · have hk : (false = true ∨ xv ≠ (if op = 38 then 1 else 0)) := by
          right
          rcases hop with e | e
          · rw [if_pos e]; have := hset.mpr e; omega
          · rw [if_neg (by omega)]; intro q; have := hset.mp q; omega
        rw [if_pos hset, if_pos hk, e1, ite_rf]
      · have hk : ¬ (false = true ∨ xv ≠ (if op = 38 then 1 else 0)) := by
          rintro (q | q)
          · cases q
          · apply q
            rcases hop with e | e
            · rw [if_pos e]; rcases h01 with e2 | e2; exact absurd ⟨fun _ => e, fun _ => e2⟩ hset; exact e2
            · rw [if_neg (by omega)]; rcases h01 with e2 | e2; exact e2; exact absurd ⟨fun q => by omega, fun q => by omega⟩ hset
        rw [if_neg hset, if_neg hk, b3 sg va env to (f + a.2.1.length + 1) stk p3 (by omega) s3 s4, e1]
  · rw [hl] at s2 ⊢
    have s1 : seg cd ca i (a.2.1 ++ (b.2.1 ++ [(op, 0)])) := s1
    obtain ⟨p1, p2⟩ := seg_app.mp s1
    obtain ⟨p3, p4⟩ := seg_app.mp p2
    obtain ⟨⟨p5, -⟩, -⟩ := seg_cons.mp p4
    have p5 : cd (i + a.2.1.length + b.2.1.length) = op := p5
    rw [show a.2.1.length + (b.2.1.length + 1) + n = a.2.1.length + (b.2.1.length + (n + 1)) by omega, a4 cd ca env _ i stk p1 (by omega), b4 cd ca env _ _ _ p3 (by simp only [List.length_cons]; omega), hM_s]
    unfold hMb
    rw [p5, if_pos (by omega)]
    show hM cd ca env n (i + a.2.1.length + b.2.1.length + 1) (doesM op (a.2.2 env) (b.2.2 env) :: stk) = hM cd ca env n (i + (a.2.1.length + (b.2.1.length + 1))) (doesM op (a.2.2 env) (b.2.2 env) :: stk)
    rw [show i + a.2.1.length + b.2.1.length + 1 = i + (a.2.1.length + (b.2.1.length + 1)) by omega]
  · show (doesM op (a.2.2 env) (b.2.2 env)).1 = 0 ∨ (doesM op (a.2.2 env) (b.2.2 env)).1 = 1
    rw [hd]
    generalize (if op = 38 then (1 : Int) else 0) = w
    split
    · exact ha01 env
    · exact hb01 env
section GPG
variable {T : Nat → Int} {N : Nat}
theorem okS_op {k : Nat} {c : Int} (hk : k = 2 ∨ k = 3) (h : okS k c = true) : c = 43 ∨ c = 45 ∨ c = 42 ∨ c = 47 ∨ c = 37 ∨ c = 60 ∨ c = 62 ∨ c = 61 := by
  rcases hk with rfl | rfl
  · have := okS_2 h; omega
  · have := okS_3 h; omega
theorem exp_PG (hT : ∀ p, N ≤ p → T p = 0) (hN : N ≤ 160) {D : Nat} {f : Nat → PX} (hf : PG N (GA D) f) : PG N (GA (D + 2)) (expB T f) := by
  have h1 := chn_PG (G := GA D) (G' := GA (D + 1)) hT hN (ok := okS 3) okS0 bBin_c (fun c a b hc ha hb => GA_bin (okS_op (Or.inr rfl) hc) ha hb (Nat.le_refl _) (Nat.le_refl _)) (fun a ha => ha.mono (by omega)) hf
  exact (chn_PG (G := GA (D + 1)) (G' := GA (D + 2)) hT hN (ok := okS 2) okS0 bBin_c (fun c a b hc ha hb => GA_bin (okS_op (Or.inl rfl) hc) ha hb (Nat.le_refl _) (Nat.le_refl _)) (fun a ha => ha.mono (by omega)) h1.1).1
theorem FAC_PG (hT : ∀ p, N ≤ p → T p = 0) (hN : N ≤ 160) : ∀ d, PG N (GA (1 + 2 * d)) (FAC T d) := by
  intro d
  induction d with
  | zero => exact facB_PG hT hN GA_num GA_fac (fun e h => by cases h)
  | succ d ih => exact facB_PG hT hN (fun v => (GA_num v).mono (by omega)) (fun c hc => (GA_fac c hc).mono (by omega)) (fun e h => by cases h; exact exp_PG hT hN ih)
theorem cmp_PG (hT : ∀ p, N ≤ p → T p = 0) (hN : N ≤ 160) (d : Nat) (hd : d ≤ 5) : PG N GB (cmpB T (FAC T d)) := by
  have eg := exp_PG hT hN (FAC_PG hT hN d)
  intro p hp
  obtain ⟨c1, c2⟩ := cmp_PG0 hT hN d p hp
  refine ⟨c1, fun p'' b' hb => ?_⟩
  obtain ⟨k1, k2, k3, -⟩ := c2 p'' b' hb
  refine ⟨k1, k2, k3, ?_⟩
  unfold cmpB at hb
  obtain ⟨p1, a, q1, q2⟩ := bdX_r hb
  obtain ⟨r1, r2, r3, r4⟩ := (eg p hp).2 p1 a q1
  split at q2
  · rename_i hs
    have hlt : p1 < N := txt_lt hT (fun e => by rw [e] at hs; cases hs)
    obtain ⟨p2, b, q3, q4⟩ := bdX_r q2
    obtain ⟨t1, t2, t3, t4⟩ := (eg (p1 + 1) (by omega)).2 p2 b q3
    cases q4
    have hc := isSg_c hs
    refine ⟨GA_bin (by omega) r4 t4 (by omega) (by omega), fun env => ?_⟩
    show (doesM (T p1) (a.2.2 env) (b.2.2 env)).1 = 0 ∨ (doesM (T p1) (a.2.2 env) (b.2.2 env)).1 = 1
    rw [doesM, if_neg (by omega)]
    show reck (T p1) (a.2.2 env).1 (b.2.2 env).1 = 0 ∨ reck (T p1) (a.2.2 env).1 (b.2.2 env).1 = 1
    have bo : ∀ (p : Prop) [Decidable p], b2i p = 0 ∨ b2i p = 1 := fun p _ => by unfold b2i; split; exact Or.inr rfl; exact Or.inl rfl
    unfold reck
    rw [if_neg (by omega), if_neg (by omega), if_neg (by omega), if_neg (by omega), if_neg (by omega)]
    split
    · exact bo _
    · split <;> exact bo _
  · cases q2
theorem cnd_PG (hT : ∀ p, N ≤ p → T p = 0) (hN : N ≤ 160) {q : Nat → PX} (hf : PG N GB q) : PG N GB (cndB T q) := by
  have h1 := chn_PG (G := GB) (G' := GB) hT hN (ok := okS 1) okS0 bJmp_c (fun c a b hc ha hb => GB_jmp (Or.inl (okS_1 hc)) ha hb) (fun _ h => h) hf
  exact (chn_PG (G := GB) (G' := GB) hT hN (ok := okS 0) okS0 bJmp_c (fun c a b hc ha hb => GB_jmp (Or.inr (okS_0 hc)) ha hb) (fun _ h => h) h1.1).1
theorem PIE_PG (hT : ∀ p, N ≤ p → T p = 0) (hN : N ≤ 160) : ∀ d, d ≤ 5 → PG N GB (PIE T d) := by
  intro d
  induction d with
  | zero => intro _; exact pie_PG hT hN (fun b h => GB_not h) (cmp_PG hT hN 0 (by omega)) (fun e h => by cases h)
  | succ d ih => intro hd; exact pie_PG hT hN (fun b h => GB_not h) (cmp_PG hT hN (d + 1) hd) (fun e h => by cases h; exact ⟨ih (by omega), cnd_PG hT hN (ih (by omega))⟩)
/-- whether a C holds -/
def hldB (b : BN) (env : Nat → Int) : Bool := !(b.2.2 env).2 && decide ((b.2.2 env).1 = 1)
theorem GB.cls {b : BN} (h : GB b) {sg va env : Nat → Int} {f : Nat} (hs : seg sg va f (b.1 f)) (hto : f + b.2.1.length ≤ 160) : hC sg va env (f + b.2.1.length) 200 f [] = hldB b env := by
  rw [h.1.2.2.1 sg va env _ f [] hs (Nat.le_refl _) hto (by simp)]
  have h01 := h.2 env
  unfold hldB
  generalize b.2.2 env = x at h01 ⊢
  obtain ⟨xv, xr⟩ := x
  cases xr with
  | true => simp
  | false =>
    rw [ite_rf, hC_done hto]
    have h01 : xv = 0 ∨ xv = 1 := h01
    rcases h01 with rfl | rfl <;> rfl
theorem GB.ref {b : BN} (h : GB b) {cd ca env : Nat → Int} {f : Nat} (hs : seg cd ca f b.2.1) (hl : b.2.1.length ≤ 200) : hM cd ca env b.2.1.length f [] = some (hldB b env) := by
  have := h.1.2.2.2 cd ca env 0 f [] hs (by simpa using hl)
  rw [Nat.add_zero] at this
  rw [this]
  rfl
end GPG
