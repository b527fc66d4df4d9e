def p33 (x : Int) : Bool := decide (x = 33)
def pAn (x : Int) : Bool := okS 1 x
def pAO (x : Int) : Bool := okS 1 x || okS 0 x
/-- ends: the ! on top -/
def endF (s : QS) : QS := (s.1, s.2.1.dropWhile p33, s.2.2.1 - (s.2.1.takeWhile p33).length, s.2.2.2 ++ (s.2.1.takeWhile p33).map (fun _ => (2, 0)))
def pcB (T : Nat → Int) (s : QS) : Int ⊕ QS := match cmpB T (FAC T (6 - s.2.2.1)) s.1 with
  | .inl f => .inl f
  | .inr q => if T q.1 = 93 ∨ isSg (T q.1) = true then .inl (-1000 - (q.1 : Int)) else .inr (endF (q.1, s.2.1, s.2.2.1, s.2.2.2 ++ q.2.2.1))
def pcF (T : Nat → Int) : Nat → QS → Int ⊕ QS
  | 0, s => pcB T s
  | n + 1, s => if T s.1 = 33 ∨ T s.1 = 40 then (if s.2.2.1 = 6 then .inl (-5000 - (s.1 : Int)) else pcF T n (s.1 + 1, T s.1 :: s.2.1, s.2.2.1 + 1, s.2.2.2)) else pcB T s
/-- goesBehind: 0 on, 1 a piece follows, 2 over -/
def gbF (T : Nat → Int) (s : QS) : Int ⊕ (Nat × QS) :=
  if okS 1 (T s.1) then .inr (1, s.1 + 1, T s.1 :: s.2.1.dropWhile pAn, s.2.2.1, s.2.2.2 ++ emO (s.2.1.takeWhile pAn))
  else if okS 0 (T s.1) then .inr (1, s.1 + 1, T s.1 :: s.2.1.dropWhile pAO, s.2.2.1, s.2.2.2 ++ emO (s.2.1.takeWhile pAO))
  else if T s.1 = 41 then (if (s.2.1.dropWhile pAO).tail = [] then .inr (2, s.1 + 1, [], s.2.2.1 - 1, s.2.2.2 ++ emO (s.2.1.takeWhile pAO)) else .inr (0, endF (s.1 + 1, (s.2.1.dropWhile pAO).tail, s.2.2.1 - 1, s.2.2.2 ++ emO (s.2.1.takeWhile pAO))))
  else .inl (-1000 - (s.1 : Int))
section SIMC
variable {T : Nat → Int} {N : Nat} {B P O : QS → Prop} {Fl : Int → Prop}
def HP (T : Nat → Int) (B : QS → Prop) (Fl : Int → Prop) (s : QS) : Prop := rsF (pcF T (7 - s.2.2.1) s) Fl B
def HB (T : Nat → Int) (B P O : QS → Prop) (Fl : Int → Prop) (s : QS) : Prop := rsG (gbF T s) Fl B P O
theorem HP_in {p o : Nat} {σ : List Int} {C : List (Int × Int)} (h : T p = 33 ∨ T p = 40) (ho : o < 6) : HP T B Fl (p, σ, o, C) = HP T B Fl (p + 1, T p :: σ, o + 1, C) := by
  unfold HP
  show rsF (pcF T (7 - o) (p, σ, o, C)) Fl B = rsF (pcF T (7 - (o + 1)) (p + 1, T p :: σ, o + 1, C)) Fl B
  rw [show 7 - o = (7 - (o + 1)) + 1 by omega, pcF]
  simp only
  rw [if_pos h, if_neg (by omega)]
theorem HP_6 {p : Nat} {σ : List Int} {C : List (Int × Int)} (h : T p = 33 ∨ T p = 40) (hf : Fl (-5000 - (p : Int))) : HP T B Fl (p, σ, 6, C) := by
  unfold HP
  show rsF (pcF T 1 (p, σ, 6, C)) Fl B
  rw [pcF]
  simp only
  rw [if_pos h, if_pos trivial]
  exact hf
theorem HP_b {p o : Nat} {σ : List Int} {C : List (Int × Int)} (h : ¬ (T p = 33 ∨ T p = 40)) : HP T B Fl (p, σ, o, C) = rsF (pcB T (p, σ, o, C)) Fl B := by
  unfold HP
  show rsF (pcF T (7 - o) (p, σ, o, C)) Fl B = _
  cases 7 - o with
  | zero => rfl
  | succ n => rw [pcF]; simp only; rw [if_neg h]
theorem HB_an {p o : Nat} {c : Int} {σ : List Int} {C : List (Int × Int)} (h : okS 1 c = true) : HB T B P O Fl (p, c :: σ, o, C) = HB T B P O Fl (p, σ, o, C ++ [(c, 0)]) := by
  have h1 : pAn c = true := h
  have h2 : pAO c = true := by unfold pAO; rw [h]; rfl
  unfold HB gbF
  simp only
  rw [(tk_cons h1).1, (tk_cons h1).2, (tk_cons h2).1, (tk_cons h2).2, emO_cons, emO_cons]
theorem HB_or {p o : Nat} {c : Int} {σ : List Int} {C : List (Int × Int)} (h : okS 0 c = true) (hp : okS 1 (T p) = false) : HB T B P O Fl (p, c :: σ, o, C) = HB T B P O Fl (p, σ, o, C ++ [(c, 0)]) := by
  have h2 : pAO c = true := by unfold pAO; rw [h]; exact Bool.or_true _
  unfold HB gbF
  simp only [hp, Bool.false_eq_true, ↓reduceIte]
  rw [(tk_cons h2).1, (tk_cons h2).2, emO_cons]
theorem HB_s1 {p o : Nat} {σ : List Int} {C : List (Int × Int)} (hk : okS 1 (hd0 σ) = false) (h : okS 1 (T p) = true) : HB T B P O Fl (p, σ, o, C) = P (p + 1, T p :: σ, o, C) := by
  have h1 := tk_nil (f := pAn) (σ := σ) hk
  unfold HB gbF
  simp only
  rw [if_pos h, h1.1, h1.2]
  rw [show C ++ emO [] = C from List.append_nil C]
  rfl
theorem okS_1 {c : Int} (h : okS 1 c = true) : c = 38 := by simpa [okS] using h
theorem okS_0 {c : Int} (h : okS 0 c = true) : c = 124 := by simpa [okS] using h
theorem HB_s0 {p o : Nat} {σ : List Int} {C : List (Int × Int)} (hk : pAO (hd0 σ) = false) (h : okS 0 (T p) = true) : HB T B P O Fl (p, σ, o, C) = P (p + 1, T p :: σ, o, C) := by
  have h1 := tk_nil (f := pAO) (σ := σ) hk
  have h3 : okS 1 (T p) = false := by rw [okS_0 h]; rfl
  unfold HB gbF
  simp only
  rw [h3, if_neg (by decide), if_pos h, h1.1, h1.2]
  rw [show C ++ emO [] = C from List.append_nil C]
  rfl
/-- behind a C, at its ( -/
theorem HB_end {p o : Nat} {σ : List Int} {C : List (Int × Int)} (h1 : okS 1 (T p) = false) (h0 : okS 0 (T p) = false) : HB T B P O Fl (p, 40 :: σ, o, C) = (if T p = 41 then (if σ = [] then O (p + 1, [], o - 1, C) else B (endF (p + 1, σ, o - 1, C))) else Fl (-1000 - (p : Int))) := by
  have e1 := tk_nil (f := pAO) (σ := 40 :: σ) rfl
  have e0 : C ++ emO [] = C := List.append_nil C
  unfold HB gbF
  simp only
  rw [h1, h0, if_neg (by decide), if_neg (by decide), e1.1, e1.2, e0, List.tail_cons]
  split
  · split <;> rfl
  · rfl
theorem HB_bad {s : QS} (h1 : okS 1 (T s.1) = false) (h0 : okS 0 (T s.1) = false) (h41 : T s.1 ≠ 41) : HB T B P O Fl s = Fl (-1000 - (s.1 : Int)) := by
  unfold HB gbF
  rw [h1, h0, if_neg (by decide), if_neg (by decide), if_neg h41]
  rfl
theorem endF_id {p o : Nat} {σ : List Int} {C : List (Int × Int)} (h : p33 (hd0 σ) = false) : endF (p, σ, o, C) = (p, σ, o, C) := by
  have e := tk_nil (f := p33) (σ := σ) h
  unfold endF
  simp only
  rw [e.1, e.2]
  simp
theorem endF_33 {p o : Nat} {σ : List Int} {C : List (Int × Int)} : endF (p, 33 :: σ, o + 1, C) = endF (p, σ, o, C ++ [(2, 0)]) := by
  have e := tk_cons (f := p33) (c := 33) (σ := σ) rfl
  unfold endF
  simp only
  rw [e.1, e.2]
  simp
theorem cmp_PG0 (hT : ∀ p, N ≤ p → T p = 0) (hN : N ≤ 160) (d : Nat) : PG N (fun _ => True) (cmpB T (FAC T d)) := by
  have eg := exp_PG0 hT hN (FAC_PG0 hT hN d)
  intro p hp
  obtain ⟨o1, o2⟩ := eg.2.1 p hp
  unfold cmpB
  constructor
  · intro f hf
    rcases bdX_l hf with q | ⟨p1, a, q1, q2⟩
    · exact o1 f q
    · obtain ⟨r1, r2, r3, -⟩ := o2 p1 a q1
      split at q2
      · rename_i hs
        have hlt : p1 < N := txt_lt hT (fun e => by rw [e] at hs; cases hs)
        rcases bdX_l q2 with q | ⟨p2, b, q3, q4⟩
        · exact (eg.2.1 (p1 + 1) (by omega)).1 f q
        · cases q4
      · cases q2; omega
  · intro p'' b' hb
    obtain ⟨p1, a, q1, q2⟩ := bdX_r hb
    obtain ⟨r1, r2, r3, -⟩ := o2 p1 a q1
    split at q2
    · rename_i hs
      have hlt : p1 < N := txt_lt hT (fun e => by rw [e] at hs; cases hs)
      obtain ⟨p2, b, q3, q4⟩ := bdX_r q2
      obtain ⟨t1, t2, t3, -⟩ := (eg.2.1 (p1 + 1) (by omega)).2 p2 b q3
      cases q4
      exact ⟨by omega, t2, by simp only [bBin, List.length_append, List.length_cons, List.length_nil]; omega, trivial⟩
    · cases q2
theorem cnd_PG0 (hT : ∀ p, N ≤ p → T p = 0) (hN : N ≤ 160) {q : Nat → PX} (hf : PG N (fun _ => True) q) : PG N (fun _ => True) (chn T (okS 1) bJmp q) ∧ PG N (fun _ => True) (cndB T q) ∧ (∀ p p' b, p ≤ N → chn T (okS 1) bJmp q p = .inr (p', b) → okS 1 (T p') = false) ∧ ∀ p p' b, p ≤ N → cndB T q p = .inr (p', b) → okS 0 (T p') = false ∧ okS 1 (T p') = false := by
  have h1 := chn_PG (G := fun _ => True) (G' := fun _ => True) hT hN (ok := okS 1) okS0 bJmp_c (fun _ _ _ _ _ _ => trivial) (fun _ _ => trivial) hf
  have h2 := chn_PG (G := fun _ => True) (G' := fun _ => True) hT hN (ok := okS 0) okS0 bJmp_c (fun _ _ _ _ _ _ => trivial) (fun _ _ => trivial) h1.1
  refine ⟨h1.1, h2.1, h1.2, fun p p' b hp hb => ⟨h2.2 p p' b hp hb, ?_⟩⟩
  have key : ∀ (n p : Nat) (a : BN), p ≤ N → okS 1 (T p) = false → lop T (okS 0) bJmp (chn T (okS 1) bJmp q) n p a = .inr (p', b) → okS 1 (T p') = false := by
    intro n
    induction n with
    | zero => intro p a _ h hb; cases hb; exact h
    | succ n ih =>
      intro p a hp h hb
      unfold lop at hb
      split at hb
      · rename_i hc
        have hlt : p < N := txt_lt hT (fun e => by rw [e, okS0] at hc; cases hc)
        obtain ⟨q', c, q1, q2⟩ := bdX_r hb
        obtain ⟨r1, r2, -⟩ := (h1.1 (p + 1) (by omega)).2 q' c q1
        exact ih q' _ r2 (h1.2 (p + 1) q' c (by omega) q1) q2
      · cases hb; exact h
  unfold cndB at hb
  obtain ⟨q', c, q1, q2⟩ := bdX_r hb
  obtain ⟨r1, r2, -⟩ := (h1.1 p hp).2 q' c q1
  exact key 200 q' c r2 (h1.2 p q' c hp q1) q2
theorem pie_PG (hT : ∀ p, N ≤ p → T p = 0) (hN : N ≤ 160) {G : BN → Prop} (hG : ∀ b, G b → G (bNot b)) {cmp : Nat → PX} (hc : PG N G cmp) {sub : Option (Nat → PX)} (hs : ∀ e, sub = some e → PG N G e ∧ PG N G (cndB T e)) : PG N G (pieB T cmp sub) := by
  intro p hp
  unfold pieB
  by_cases hi : T p = 33 ∨ T p = 40
  · simp only [if_pos hi]
    have hlt : p < N := txt_lt hT (by omega)
    cases sub with
    | none => exact ⟨fun f hf => by cases hf; omega, fun p' b hb => by cases hb⟩
    | some q =>
      obtain ⟨g1, g2⟩ := hs q rfl
      simp only
      by_cases h40 : T p = 40
      · simp only [if_pos h40]
        obtain ⟨o1, o2⟩ := g2 (p + 1) (by omega)
        constructor
        · intro f hf
          rcases bdX_l hf with q | ⟨p', b, q1, q2⟩
          · exact o1 f q
          · obtain ⟨r1, r2, r3, r4⟩ := o2 p' b q1
            split at q2
            · cases q2
            · cases q2; omega
        · intro p'' b' hb
          obtain ⟨p', b, q1, q2⟩ := bdX_r hb
          obtain ⟨r1, r2, r3, r4⟩ := o2 p' b q1
          split at q2
          · rename_i h41
            have := txt_lt hT (p := p') (by omega)
            cases q2
            exact ⟨by omega, by omega, by omega, r4⟩
          · cases q2
      · simp only [if_neg h40]
        obtain ⟨o1, o2⟩ := g1 (p + 1) (by omega)
        constructor
        · intro f hf
          rcases bdX_l hf with q | ⟨p', b, q1, q2⟩
          · exact o1 f q
          · cases q2
        · intro p'' b' hb
          obtain ⟨p', b, q1, q2⟩ := bdX_r hb
          obtain ⟨r1, r2, r3, r4⟩ := o2 p' b q1
          cases q2
          exact ⟨by omega, by omega, by simp only [bNot, List.length_append, List.length_cons, List.length_nil]; omega, hG _ r4⟩
  · simp only [if_neg hi]
    exact hc p hp
theorem PIE_PG0 (hT : ∀ p, N ≤ p → T p = 0) (hN : N ≤ 160) : ∀ d, PG N (fun _ => True) (PIE T d) := by
  intro d
  induction d with
  | zero => exact pie_PG hT hN (fun _ _ => trivial) (cmp_PG0 hT hN 0) (fun e h => by cases h)
  | succ d ih => exact pie_PG hT hN (fun _ _ => trivial) (cmp_PG0 hT hN (d + 1)) (fun e h => by cases h; exact ⟨ih, (cnd_PG0 hT hN ih).2.1⟩)
theorem sim_cnd (hT : ∀ p, N ≤ p → T p = 0) (hN : N ≤ 160) (hP : ∀ s, HP T B Fl s → P s) {q : Nat → PX} (hf : PG N (fun _ => True) q) {o : Nat} (hop : ∀ p σ C, σ ≠ [] → p33 (hd0 σ) = false → p ≤ N → rstX (q p) Fl (fun p' b => HB T B P O Fl (p', σ, o, C ++ b.2.1)) → HP T B Fl (p, σ, o, C)) :
    ∀ p σ C, σ ≠ [] → p33 (hd0 σ) = false → pAO (hd0 σ) = false → p ≤ N → rstX (cndB T q p) Fl (fun p' b => HB T B P O Fl (p', σ, o, C ++ b.2.1)) → HP T B Fl (p, σ, o, C) := by
  obtain ⟨g1, g2, g3, g4⟩ := cnd_PG0 hT hN hf
  have part := sim_chn (H0 := HP T B Fl) (H1 := HB T B P O Fl) (Fl := Fl) (o := o) (P := fun σ => σ ≠ [] ∧ p33 (hd0 σ) = false) (Pk := fun σ => (σ ≠ [] ∧ p33 (hd0 σ) = false) ∧ okS 1 (hd0 σ) = false) (Pend := fun _ => True) hT hN (ok := okS 1) okS0 bJmp_c (op := q) (fun p p' b hp hb => by obtain ⟨a1, a2, -⟩ := (hf p hp).2 p' b hb; exact ⟨a1, a2, trivial⟩) (fun p σ C hk hp h => hop p σ C hk.1 hk.2 hp h) (fun p σ C hk hc h => by rw [HB_s1 hk.2 hc]; exact hP _ h) (fun p c σ C hc _ h => by rw [HB_an hc]; exact h) (fun c σ hc _ => ⟨(fun e => by cases e), by show p33 c = false; rw [okS_1 hc]; rfl⟩) (fun _ h => h.1)
  intro p σ C h1 h2 h3
  exact sim_chn (H0 := HP T B Fl) (H1 := HB T B P O Fl) (Fl := Fl) (o := o) (P := fun σ => (σ ≠ [] ∧ p33 (hd0 σ) = false) ∧ okS 1 (hd0 σ) = false) (Pk := fun σ => (σ ≠ [] ∧ p33 (hd0 σ) = false) ∧ pAO (hd0 σ) = false) (Pend := fun c => okS 1 c = false) hT hN (ok := okS 0) okS0 bJmp_c (op := chn T (okS 1) bJmp q) (fun p p' b hp hb => by obtain ⟨a1, a2, -⟩ := (g1 p hp).2 p' b hb; exact ⟨a1, a2, g3 p p' b hp hb⟩) part (fun p σ C hk hc h => by rw [HB_s0 hk.2 hc]; exact hP _ h) (fun p c σ C hc he h => by rw [HB_or hc he]; exact h) (fun c σ hc _ => ⟨⟨(fun e => by cases e), by show p33 c = false; rw [okS_0 hc]; rfl⟩, by show okS 1 c = false; rw [okS_0 hc]; rfl⟩) (fun σ h => ⟨h.1, (Bool.or_eq_false_iff.mp h.2).1⟩) p σ C ⟨⟨h1, h2⟩, h3⟩
theorem sim_pie (hT : ∀ p, N ≤ p → T p = 0) (hN : N ≤ 160) (hP : ∀ s, HP T B Fl s → P s) (hB : ∀ s, HB T B P O Fl s → B s) : ∀ (d o : Nat), o + d = 6 → ∀ p σ C, σ ≠ [] → p ≤ N → rstX (PIE T d p) Fl (fun p' b => HB T B P O Fl (endF (p', σ, o, C ++ b.2.1))) → HP T B Fl (p, σ, o, C) := by
  have base : ∀ (d o p : Nat) (σ : List Int) (C : List (Int × Int)), o + d = 6 → ¬ (T p = 33 ∨ T p = 40) → rstX (cmpB T (FAC T d) p) Fl (fun p' b => HB T B P O Fl (endF (p', σ, o, C ++ b.2.1))) → HP T B Fl (p, σ, o, C) := by
    intro d o p σ C ho hi h
    rw [HP_b hi]
    unfold pcB
    show rsF (match cmpB T (FAC T (6 - o)) p with
      | .inl f => .inl f
      | .inr q => if T q.1 = 93 ∨ isSg (T q.1) = true then .inl (-1000 - (q.1 : Int)) else .inr (endF (q.1, σ, o, C ++ q.2.2.1))) Fl B
    rw [show 6 - o = d by omega]
    cases hx : cmpB T (FAC T d) p with
    | inl f => rw [hx] at h; exact h
    | inr q =>
      obtain ⟨p', b⟩ := q
      rw [hx] at h
      have h : HB T B P O Fl (endF (p', σ, o, C ++ b.2.1)) := h
      show rsF (if T p' = 93 ∨ isSg (T p') = true then .inl (-1000 - (p' : Int)) else .inr (endF (p', σ, o, C ++ b.2.1))) Fl B
      by_cases hb : T p' = 93 ∨ isSg (T p') = true
      · rw [if_pos hb]
        have hc : T p' = 93 ∨ T p' = 60 ∨ T p' = 62 ∨ T p' = 61 := by rcases hb with e | e; exact Or.inl e; exact Or.inr (isSg_c e)
        rw [HB_bad (s := endF (p', σ, o, C ++ b.2.1)) (by show okS 1 (T p') = false; rcases hc with e | e | e | e <;> rw [e] <;> rfl) (by show okS 0 (T p') = false; rcases hc with e | e | e | e <;> rw [e] <;> rfl) (by show T p' ≠ 41; omega)] at h
        exact h
      · rw [if_neg hb]
        exact hB _ h
  intro d
  induction d with
  | zero =>
    intro o ho p σ C hσ hp h
    by_cases hi : T p = 33 ∨ T p = 40
    · have ho : o = 6 := by omega
      subst ho
      refine HP_6 hi ?_
      unfold PIE pieB at h
      simp only at h
      rw [if_pos hi] at h
      exact h
    · unfold PIE pieB at h
      simp only at h
      rw [if_neg hi] at h
      exact base 0 o p σ C ho hi h
  | succ d ih =>
    intro o ho p σ C hσ hp h
    by_cases hi : T p = 33 ∨ T p = 40
    · rw [HP_in hi (by omega)]
      have hlt : p < N := txt_lt hT (by omega)
      unfold PIE pieB at h
      simp only at h
      rw [if_pos hi] at h
      by_cases h40 : T p = 40
      · rw [if_pos h40, rstX_bd] at h
        rw [h40]
        refine sim_cnd (O := O) hT hN hP (PIE_PG0 hT hN d) (o := o + 1) (fun p σ C h1 h2 h3 h4 => ih (o + 1) (by omega) p σ C h1 h3 ?_) (p + 1) (40 :: σ) C (fun e => by cases e) rfl rfl (by omega) ?_
        · cases hx : PIE T d p with
          | inl f => rw [hx] at h4; exact h4
          | inr q =>
            rw [hx] at h4
            show HB T B P O Fl (endF _)
            rw [endF_id h2]
            exact h4
        · cases hx : cndB T (PIE T d) (p + 1) with
          | inl f => rw [hx] at h; exact h
          | inr q =>
            obtain ⟨p1, b⟩ := q
            rw [hx] at h
            obtain ⟨e0, e1⟩ := (cnd_PG0 hT hN (PIE_PG0 hT hN d)).2.2.2 (p + 1) p1 b (by omega) hx
            have h : rstX (if T p1 = 41 then .inr (p1 + 1, b) else .inl (-1000 - (p1 : Int))) Fl (fun p' b => HB T B P O Fl (endF (p', σ, o, C ++ b.2.1))) := h
            show HB T B P O Fl (p1, 40 :: σ, o + 1, C ++ b.2.1)
            rw [HB_end e1 e0]
            by_cases h41 : T p1 = 41
            · rw [if_pos h41] at h ⊢
              rw [if_neg hσ]
              exact hB _ h
            · rw [if_neg h41] at h ⊢
              exact h
      · rw [if_neg h40, rstX_bd] at h
        have h33 : T p = 33 := by omega
        rw [h33]
        refine ih (o + 1) (by omega) (p + 1) (33 :: σ) C (fun e => by cases e) (by omega) ?_
        cases hx : PIE T d (p + 1) with
        | inl f => rw [hx] at h; exact h
        | inr q =>
          obtain ⟨p', b⟩ := q
          rw [hx] at h
          have h : HB T B P O Fl (endF (p', σ, o, C ++ (b.2.1 ++ [(2, 0)]))) := h
          show HB T B P O Fl (endF (p', 33 :: σ, o + 1, C ++ b.2.1))
          rw [endF_33, List.append_assoc]
          exact h
    · unfold PIE pieB at h
      simp only at h
      rw [if_neg hi] at h
      exact base (d + 1) o p σ C ho hi h
/-- the C of a CLAUSE: its ( stands on the stack -/
theorem sim_top (hT : ∀ p, N ≤ p → T p = 0) (hN : N ≤ 160) (hP : ∀ s, HP T B Fl s → P s) (hB : ∀ s, HB T B P O Fl s → B s) (p : Nat) (C : List (Int × Int)) (hp : p ≤ N) (h : rstX (cndB T (PIE T 5) p) Fl (fun p' b => if T p' = 41 then O (p' + 1, [], 0, C ++ b.2.1) else Fl (-1000 - (p' : Int)))) : HP T B Fl (p, [40], 1, C) := by
  refine sim_cnd (O := O) hT hN hP (PIE_PG0 hT hN 5) (o := 1) (fun p σ C h1 h2 h3 h4 => sim_pie hT hN hP hB 5 1 rfl p σ C h1 h3 ?_) p [40] C (fun e => by cases e) rfl rfl hp ?_
  · cases hx : PIE T 5 p with
    | inl f => rw [hx] at h4; exact h4
    | inr q =>
      rw [hx] at h4
      show HB T B P O Fl (endF _)
      rw [endF_id h2]
      exact h4
  · cases hx : cndB T (PIE T 5) p with
    | inl f => rw [hx] at h; exact h
    | inr q =>
      obtain ⟨p1, b⟩ := q
      rw [hx] at h
      obtain ⟨e0, e1⟩ := (cnd_PG0 hT hN (PIE_PG0 hT hN 5)).2.2.2 p p1 b hp hx
      have h : if T p1 = 41 then O (p1 + 1, [], 0, C ++ b.2.1) else Fl (-1000 - (p1 : Int)) := h
      show HB T B P O Fl (p1, 40 :: [], 1, C ++ b.2.1)
      rw [HB_end e1 e0]
      split
      · rename_i h41
        rw [if_pos h41] at h
        rw [if_pos rfl]
        exact h
      · rename_i h41
        rw [if_neg h41] at h
        exact h
end SIMC
