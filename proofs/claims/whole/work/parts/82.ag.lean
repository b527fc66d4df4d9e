/-- what is known of WAYS: most POINTS, next, how many have most, how many there are -/
def AG4 (N : Int) (W : List PR) (mo nx be al : Int) : Prop :=
  al = (W.length : Int) ∧ be = ((W.filter (fun x => decide (x.1 = mo))).length : Int) ∧ (W = [] → mo = N ∧ nx = N) ∧ (W ≠ [] → (∀ x ∈ W, x.1 ≤ mo) ∧ (∃ x ∈ W, x.1 = mo) ∧ (∀ x ∈ W, x.1 < mo → x.1 ≤ nx) ∧ (nx = N ∨ ∃ x ∈ W, x.1 = nx ∧ nx < mo))
def mx (a b : Int) : Int := if a < b then b else a
theorem mx_l (a b : Int) : a ≤ mx a b := by unfold mx; split <;> omega
theorem mx_r (a b : Int) : b ≤ mx a b := by unfold mx; split <;> omega
theorem mx_or (a b : Int) : mx a b = a ∨ mx a b = b := by unfold mx; split; exact Or.inr rfl; exact Or.inl rfl
theorem AG4_nil {N : Int} : AG4 N [] N N 0 0 := ⟨rfl, rfl, fun _ => ⟨rfl, rfl⟩, fun h => absurd rfl h⟩
theorem flt_lt {W : List PR} {m M : Int} (h : ∀ x ∈ W, x.1 ≤ m) (hm : m < M) : (W.filter (fun x => decide (x.1 = M))).length = 0 := by
  rw [List.length_eq_zero_iff, List.filter_eq_nil_iff]
  intro x hx
  have := h x hx
  rw [decide_eq_true_eq]
  omega
theorem AG4_app {N : Int} {W1 W2 : List PR} {m1 n1 b1 a1 m2 n2 b2 a2 : Int} (hN1 : ∀ x ∈ W1, N < x.1) (hN2 : ∀ x ∈ W2, N < x.1) (h1 : AG4 N W1 m1 n1 b1 a1) (h2 : AG4 N W2 m2 n2 b2 a2) (hne : W2 ≠ []) :
    AG4 N (W1 ++ W2) (if m1 < m2 then m2 else m1) (if m1 < m2 then mx m1 n2 else if m2 = m1 then mx n1 n2 else mx n1 m2) (if m1 < m2 then b2 else if m2 = m1 then b1 + b2 else b1) (a1 + a2) := by
  obtain ⟨p1, p2, p3, p4⟩ := h1
  obtain ⟨q1, q2, -, q4⟩ := h2
  obtain ⟨q5, ⟨y, hy, hy2⟩, q6, q7⟩ := q4 hne
  have hm2N : N < m2 := by rw [← hy2]; exact hN2 y hy
  have hyy : y ∈ W1 ++ W2 := List.mem_append.mpr (Or.inr hy)
  have hle1 : ∀ x ∈ W1, x.1 ≤ m1 := by
    by_cases hw : W1 = []
    · subst hw; intro x hx; cases hx
    · exact (p4 hw).1
  have hnx1 : ∀ x ∈ W1, x.1 < m1 → x.1 ≤ n1 := by
    by_cases hw : W1 = []
    · subst hw; intro x hx; cases hx
    · exact (p4 hw).2.2.1
  have hm1 : m1 = N ∨ ∃ x ∈ W1, x.1 = m1 := by
    by_cases hw : W1 = []
    · exact Or.inl (p3 hw).1
    · exact Or.inr (p4 hw).2.1
  have hn1 : n1 = N ∨ ∃ x ∈ W1, x.1 = n1 ∧ n1 < m1 := by
    by_cases hw : W1 = []
    · exact Or.inl (p3 hw).2
    · exact (p4 hw).2.2.2
  have hgN : N ≤ m1 := by rcases hm1 with h | ⟨x, hx, h⟩; omega; have := hN1 x hx; omega
  have hn1N : N ≤ n1 := by rcases hn1 with h | ⟨x, hx, h, -⟩; omega; have := hN1 x hx; omega
  have hn2N : N ≤ n2 := by rcases q7 with h | ⟨x, hx, h, -⟩; omega; have := hN2 x hx; omega
  have hcnt : ∀ M : Int, (((W1 ++ W2).filter (fun x => decide (x.1 = M))).length : Int) = ((W1.filter (fun x => decide (x.1 = M))).length : Int) + ((W2.filter (fun x => decide (x.1 = M))).length : Int) := fun M => by rw [List.filter_append, List.length_append]; omega
  have hnn : W1 ++ W2 ≠ [] := fun e => hne (List.append_eq_nil_iff.mp e).2
  refine ⟨by rw [List.length_append]; omega, ?_, fun e => absurd e hnn, fun _ => ?_⟩
  · rw [hcnt]
    by_cases c1 : m1 < m2
    · rw [if_pos c1, if_pos c1, flt_lt hle1 c1]; omega
    · rw [if_neg c1, if_neg c1]
      by_cases c2 : m2 = m1
      · rw [if_pos c2]; subst c2; omega
      · rw [if_neg c2, flt_lt q5 (show m2 < m1 by omega)]; omega
  · by_cases c1 : m1 < m2
    · rw [if_pos c1, if_pos c1]
      refine ⟨fun x hx => ?_, ⟨y, hyy, hy2⟩, fun x hx hlt => ?_, ?_⟩
      · rcases List.mem_append.mp hx with h | h
        · have := hle1 x h; omega
        · exact q5 x h
      · rcases List.mem_append.mp hx with h | h
        · have := hle1 x h; have := mx_l m1 n2; omega
        · have := q6 x h hlt; have := mx_r m1 n2; omega
      · rcases mx_or m1 n2 with e | e
        · rcases hm1 with h | ⟨x, hx, h⟩
          · left; omega
          · right; exact ⟨x, List.mem_append.mpr (Or.inl hx), by omega, by omega⟩
        · rcases q7 with h | ⟨x, hx, h, h'⟩
          · left; omega
          · right; exact ⟨x, List.mem_append.mpr (Or.inr hx), by omega, by omega⟩
    · rw [if_neg c1, if_neg c1]
      have hmm : ∃ x ∈ W1, x.1 = m1 := by
        rcases hm1 with h | h
        · omega
        · exact h
      obtain ⟨u, hu, hu2⟩ := hmm
      by_cases c2 : m2 = m1
      · rw [if_pos c2]
        refine ⟨fun x hx => ?_, ⟨y, hyy, by omega⟩, fun x hx hlt => ?_, ?_⟩
        · rcases List.mem_append.mp hx with h | h
          · exact hle1 x h
          · have := q5 x h; omega
        · rcases List.mem_append.mp hx with h | h
          · have := hnx1 x h hlt; have := mx_l n1 n2; omega
          · have := q6 x h (by omega); have := mx_r n1 n2; omega
        · rcases mx_or n1 n2 with e | e
          · rcases hn1 with h | ⟨x, hx, h, h'⟩
            · left; omega
            · right; exact ⟨x, List.mem_append.mpr (Or.inl hx), by omega, by omega⟩
          · rcases q7 with h | ⟨x, hx, h, h'⟩
            · left; omega
            · right; exact ⟨x, List.mem_append.mpr (Or.inr hx), by omega, by omega⟩
      · rw [if_neg c2]
        refine ⟨fun x hx => ?_, ⟨u, List.mem_append.mpr (Or.inl hu), hu2⟩, fun x hx hlt => ?_, ?_⟩
        · rcases List.mem_append.mp hx with h | h
          · exact hle1 x h
          · have := q5 x h; omega
        · rcases List.mem_append.mp hx with h | h
          · have := hnx1 x h hlt; have := mx_l n1 m2; omega
          · have := q5 x h; have := mx_r n1 m2; omega
        · rcases mx_or n1 m2 with e | e
          · rcases hn1 with h | ⟨x, hx, h, h'⟩
            · left; omega
            · right; exact ⟨x, List.mem_append.mpr (Or.inl hx), by omega, by omega⟩
          · right; exact ⟨y, hyy, by omega, by omega⟩
/-- all WAYS shifted by POINTS w, their rows by f -/
theorem AG4_shift {N : Int} {W : List PR} {m n b a : Int} (w : Int) (f : Nat → Nat) (hN : ∀ x ∈ W, N < x.1) (h : AG4 N W m n b a) (hne : W ≠ []) : AG4 N (W.map (fun q => (q.1 + w, f q.2))) (m + w) (if n = N then N else n + w) b a := by
  obtain ⟨p1, p2, p3, p4⟩ := h
  obtain ⟨q1, ⟨y, hy, hy2⟩, q3, q4⟩ := p4 hne
  have hnn : W.map (fun q => ((q.1 + w, f q.2) : PR)) ≠ [] := fun e => hne (List.map_eq_nil_iff.mp e)
  refine ⟨by rw [List.length_map]; exact p1, ?_, fun e => absurd e hnn, fun _ => ⟨fun x hx => ?_, ?_, fun x hx hlt => ?_, ?_⟩⟩
  · rw [p2, List.filter_map, List.length_map]
    have : (fun x : PR => decide (x.1 = m)) = ((fun x : PR => decide (x.1 = m + w)) ∘ fun q : PR => (q.1 + w, f q.2)) := by
      funext x
      simp only [Function.comp, decide_eq_decide]
      omega
    rw [this]
  · obtain ⟨q, hq, rfl⟩ := List.mem_map.mp hx
    have := q1 q hq; simp only; omega
  · exact ⟨_, List.mem_map.mpr ⟨y, hy, rfl⟩, by simp only; omega⟩
  · obtain ⟨q, hq, rfl⟩ := List.mem_map.mp hx
    simp only at hlt ⊢
    have := q3 q hq (by omega)
    by_cases e : n = N
    · rw [if_pos e]
      have := hN q hq
      omega
    · rw [if_neg e]; omega
  · by_cases e : n = N
    · rw [if_pos e]; exact Or.inl rfl
    · rw [if_neg e]
      rcases q4 with h | ⟨u, hu, h1, h2⟩
      · exact absurd h e
      · exact Or.inr ⟨_, List.mem_map.mpr ⟨u, hu, rfl⟩, by simp only; omega, by omega⟩
/-- two summaries of the same WAYS -/
theorem AG4_uniq {N N' : Int} {W W' : List PR} {m n b a m' n' b' a' : Int} (hp : W.Perm W') (hne : W ≠ []) (hN : ∀ x ∈ W, N < x.1) (hN' : ∀ x ∈ W, N' < x.1) (h : AG4 N W m n b a) (h' : AG4 N' W' m' n' b' a') : m = m' ∧ b = b' ∧ a = a' ∧ ((n = N ∧ n' = N') ∨ (n = n' ∧ N < n ∧ N' < n')) := by
  obtain ⟨p1, p2, p3, p4⟩ := h
  obtain ⟨r1, r2, r3, r4⟩ := h'
  have hne' : W' ≠ [] := fun e => hne (by rw [e] at hp; exact List.perm_nil.mp hp)
  obtain ⟨q1, ⟨y, hy, hy2⟩, q3, q4⟩ := p4 hne
  obtain ⟨s1, ⟨u, hu, hu2⟩, s3, s4⟩ := r4 hne'
  have hm : ∀ x, x ∈ W ↔ x ∈ W' := fun x => hp.mem_iff
  have e1 : m = m' := by
    have h1 := s1 y ((hm y).mp hy)
    have h2 := q1 u ((hm u).mpr hu)
    omega
  subst e1
  refine ⟨rfl, ?_, ?_, ?_⟩
  · rw [p2, r2, (hp.filter _).length_eq]
  · rw [p1, r1, hp.length_eq]
  · rcases q4 with e | ⟨x, hx, h1, h2⟩
    · rcases s4 with e' | ⟨x', hx', h1', h2'⟩
      · exact Or.inl ⟨e, e'⟩
      · have h3 := q3 x' ((hm x').mpr hx') (by omega)
        have h4 := hN x' ((hm x').mpr hx')
        omega
    · rcases s4 with e' | ⟨x', hx', h1', h2'⟩
      · have h3 := s3 x ((hm x).mp hx) (by omega)
        have h4 := hN' x hx
        omega
      · have h3 := q3 x' ((hm x').mpr hx') (by omega)
        have h4 := s3 x ((hm x).mp hx) (by omega)
        have h5 := hN x hx
        have h6 := hN' x' ((hm x').mpr hx')
        exact Or.inr ⟨by omega, by omega, by omega⟩
theorem add_or : ∀ (a b : Nat), a &&& b = 0 → a ||| b = a + b := by
  intro a
  induction a using Nat.strongRecOn with
  | ind a ih =>
    intro b h
    by_cases h0 : a = 0
    · subst h0; rw [Nat.zero_or, Nat.zero_add]
    · have hd : a / 2 &&& b / 2 = 0 := by rw [← Nat.and_div_two, h]
      have h1 := ih (a / 2) (by omega) (b / 2) hd
      rw [← Nat.or_div_two] at h1
      have hm : ¬ (a % 2 = 1 ∧ b % 2 = 1) := fun q => by have := Nat.and_mod_two_eq_one.mpr q; rw [h] at this; omega
      have ho := Nat.or_mod_two_eq_one (a := a) (b := b)
      have : (a ||| b) % 2 = a % 2 + b % 2 := by
        by_cases q : a % 2 = 1 ∨ b % 2 = 1
        · have := ho.mpr q; omega
        · have : ¬ (a ||| b) % 2 = 1 := fun e => q (ho.mp e)
          omega
      omega
theorem fld_zero {a i : Nat} (h : fld a i = 0) {t : Nat} (ht : t < 3) : a.testBit (3 * (9 - i) + t) = false := by rw [← fld_bit ht, h, Nat.zero_testBit]
theorem disj_row {ks : List Nat} {k S p r0 : Nat} (hk : k ≤ 6) (hS : S < 1024) (hp : p &&& S = p) (h : RowF ks (S ^^^ p) r0) : r0 &&& k * sprd p = 0 := by
  have hp10 : p < 1024 := Nat.lt_of_le_of_lt (sub_le hp) hS
  have hsp := fld_sp p hp10 k (by omega)
  apply Nat.eq_of_testBit_eq
  intro j
  rw [Nat.zero_testBit, Nat.testBit_and]
  by_cases hj : j < 30
  · have e : j = 3 * (9 - (9 - j / 3)) + j % 3 := by omega
    by_cases hb : p.testBit (9 - j / 3) = true
    · have h0 := (h.2 (9 - j / 3) (by omega)).2 (by rw [xor_sub hp, hb]; simp)
      have := fld_zero h0 (t := j % 3) (by omega)
      rw [← e] at this
      rw [this]; rfl
    · have h0 := hsp.1 (9 - j / 3) (by omega)
      rw [if_neg hb] at h0
      have := fld_zero h0 (t := j % 3) (by omega)
      rw [← e] at this
      rw [this, Bool.and_false]
  · rw [Nat.testBit_lt_two_pow (Nat.lt_of_lt_of_le h.1 (Nat.pow_le_pow_right (by decide) (by omega)))]; rfl
/-- the row of the least number, and what all rows of most POINTS share (7: nothing) -/
def AGR (W : List PR) (mo : Int) (le co : Nat) : Prop := W ≠ [] → (∃ x ∈ W, x.1 = mo ∧ x.2 = le) ∧ (∀ x ∈ W, x.1 = mo → le ≤ x.2) ∧ co < 2 ^ 30 ∧ ∀ i, i < 10 → (fld co i ≠ 7 → ∀ x ∈ W, x.1 = mo → fld x.2 i = fld co i) ∧ (fld co i = 7 → ∃ x ∈ W, ∃ y ∈ W, x.1 = mo ∧ y.1 = mo ∧ fld x.2 i ≠ fld y.2 i)
def shN (a b : Nat) : Nat := a ||| ((((a ^^^ b) ||| (a ^^^ b) / 2) ||| (a ^^^ b) / 4) &&& 153391689) * 7
theorem sp_bit : ∀ q, q < 1024 → ∀ j, j < 30 → (sprd q).testBit j = (decide (j % 3 = 0) && q.testBit (9 - j / 3)) := by decide +kernel
theorem sp_lt : ∀ q, q < 1024 → sprd q < 2 ^ 30 := by decide +kernel
theorem shN_fld {a b : Nat} (ha : a < 2 ^ 30) (hb : b < 2 ^ 30) : shN a b < 2 ^ 30 ∧ ∀ i, i < 10 → fld (shN a b) i = if fld a i = fld b i then fld a i else 7 := by
  have hd : a ^^^ b < 2 ^ 30 := Nat.xor_lt_two_pow ha hb
  generalize hde : a ^^^ b = d at hd
  have hq : ∃ q, q < 1024 ∧ (((d ||| d / 2) ||| d / 4) &&& 153391689) = sprd q ∧ ∀ i, i < 10 → (q.testBit i = true ↔ fld d i ≠ 0) := by
    refine ⟨setR (fun i => if fld d i = 0 then 0 else 1) 1 10, setR_lt 10, ?_, fun i hi => ?_⟩
    · apply Nat.eq_of_testBit_eq
      intro j
      rw [show (153391689 : Nat) = sprd 1023 from by decide +kernel, show (4 : Nat) = 2 ^ 2 from rfl, Nat.testBit_and, Nat.testBit_or, Nat.testBit_or, Nat.testBit_div_two, Nat.testBit_div_two_pow]
      by_cases hj : j < 30
      · rw [sp_bit _ (setR_lt 10) j hj, sp_bit 1023 (by decide) j hj, setR_bit]
        have h1023 : Nat.testBit 1023 (9 - j / 3) = true := by
          have : ∀ i, i < 10 → Nat.testBit 1023 i = true := by decide
          exact this _ (by omega)
        rw [h1023]
        by_cases h3 : j % 3 = 0
        · have e0 := fld_bit (a := d) (i := 9 - j / 3) (t := 0) (by omega)
          have e1 := fld_bit (a := d) (i := 9 - j / 3) (t := 1) (by omega)
          have e2 := fld_bit (a := d) (i := 9 - j / 3) (t := 2) (by omega)
          rw [show 3 * (9 - (9 - j / 3)) + 0 = j by omega] at e0
          rw [show 3 * (9 - (9 - j / 3)) + 1 = j + 1 by omega] at e1
          rw [show 3 * (9 - (9 - j / 3)) + 2 = j + 2 by omega] at e2
          rw [← e0, ← e1, ← e2, decide_eq_true h3, decide_eq_true (show 9 - j / 3 < 10 by omega)]
          have hall : ∀ f, f < 8 → (((f.testBit 0 || f.testBit 1) || f.testBit 2) && (true && true)) = (true && (true && decide ((if f = 0 then (0 : Int) else 1) = 1))) := by decide
          exact hall _ fld_lt
        · rw [decide_eq_false h3]; simp
      · rw [Nat.testBit_lt_two_pow (Nat.lt_of_lt_of_le (sp_lt _ (setR_lt 10)) (Nat.pow_le_pow_right (by decide) (by omega))), Nat.testBit_lt_two_pow (Nat.lt_of_lt_of_le (sp_lt 1023 (by decide)) (Nat.pow_le_pow_right (by decide) (by omega))), Bool.and_false]
    · rw [setR_bit, decide_eq_true hi, Bool.true_and, decide_eq_true_eq]
      by_cases h : fld d i = 0
      · simp [h]
      · simp [h]
  obtain ⟨q, hq10, hq1, hq2⟩ := hq
  unfold shN
  rw [hde, hq1, Nat.mul_comm]
  have hsp := fld_sp q hq10 7 (by omega)
  refine ⟨Nat.or_lt_two_pow ha hsp.2, fun i hi => ?_⟩
  rw [fld_or, hsp.1 i hi]
  have hx : fld d i = fld a i ^^^ fld b i := by rw [← hde, fld_xor]
  have hz : fld a i ^^^ fld b i = 0 ↔ fld a i = fld b i := (by decide : ∀ x, x < 8 → ∀ y, y < 8 → (x ^^^ y = 0 ↔ x = y)) _ fld_lt _ fld_lt
  by_cases e : fld a i = fld b i
  · rw [if_pos e, if_neg (fun h => (hq2 i hi).mp h (by rw [hx]; exact hz.mpr e)), Nat.or_zero]
  · rw [if_neg e, if_pos ((hq2 i hi).mpr (by rw [hx]; exact fun h => e (hz.mp h)))]
    have hall : ∀ f, f < 8 → f ||| 7 = 7 := by decide
    exact hall _ fld_lt
