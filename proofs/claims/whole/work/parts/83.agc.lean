def mn (a b : Nat) : Nat := if b < a then b else a
theorem AGR_app {N : Int} {W1 W2 : List PR} {m1 n1 b1 a1 m2 n2 b2 a2 : Int} {l1 c1 l2 c2 : Nat} (hN2 : ∀ x ∈ W2, N < x.1) (h1 : AG4 N W1 m1 n1 b1 a1) (h2 : AG4 N W2 m2 n2 b2 a2) (r1 : AGR W1 m1 l1 c1) (r2 : AGR W2 m2 l2 c2) (hne : W2 ≠ []) :
    AGR (W1 ++ W2) (if m1 < m2 then m2 else m1) (if m1 < m2 then l2 else if m2 = m1 then mn l1 l2 else l1) (if m1 < m2 then c2 else if m2 = m1 then shN c1 c2 else c1) := by
  intro _
  obtain ⟨p1, p2, p3, p4⟩ := h1
  obtain ⟨q1, q2, -, q4⟩ := h2
  obtain ⟨q5, ⟨y, hy, hy2⟩, q6, q7⟩ := q4 hne
  have hm2N : N < m2 := by rw [← hy2]; exact hN2 y hy
  obtain ⟨⟨e2, he2, he2a, he2b⟩, f2, g2, k2⟩ := r2 hne
  by_cases hlt : m1 < m2
  · simp only [if_pos hlt]
    have no : ∀ x ∈ W1, x.1 ≠ m2 := by
      by_cases hw : W1 = []
      · subst hw; intro x hx; cases hx
      · intro x hx; have := (p4 hw).1 x hx; omega
    refine ⟨⟨e2, List.mem_append.mpr (Or.inr he2), he2a, he2b⟩, fun x hx hx2 => ?_, g2, fun i hi => ⟨fun h7 x hx hx2 => ?_, fun h7 => ?_⟩⟩
    · rcases List.mem_append.mp hx with h | h
      · exact absurd hx2 (no x h)
      · exact f2 x h hx2
    · rcases List.mem_append.mp hx with h | h
      · exact absurd hx2 (no x h)
      · exact (k2 i hi).1 h7 x h hx2
    · obtain ⟨x, hx, x', hx', e, e', e''⟩ := (k2 i hi).2 h7
      exact ⟨x, List.mem_append.mpr (Or.inr hx), x', List.mem_append.mpr (Or.inr hx'), e, e', e''⟩
  · simp only [if_neg hlt]
    have hw : W1 ≠ [] := fun e => by have := (p3 e).1; omega
    obtain ⟨⟨e1, he1, he1a, he1b⟩, f1, g1, k1⟩ := r1 hw
    by_cases heq : m2 = m1
    · simp only [if_pos heq]
      subst heq
      obtain ⟨s1, s2⟩ := shN_fld g1 g2
      refine ⟨?_, fun x hx hx2 => ?_, s1, fun i hi => ?_⟩
      · unfold mn
        by_cases hl : l2 < l1
        · rw [if_pos hl]; exact ⟨e2, List.mem_append.mpr (Or.inr he2), he2a, he2b⟩
        · rw [if_neg hl]; exact ⟨e1, List.mem_append.mpr (Or.inl he1), he1a, he1b⟩
      · have hmn : mn l1 l2 ≤ l1 ∧ mn l1 l2 ≤ l2 := by unfold mn; split <;> omega
        rcases List.mem_append.mp hx with h | h
        · have := f1 x h hx2; omega
        · have := f2 x h hx2; omega
      · rw [s2 i hi]
        by_cases e : fld c1 i = fld c2 i
        · rw [if_pos e]
          refine ⟨fun h7 x hx hx2 => ?_, fun h7 => ?_⟩
          · rcases List.mem_append.mp hx with h | h
            · exact (k1 i hi).1 h7 x h hx2
            · rw [e] at h7 ⊢; exact (k2 i hi).1 h7 x h hx2
          · obtain ⟨x, hx, x', hx', d, d', d''⟩ := (k1 i hi).2 h7
            exact ⟨x, List.mem_append.mpr (Or.inl hx), x', List.mem_append.mpr (Or.inl hx'), d, d', d''⟩
        · rw [if_neg e]
          refine ⟨fun h7 => absurd rfl h7, fun _ => ?_⟩
          by_cases h7 : fld c1 i = 7
          · obtain ⟨x, hx, x', hx', d, d', d''⟩ := (k1 i hi).2 h7
            exact ⟨x, List.mem_append.mpr (Or.inl hx), x', List.mem_append.mpr (Or.inl hx'), d, d', d''⟩
          · by_cases h8 : fld c2 i = 7
            · obtain ⟨x, hx, x', hx', d, d', d''⟩ := (k2 i hi).2 h8
              exact ⟨x, List.mem_append.mpr (Or.inr hx), x', List.mem_append.mpr (Or.inr hx'), d, d', d''⟩
            · refine ⟨e1, List.mem_append.mpr (Or.inl he1), e2, List.mem_append.mpr (Or.inr he2), he1a, he2a, ?_⟩
              rw [(k1 i hi).1 h7 e1 he1 he1a, (k2 i hi).1 h8 e2 he2 he2a]
              exact e
    · simp only [if_neg heq]
      have no : ∀ x ∈ W2, x.1 ≠ m1 := fun x hx => by have := q5 x hx; omega
      refine ⟨⟨e1, List.mem_append.mpr (Or.inl he1), he1a, he1b⟩, fun x hx hx2 => ?_, g1, fun i hi => ⟨fun h7 x hx hx2 => ?_, fun h7 => ?_⟩⟩
      · rcases List.mem_append.mp hx with h | h
        · exact f1 x h hx2
        · exact absurd hx2 (no x h)
      · rcases List.mem_append.mp hx with h | h
        · exact (k1 i hi).1 h7 x h hx2
        · exact absurd hx2 (no x h)
      · obtain ⟨x, hx, x', hx', e, e', e''⟩ := (k1 i hi).2 h7
        exact ⟨x, List.mem_append.mpr (Or.inl hx), x', List.mem_append.mpr (Or.inl hx'), e, e', e''⟩
theorem AGR_shift {W : List PR} {m : Int} {le co : Nat} {ks : List Nat} {S p k : Nat} (w : Int) (hk : k ≤ 6) (hS : S < 1024) (hp : p &&& S = p) (hrow : ∀ x ∈ W, RowF ks (S ^^^ p) x.2) (h : AGR W m le co) (hne : W ≠ []) :
    AGR (W.map (fun q => (q.1 + w, q.2 ||| k * sprd p))) (m + w) (le ||| k * sprd p) (co ||| k * sprd p) := by
  intro _
  obtain ⟨⟨e, he, hea, heb⟩, f, gg, kk⟩ := h hne
  have hp10 : p < 1024 := Nat.lt_of_le_of_lt (sub_le hp) hS
  have hsp := fld_sp p hp10 k (by omega)
  have hle : ∀ x ∈ W, x.2 ||| k * sprd p = x.2 + k * sprd p := fun x hx => add_or _ _ (disj_row hk hS hp (hrow x hx))
  refine ⟨⟨_, List.mem_map.mpr ⟨e, he, rfl⟩, by simp only; omega, by simp only; rw [heb]⟩, fun x hx hx2 => ?_, Nat.or_lt_two_pow gg hsp.2, fun i hi => ?_⟩
  · obtain ⟨q, hq, rfl⟩ := List.mem_map.mp hx
    simp only at hx2 ⊢
    rw [← heb, hle e he, hle q hq]
    have := f q hq (by omega)
    omega
  · rw [fld_or, hsp.1 i hi]
    by_cases hb : p.testBit i = true
    · have hz : ∀ x ∈ W, fld x.2 i = 0 := fun x hx => ((hrow x hx).2 i hi).2 (by rw [xor_sub hp, hb]; simp)
      have h0 : fld co i = 0 := by
        by_cases h7 : fld co i = 7
        · obtain ⟨x, hx, x', hx', -, -, d⟩ := (kk i hi).2 h7
          exact absurd (by rw [hz x hx, hz x' hx']) d
        · rw [← (kk i hi).1 h7 e he hea, hz e he]
      rw [if_pos hb, h0, Nat.zero_or]
      refine ⟨fun _ x hx hx2 => ?_, fun h7 => by omega⟩
      obtain ⟨q, hq, rfl⟩ := List.mem_map.mp hx
      simp only
      rw [add_fld hk hS hp (hrow q hq) hi, if_pos hb]
    · rw [if_neg hb, Nat.or_zero]
      refine ⟨fun h7 x hx hx2 => ?_, fun h7 => ?_⟩
      · obtain ⟨q, hq, rfl⟩ := List.mem_map.mp hx
        simp only at hx2 ⊢
        rw [add_fld hk hS hp (hrow q hq) hi, if_neg hb]
        exact (kk i hi).1 h7 q hq (by omega)
      · obtain ⟨x, hx, x', hx', d1, d2, d3⟩ := (kk i hi).2 h7
        refine ⟨_, List.mem_map.mpr ⟨x, hx, rfl⟩, _, List.mem_map.mpr ⟨x', hx', rfl⟩, by simp only; omega, by simp only; omega, ?_⟩
        simp only
        rw [add_fld hk hS hp (hrow x hx) hi, if_neg hb, add_fld hk hS hp (hrow x' hx') hi, if_neg hb]
        exact d3
/-- the class's summary of WAYS -/
def AGC (W : List PR) (mo nx be al : Int) (le co : Nat) : Prop := AG4 (-1000000) W mo nx be al ∧ AGR W mo le co ∧ le < 2 ^ 30 ∧ co < 2 ^ 30
theorem AGC_nil : AGC [] (-1000000) (-1000000) 0 0 0 0 := ⟨AG4_nil, fun h => absurd rfl h, by decide, by decide⟩
theorem AGC_app {W1 W2 : List PR} {m1 n1 b1 a1 m2 n2 b2 a2 : Int} {l1 c1 l2 c2 : Nat} (hN1 : ∀ x ∈ W1, -1000000 < x.1) (hN2 : ∀ x ∈ W2, -1000000 < x.1) (h1 : AGC W1 m1 n1 b1 a1 l1 c1) (h2 : AGC W2 m2 n2 b2 a2 l2 c2) (hne : W2 ≠ []) :
    AGC (W1 ++ W2) (if m1 < m2 then m2 else m1) (if m1 < m2 then mx m1 n2 else if m2 = m1 then mx n1 n2 else mx n1 m2) (if m1 < m2 then b2 else if m2 = m1 then b1 + b2 else b1) (a1 + a2) (if m1 < m2 then l2 else if m2 = m1 then mn l1 l2 else l1) (if m1 < m2 then c2 else if m2 = m1 then shN c1 c2 else c1) := by
  obtain ⟨h1, r1, u1, v1⟩ := h1
  obtain ⟨h2, r2, u2, v2⟩ := h2
  refine ⟨AG4_app hN1 hN2 h1 h2 hne, AGR_app hN2 h1 h2 r1 r2 hne, ?_, ?_⟩
  · split
    · exact u2
    · split
      · unfold mn; split
        · exact u2
        · exact u1
      · exact u1
  · split
    · exact v2
    · split
      · exact (shN_fld v1 v2).1
      · exact v1
theorem AGC_shift {W : List PR} {m n b a : Int} {le co : Nat} {ks : List Nat} {S p k : Nat} (w : Int) (hk : k ≤ 6) (hS : S < 1024) (hp : p &&& S = p) (hrow : ∀ x ∈ W, RowF ks (S ^^^ p) x.2) (hN : ∀ x ∈ W, -1000000 < x.1) (h : AGC W m n b a le co) (hne : W ≠ []) :
    AGC (W.map (fun q => (q.1 + w, q.2 ||| k * sprd p))) (m + w) (if n = -1000000 then -1000000 else n + w) b a (le ||| k * sprd p) (co ||| k * sprd p) := by
  obtain ⟨h1, r1, u1, v1⟩ := h
  have hsp := fld_sp p (Nat.lt_of_le_of_lt (sub_le hp) hS) k (by omega)
  exact ⟨AG4_shift w (fun r => r ||| k * sprd p) hN h1 hne, AGR_shift w hk hS hp hrow r1 hne, Nat.or_lt_two_pow u1 hsp.2, Nat.or_lt_two_pow v1 hsp.2⟩
/-- what the WAYS rest on -/
def XOK (G : Nat → Nat → Option Int) (T : Nat → Nat) (ks : List Nat) : Prop := (∀ k ∈ ks, k ≤ 6) ∧ ks.Nodup ∧ ∀ k ∈ ks, ∀ p w, G k p = some w → p &&& T k = p ∧ -10000 ≤ w ∧ w ≤ 1000
theorem XOK.tail {G : Nat → Nat → Option Int} {T : Nat → Nat} {k : Nat} {ks : List Nat} (h : XOK G T (k :: ks)) : XOK G T ks := ⟨fun k' a => h.1 k' (List.mem_cons_of_mem _ a), (List.nodup_cons.mp h.2.1).2, fun k' a => h.2.2 k' (List.mem_cons_of_mem _ a)⟩
theorem XOK.len {G : Nat → Nat → Option Int} {T : Nat → Nat} {ks : List Nat} (h : XOK G T ks) : ks.length ≤ 7 := by
  have := List.Nodup.length_le_of_subset h.2.1 (l₂ := List.range 7) (fun a ha => by rw [List.mem_range]; have := h.1 a ha; omega)
  rw [List.length_range] at this
  exact this
theorem XOK.mem {G : Nat → Nat → Option Int} {T : Nat → Nat} {ks : List Nat} (h : XOK G T ks) {S : Nat} (hS : S < 1024) (x : PR) : x ∈ XW G T ks S ↔ (RowF ks S x.2 ∧ (∀ k ∈ ks, (G k (selN x.2 k S)).isSome = true) ∧ x.1 = PW G ks S x.2) := XW_mem ks h.1 h.2.1 (fun k a p w b => (h.2.2 k a p w b).1) S hS x
theorem XOK.num {G : Nat → Nat → Option Int} {T : Nat → Nat} {ks : List Nat} (h : XOK G T ks) {S : Nat} (hS : S < 1024) : (XW G T ks S).length ≤ 2 ^ 30 := XW_len ks h.1 h.2.1 (fun k a p w b => (h.2.2 k a p w b).1) S hS
theorem XOK.nodup {G : Nat → Nat → Option Int} {T : Nat → Nat} {ks : List Nat} (h : XOK G T ks) {S : Nat} (hS : S < 1024) : (XW G T ks S).Nodup := XW_nodup ks h.1 h.2.1 (fun k a p w b => (h.2.2 k a p w b).1) S hS
theorem XW_bd0 {G : Nat → Nat → Option Int} {T : Nat → Nat} : ∀ (ks : List Nat), (∀ k ∈ ks, ∀ p w, G k p = some w → p &&& T k = p ∧ -10000 ≤ w ∧ w ≤ 1000) → ∀ (S : Nat) (x : PR), x ∈ XW G T ks S → -10000 * (ks.length : Int) ≤ x.1 ∧ x.1 ≤ 1000 * (ks.length : Int) := by
  intro ks
  induction ks with
  | nil =>
    intro _ S x hx
    unfold XW at hx
    split at hx
    · rw [List.mem_singleton.mp hx]; simp
    · cases hx
  | cons k ks ih =>
    intro h S x hx
    unfold XW at hx
    obtain ⟨p, w, q, hp, hG, hq, rfl⟩ := stepW_mem.mp hx
    have h1 := ih (fun k' a => h k' (List.mem_cons_of_mem _ a)) _ q hq
    have h2 := h k List.mem_cons_self p w hG
    simp only [List.length_cons]
    omega
theorem XOK.bd {G : Nat → Nat → Option Int} {T : Nat → Nat} {ks : List Nat} (h : XOK G T ks) {S : Nat} {x : PR} (hx : x ∈ XW G T ks S) : -70000 ≤ x.1 ∧ x.1 ≤ 7000 := by
  have := XW_bd0 ks h.2.2 S x hx
  have := h.len
  omega
theorem AGC.bd {W : List PR} {mo nx be al : Int} {le co : Nat} (h : AGC W mo nx be al le co) (hb : ∀ x ∈ W, -70000 ≤ x.1 ∧ x.1 ≤ 7000) : (-1000000 ≤ mo ∧ mo ≤ 7000) ∧ (-1000000 ≤ nx ∧ nx ≤ 7000) ∧ (0 ≤ be ∧ be ≤ al) ∧ (al = (W.length : Int)) := by
  obtain ⟨⟨h1, h2, h3, h4⟩, -⟩ := h
  have hbl : be ≤ al := by
    rw [h1, h2]
    have := List.length_filter_le (fun x : PR => decide (x.1 = mo)) W
    omega
  by_cases hw : W = []
  · obtain ⟨e1, e2⟩ := h3 hw
    exact ⟨by omega, by omega, ⟨by omega, hbl⟩, h1⟩
  · obtain ⟨q1, ⟨x, hx, hx2⟩, q3, q4⟩ := h4 hw
    have := hb x hx
    refine ⟨by omega, ?_, ⟨by omega, hbl⟩, h1⟩
    rcases q4 with e | ⟨y, hy, hy2, -⟩
    · omega
    · have := hb y hy; omega
