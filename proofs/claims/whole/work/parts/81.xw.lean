abbrev PR : Type := Int × Nat
/-- joins a COUPLE's sets to the WAYS of the rest -/
def stepW (G : Nat → Option Int) (k T : Nat) (L : Nat → List PR) (S : Nat) : List PR := (subs (S &&& T)).flatMap (fun p => match G p with
  | none => []
  | some w => (L (S ^^^ p)).map (fun q => (q.1 + w, q.2 ||| k * sprd p)))
/-- all WAYS in which the set S is shared out among the colours ks: POINTS and row -/
def XW (G : Nat → Nat → Option Int) (T : Nat → Nat) : List Nat → Nat → List PR
  | [], S => if S = 0 then [(0, 0)] else []
  | k :: ks, S => stepW (G k) k (T k) (XW G T ks) S
def selN (row k S : Nat) : Nat := setR (fun i => if S.testBit i then (fld row i : Int) else -1) (k : Int) 10
theorem selN_bit {row k S i : Nat} : (selN row k S).testBit i = (decide (i < 10) && (S.testBit i && decide (fld row i = k))) := by
  unfold selN
  rw [setR_bit]
  congr 1
  cases hS : S.testBit i with
  | true => simp only [if_true, Bool.true_and, decide_eq_decide]; omega
  | false => simp
theorem selN_lt {row k S : Nat} : selN row k S < 1024 := setR_lt 10
theorem stepW_mem {G : Nat → Option Int} {k T : Nat} {L : Nat → List PR} {S : Nat} {x : PR} : x ∈ stepW G k T L S ↔ ∃ p w q, p &&& (S &&& T) = p ∧ G p = some w ∧ q ∈ L (S ^^^ p) ∧ x = (q.1 + w, q.2 ||| k * sprd p) := by
  unfold stepW
  rw [List.mem_flatMap]
  constructor
  · rintro ⟨p, hp, hx⟩
    cases hG : G p with
    | none => rw [hG] at hx; cases hx
    | some w =>
      rw [hG] at hx
      obtain ⟨q, hq, rfl⟩ := List.mem_map.mp hx
      exact ⟨p, w, q, subs_mem.mp hp, hG, hq, rfl⟩
  · rintro ⟨p, w, q, hp, hG, hq, rfl⟩
    refine ⟨p, subs_mem.mpr hp, ?_⟩
    rw [hG]
    exact List.mem_map.mpr ⟨q, hq, rfl⟩
/-- the fields of a row over S in the colours ks -/
def RowF (ks : List Nat) (S row : Nat) : Prop := row < 2 ^ 30 ∧ ∀ i, i < 10 → (S.testBit i = true → fld row i ∈ ks) ∧ (S.testBit i = false → fld row i = 0)
def PW (G : Nat → Nat → Option Int) (ks : List Nat) (S row : Nat) : Int := (ks.map (fun k => (G k (selN row k S)).getD 0)).sum
theorem lt10_bit {S i : Nat} (hS : S < 1024) (h : S.testBit i = true) : i < 10 := by
  by_cases hi : i < 10
  · exact hi
  · rw [Nat.testBit_lt_two_pow (Nat.lt_of_lt_of_le hS (Nat.pow_le_pow_right (n := 2) (by decide) (show 10 ≤ i by omega)))] at h
    cases h
theorem sub_and {p S T : Nat} (h : p &&& (S &&& T) = p) : p &&& S = p := by
  rw [sub_bit] at h ⊢
  intro i hi
  have := h i hi
  rw [Nat.testBit_and, Bool.and_eq_true] at this
  exact this.1
theorem xor_lt {p S : Nat} (hS : S < 1024) (hp : p &&& S = p) : S ^^^ p < 1024 := Nat.xor_lt_two_pow (n := 10) hS (Nat.lt_of_le_of_lt (sub_le hp) hS)
section ROWS
variable {ks : List Nat} {k S p r0 : Nat}
theorem add_fld (hk : k ≤ 6) (hS : S < 1024) (hp : p &&& S = p) (h : RowF ks (S ^^^ p) r0) {i : Nat} (hi : i < 10) : fld (r0 ||| k * sprd p) i = if p.testBit i then k else fld r0 i := by
  have hp10 : p < 1024 := Nat.lt_of_le_of_lt (sub_le hp) hS
  rw [fld_or, (fld_sp p hp10 k (by omega)).1 i hi]
  by_cases hb : p.testBit i = true
  · rw [if_pos hb, if_pos hb]
    have := (h.2 i hi).2 (by rw [xor_sub hp, hb]; simp)
    rw [this, Nat.zero_or]
  · rw [if_neg hb, if_neg hb, Nat.or_zero]
theorem add_lt (hk : k ≤ 6) (hS : S < 1024) (hp : p &&& S = p) (h : RowF ks (S ^^^ p) r0) : r0 ||| k * sprd p < 2 ^ 30 :=
  Nat.or_lt_two_pow h.1 (fld_sp p (Nat.lt_of_le_of_lt (sub_le hp) hS) k (by omega)).2
theorem add_rowF (hk : k ≤ 6) (hS : S < 1024) (hp : p &&& S = p) (h : RowF ks (S ^^^ p) r0) : RowF (k :: ks) S (r0 ||| k * sprd p) := by
  refine ⟨add_lt hk hS hp h, fun i hi => ?_⟩
  rw [add_fld hk hS hp h hi]
  by_cases hb : p.testBit i = true
  · rw [if_pos hb]
    refine ⟨fun _ => List.mem_cons_self, fun hs => ?_⟩
    rw [sub_bit.mp hp i hb] at hs; cases hs
  · rw [if_neg hb]
    have hx : (S ^^^ p).testBit i = S.testBit i := by rw [xor_sub hp, Bool.eq_false_iff.mpr hb]; simp
    have := h.2 i hi
    rw [hx] at this
    exact ⟨fun q => List.mem_cons_of_mem _ (this.1 q), this.2⟩
theorem add_sel (hk : k ≤ 6) (hn : k ∉ ks) (hS : S < 1024) (hp : p &&& S = p) (h : RowF ks (S ^^^ p) r0) : selN (r0 ||| k * sprd p) k S = p := by
  apply Nat.eq_of_testBit_eq
  intro i
  rw [selN_bit]
  by_cases hi : i < 10
  · rw [decide_eq_true hi, Bool.true_and, add_fld hk hS hp h hi]
    by_cases hb : p.testBit i = true
    · rw [if_pos hb, hb, sub_bit.mp hp i hb]; simp
    · rw [if_neg hb, Bool.eq_false_iff.mpr hb]
      cases hs : S.testBit i with
      | false => rfl
      | true =>
        have hx : (S ^^^ p).testBit i = true := by rw [xor_sub hp, Bool.eq_false_iff.mpr hb, hs]; rfl
        have hne : fld r0 i ≠ k := fun e => hn (by rw [← e]; exact (h.2 i hi).1 hx)
        simp [hne]
  · have : p.testBit i = false := Bool.eq_false_iff.mpr (fun q => hi (lt10_bit (Nat.lt_of_le_of_lt (sub_le hp) hS) q))
    rw [this, decide_eq_false hi, Bool.false_and]
theorem add_sel' (hk : k ≤ 6) (hS : S < 1024) (hp : p &&& S = p) (h : RowF ks (S ^^^ p) r0) {k' : Nat} (hne : k' ≠ k) : selN (r0 ||| k * sprd p) k' S = selN r0 k' (S ^^^ p) := by
  apply Nat.eq_of_testBit_eq
  intro i
  rw [selN_bit, selN_bit]
  by_cases hi : i < 10
  · rw [add_fld hk hS hp h hi, xor_sub hp]
    by_cases hb : p.testBit i = true
    · have : ¬ k = k' := fun e => hne e.symm
      simp [hb, this]
    · rw [if_neg hb, Bool.eq_false_iff.mpr hb]; simp
  · rw [decide_eq_false hi, Bool.false_and, Bool.false_and]
/-- the other way: a row without its colour k -/
theorem del_row (hk : k ≤ 6) (hn : k ∉ ks) (hS : S < 1024) {row : Nat} (h : RowF (k :: ks) S row) : selN row k S &&& S = selN row k S ∧ RowF ks (S ^^^ selN row k S) (row ^^^ k * sprd (selN row k S)) ∧ row = (row ^^^ k * sprd (selN row k S)) ||| k * sprd (selN row k S) := by
  have hsub : selN row k S &&& S = selN row k S := sub_bit.mpr (fun i hi => by rw [selN_bit, Bool.and_eq_true, Bool.and_eq_true] at hi; exact hi.2.1)
  have hp10 : selN row k S < 1024 := selN_lt
  have hsp := fld_sp _ hp10 k (by omega)
  have hfx : ∀ i, i < 10 → fld (row ^^^ k * sprd (selN row k S)) i = if (selN row k S).testBit i then 0 else fld row i := by
    intro i hi
    rw [fld_xor, hsp.1 i hi]
    by_cases hb : (selN row k S).testBit i = true
    · rw [if_pos hb, if_pos hb]
      rw [selN_bit, Bool.and_eq_true, Bool.and_eq_true, decide_eq_true_eq, decide_eq_true_eq] at hb
      rw [hb.2.2, Nat.xor_self]
    · rw [if_neg hb, if_neg hb, Nat.xor_zero]
  have hrow : RowF ks (S ^^^ selN row k S) (row ^^^ k * sprd (selN row k S)) := by
    refine ⟨Nat.xor_lt_two_pow h.1 hsp.2, fun i hi => ?_⟩
    rw [hfx i hi, xor_sub hsub]
    by_cases hb : (selN row k S).testBit i = true
    · rw [if_pos hb, hb]; simp
    · rw [if_neg hb, Bool.eq_false_iff.mpr hb]
      refine ⟨fun hs => ?_, fun hs => (h.2 i hi).2 (by simpa using hs)⟩
      have hs : S.testBit i = true := by simpa using hs
      rcases List.mem_cons.mp ((h.2 i hi).1 hs) with e | e
      · exact absurd (by rw [selN_bit, decide_eq_true hi, hs, e]; simp) hb
      · exact e
  refine ⟨hsub, hrow, row_ext h.1 (add_lt hk hS hsub hrow) (fun i hi => ?_)⟩
  rw [add_fld hk hS hsub hrow hi, hfx i hi]
  by_cases hb : (selN row k S).testBit i = true
  · rw [if_pos hb]
    rw [selN_bit, Bool.and_eq_true, Bool.and_eq_true, decide_eq_true_eq, decide_eq_true_eq] at hb
    exact hb.2.2
  · rw [if_neg hb, if_neg hb]
end ROWS
section XWS
variable {G : Nat → Nat → Option Int} {T : Nat → Nat}
theorem XW_mem : ∀ (ks : List Nat), (∀ k ∈ ks, k ≤ 6) → ks.Nodup → (∀ k ∈ ks, ∀ p w, G k p = some w → p &&& T k = p) → ∀ (S : Nat), S < 1024 → ∀ x : PR, x ∈ XW G T ks S ↔ (RowF ks S x.2 ∧ (∀ k ∈ ks, (G k (selN x.2 k S)).isSome = true) ∧ x.1 = PW G ks S x.2) := by
  intro ks
  induction ks with
  | nil =>
    intro _ _ _ S hS x
    unfold XW
    constructor
    · intro h
      split at h
      · rename_i h0
        subst h0
        have hx := List.mem_singleton.mp h
        subst hx
        refine ⟨⟨by decide, fun i hi => ⟨fun q => by simp at q, fun _ => by unfold fld; simp⟩⟩, fun k hk => (by cases hk), rfl⟩
      · cases h
    · rintro ⟨hr, -, hw⟩
      have hz : S = 0 := by
        apply Nat.eq_of_testBit_eq
        intro i
        rw [Nat.zero_testBit]
        apply Bool.eq_false_iff.mpr
        intro q
        exact absurd ((hr.2 i (lt10_bit hS q)).1 q) (by simp)
      subst hz
      rw [if_pos rfl]
      have h0 : x.2 = 0 := row_ext hr.1 (by decide) (fun i hi => by rw [(hr.2 i hi).2 (Nat.zero_testBit i)]; unfold fld; simp)
      have : x = (0, 0) := Prod.ext hw h0
      rw [this]
      exact List.mem_singleton.mpr rfl
  | cons k ks ih =>
    intro hk6 hnd hT S hS x
    have hk : k ≤ 6 := hk6 k List.mem_cons_self
    have hn : k ∉ ks := (List.nodup_cons.mp hnd).1
    have IH := ih (fun k' h' => hk6 k' (List.mem_cons_of_mem _ h')) (List.nodup_cons.mp hnd).2 (fun k' h' => hT k' (List.mem_cons_of_mem _ h'))
    unfold XW
    rw [stepW_mem]
    constructor
    · rintro ⟨p, w, q, hp, hG, hq, rfl⟩
      have hpS := sub_and hp
      obtain ⟨hr, hs, hw⟩ := (IH _ (xor_lt hS hpS) q).mp hq
      have hse := add_sel hk hn hS hpS hr
      have hse' : ∀ k' ∈ ks, selN (q.2 ||| k * sprd p) k' S = selN q.2 k' (S ^^^ p) := fun k' h' => add_sel' hk hS hpS hr (fun e => hn (by rw [← e]; exact h'))
      refine ⟨add_rowF hk hS hpS hr, fun k' h' => ?_, ?_⟩
      · rcases List.mem_cons.mp h' with rfl | h'
        · rw [hse, hG]; rfl
        · rw [hse' k' h']; exact hs k' h'
      · unfold PW
        rw [List.map_cons, List.sum_cons, hse, hG]
        have : ks.map (fun k_1 => (G k_1 (selN (q.2 ||| k * sprd p) k_1 S)).getD 0) = ks.map (fun k_1 => (G k_1 (selN q.2 k_1 (S ^^^ p))).getD 0) := List.map_congr_left (fun k' h' => by rw [hse' k' h'])
        rw [this, hw]
        show PW G ks (S ^^^ p) q.2 + w = w + PW G ks (S ^^^ p) q.2
        omega
    · rintro ⟨hr, hs, hw⟩
      obtain ⟨hsub, hrow, heq⟩ := del_row hk hn hS hr
      obtain ⟨w, hG⟩ := Option.isSome_iff_exists.mp (hs k List.mem_cons_self)
      have hse' : ∀ k' ∈ ks, selN x.2 k' S = selN (x.2 ^^^ k * sprd (selN x.2 k S)) k' (S ^^^ selN x.2 k S) := fun k' h' => by
        have := add_sel' hk hS hsub hrow (k' := k') (fun e => hn (by rw [← e]; exact h'))
        rw [← heq] at this
        exact this
      refine ⟨selN x.2 k S, w, (PW G ks (S ^^^ selN x.2 k S) (x.2 ^^^ k * sprd (selN x.2 k S)), x.2 ^^^ k * sprd (selN x.2 k S)), ?_, hG, (IH _ (xor_lt hS hsub) _).mpr ⟨hrow, fun k' h' => by simp only; rw [← hse' k' h']; exact hs k' (List.mem_cons_of_mem _ h'), rfl⟩, Prod.ext ?_ heq⟩
      · have h1 := hT k List.mem_cons_self _ _ hG
        rw [sub_bit] at h1 hsub ⊢
        intro i hi
        rw [Nat.testBit_and, hsub i hi, h1 i hi]; rfl
      · rw [hw]
        unfold PW
        rw [List.map_cons, List.sum_cons, hG]
        have : ks.map (fun k_1 => (G k_1 (selN x.2 k_1 S)).getD 0) = ks.map (fun k_1 => (G k_1 (selN (x.2 ^^^ k * sprd (selN x.2 k S)) k_1 (S ^^^ selN x.2 k S))).getD 0) := List.map_congr_left (fun k' h' => by rw [hse' k' h'])
        rw [this]
        show w + _ = _ + w
        omega
theorem XW_nd : ∀ (ks : List Nat), (∀ k ∈ ks, k ≤ 6) → ks.Nodup → (∀ k ∈ ks, ∀ p w, G k p = some w → p &&& T k = p) → ∀ (S : Nat), S < 1024 → (XW G T ks S).Pairwise (fun a b => a.2 ≠ b.2) := by
  intro ks
  induction ks with
  | nil =>
    intro _ _ _ S hS
    unfold XW
    split
    · exact List.pairwise_singleton _ _
    · exact List.Pairwise.nil
  | cons k ks ih =>
    intro hk6 hnd hT S hS
    have hk : k ≤ 6 := hk6 k List.mem_cons_self
    have hn : k ∉ ks := (List.nodup_cons.mp hnd).1
    have hk6' : ∀ k' ∈ ks, k' ≤ 6 := fun k' h' => hk6 k' (List.mem_cons_of_mem _ h')
    have hT' : ∀ k' ∈ ks, ∀ p w, G k' p = some w → p &&& T k' = p := fun k' h' => hT k' (List.mem_cons_of_mem _ h')
    have IH := ih hk6' (List.nodup_cons.mp hnd).2 hT'
    have MM := XW_mem ks hk6' (List.nodup_cons.mp hnd).2 hT'
    unfold XW stepW
    rw [List.pairwise_flatMap]
    refine ⟨fun p hp => ?_, ?_⟩
    · have hpS := sub_and (subs_mem.mp hp)
      cases hG : G k p with
      | none => exact List.Pairwise.nil
      | some w =>
        simp only
        rw [List.pairwise_map]
        refine List.Pairwise.imp_of_mem ?_ (IH _ (xor_lt hS hpS))
        intro a b ha hb hne he
        simp only at he
        have ra := ((MM _ (xor_lt hS hpS) a).mp ha).1
        have rb := ((MM _ (xor_lt hS hpS) b).mp hb).1
        apply hne
        refine row_ext ra.1 rb.1 (fun i hi => ?_)
        have h1 := add_fld hk hS hpS ra hi
        have h2 := add_fld hk hS hpS rb hi
        rw [he] at h1
        rw [h1] at h2
        by_cases hbit : p.testBit i = true
        · have hx : (S ^^^ p).testBit i = false := by rw [xor_sub hpS, hbit]; simp
          rw [(ra.2 i hi).2 hx, (rb.2 i hi).2 hx]
        · rw [if_neg hbit, if_neg hbit] at h2
          exact h2
    · refine List.Pairwise.imp_of_mem ?_ subs_nodup
      intro p1 p2 hp1 hp2 hne x hx y hy he
      have hpS1 := sub_and (subs_mem.mp hp1)
      have hpS2 := sub_and (subs_mem.mp hp2)
      cases hG1 : G k p1 with
      | none => rw [hG1] at hx; cases hx
      | some w1 =>
        cases hG2 : G k p2 with
        | none => rw [hG2] at hy; cases hy
        | some w2 =>
          rw [hG1] at hx
          rw [hG2] at hy
          obtain ⟨q1, hq1, rfl⟩ := List.mem_map.mp hx
          obtain ⟨q2, hq2, rfl⟩ := List.mem_map.mp hy
          simp only at he
          have r1 := ((MM _ (xor_lt hS hpS1) q1).mp hq1).1
          have r2 := ((MM _ (xor_lt hS hpS2) q2).mp hq2).1
          have e1 := add_sel hk hn hS hpS1 r1
          have e2 := add_sel hk hn hS hpS2 r2
          rw [he] at e1
          exact hne (e1.symm.trans e2)
theorem XW_len (ks : List Nat) (hk : ∀ k ∈ ks, k ≤ 6) (hnd : ks.Nodup) (hT : ∀ k ∈ ks, ∀ p w, G k p = some w → p &&& T k = p) (S : Nat) (hS : S < 1024) : (XW G T ks S).length ≤ 2 ^ 30 := by
  have h1 : ((XW G T ks S).map (fun x => x.2)).Nodup := by
    unfold List.Nodup
    rw [List.pairwise_map]
    exact XW_nd ks hk hnd hT S hS
  have h2 := List.Nodup.length_le_of_subset h1 (l₂ := List.range (2 ^ 30)) (fun a ha => by
    obtain ⟨x, hx, rfl⟩ := List.mem_map.mp ha
    rw [List.mem_range]
    exact ((XW_mem ks hk hnd hT S hS x).mp hx).1.1)
  rw [List.length_map, List.length_range] at h2
  exact h2
theorem XW_nodup (ks : List Nat) (hk : ∀ k ∈ ks, k ≤ 6) (hnd : ks.Nodup) (hT : ∀ k ∈ ks, ∀ p w, G k p = some w → p &&& T k = p) (S : Nat) (hS : S < 1024) : (XW G T ks S).Nodup := (XW_nd ks hk hnd hT S hS).imp (fun h e => h (by rw [e]))
end XWS
