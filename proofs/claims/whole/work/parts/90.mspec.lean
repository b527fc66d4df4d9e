theorem AG4_perm {N : Int} {W W' : List PR} {m n b a : Int} (hp : W.Perm W') (h : AG4 N W m n b a) : AG4 N W' m n b a := by
  obtain ⟨p1, p2, p3, p4⟩ := h
  have hm : ∀ x, x ∈ W' ↔ x ∈ W := fun x => hp.symm.mem_iff
  refine ⟨by rw [p1, hp.length_eq], by rw [p2, (hp.filter _).length_eq], fun e => p3 (by rw [e] at hp; exact List.perm_nil.mp hp), fun e => ?_⟩
  have hne : W ≠ [] := fun q => e (by rw [q] at hp; exact List.nil_perm.mp hp)
  obtain ⟨q1, ⟨y, hy, hy2⟩, q3, q4⟩ := p4 hne
  refine ⟨fun x hx => q1 x ((hm x).mp hx), ⟨y, (hm y).mpr hy, hy2⟩, fun x hx => q3 x ((hm x).mp hx), ?_⟩
  rcases q4 with q | ⟨x, hx, q⟩
  · exact Or.inl q
  · exact Or.inr ⟨x, (hm x).mpr hx, q⟩
theorem AG4.bd {N : Int} {W : List PR} {mo nx be al : Int} (h : AG4 N W mo nx be al) (hb : ∀ x ∈ W, -70000 ≤ x.1 ∧ x.1 ≤ 7000) (hN : N < -70000) : ((W = [] ∧ mo = N) ∨ (W ≠ [] ∧ -70000 ≤ mo ∧ mo ≤ 7000 ∧ 1 ≤ be)) ∧ (nx = N ∨ (-70000 ≤ nx ∧ nx < mo)) ∧ (0 ≤ be ∧ be ≤ al) ∧ (al = (W.length : Int)) := by
  obtain ⟨h1, h2, h3, h4⟩ := h
  have hbl : be ≤ al := by
    rw [h1, h2]
    have := List.length_filter_le (fun x : PR => decide (x.1 = mo)) W
    omega
  by_cases hw : W = []
  · obtain ⟨e1, e2⟩ := h3 hw
    exact ⟨Or.inl ⟨hw, e1⟩, Or.inl e2, ⟨by omega, hbl⟩, h1⟩
  · obtain ⟨q1, ⟨x, hx, hx2⟩, q3, q4⟩ := h4 hw
    have := hb x hx
    have hbe : 1 ≤ be := by
      rw [h2]
      have : x ∈ W.filter (fun x => decide (x.1 = mo)) := List.mem_filter.mpr ⟨hx, by simp [hx2]⟩
      have := List.length_pos_of_mem this
      omega
    refine ⟨Or.inr ⟨hw, by omega, by omega, hbe⟩, ?_, ⟨by omega, hbl⟩, h1⟩
    rcases q4 with e | ⟨y, hy, hy2, hy3⟩
    · exact Or.inl e
    · have := hb y hy; exact Or.inr ⟨by omega, hy3⟩
/-- those barred from a COUPLE -/
def brd (Al : Nat → Nat) (F c : Nat) : Nat := bitU (fun i => !(Al i).testBit c) F
theorem bitU_bit {f : Nat → Bool} (n i : Nat) : (bitU f n).testBit i = (decide (i < n) && f i) := by
  induction n with
  | zero => simp [bitU]
  | succ n ih =>
    unfold bitU
    by_cases hi : i = n
    · subst hi
      have hf : (bitU f i).testBit i = false := Nat.testBit_lt_two_pow (bitU_lt i)
      split
      · rename_i h; simp [Nat.testBit_or, Nat.testBit_two_pow, h]
      · rename_i h; rw [hf]; simp [h]
    · have e : decide (i < n + 1) = decide (i < n) := by simp only [decide_eq_decide]; omega
      split
      · rw [Nat.testBit_or, ih, Nat.testBit_two_pow, e, decide_eq_false (show ¬ n = i by omega), Bool.or_false]
      · rw [ih, e]
def GR (s : VW) (K : Nat → CUS) (a b Y : Int) (Al : Nat → Nat) (k p : Nat) : Option Int := if p &&& brd Al (s 0 2).toNat k = 0 then GS s K a b Y k p else none
def TT : Nat → Nat := fun _ => 1023
section MSPEC
variable {s : VW} {K : Nat → CUS} {a b Y : Int} {Al : Nat → Nat}
theorem GR_some {k p : Nat} {w : Int} (h : GR s K a b Y Al k p = some w) : p &&& brd Al (s 0 2).toNat k = 0 ∧ GS s K a b Y k p = some w := by
  unfold GR at h
  split at h
  · rename_i q; exact ⟨q, h⟩
  · cases h
theorem lt_1023 {p : Nat} (h : p < 1024) : p &&& 1023 = p := by
  rw [show (1023 : Nat) = 2 ^ 10 - 1 from rfl, Nat.and_two_pow_sub_one_eq_mod]
  exact Nat.mod_eq_of_lt h
theorem GR_ok (h : SBD s K a b Y) {n : Nat} (hn : n ≤ 6) : XOK (GR s K a b Y Al) TT (rv n ++ [6]) := by
  have hX := GS_6r h hn
  refine ⟨hX.1, hX.2.1, fun k hk p w hG => ?_⟩
  obtain ⟨h1, h2⟩ := hX.2.2 k hk p w (GR_some hG).2
  exact ⟨lt_1023 (Nat.lt_of_le_of_lt (sub_le h1) (TS_lt h k)), h2⟩
/-- the reference's list -/
def RW (s : VW) (K : Nat → CUS) (a b Y : Int) (Al : Nat → Nat) : List PR := XW (GR s K a b Y Al) TT (rv (s 0 1).toNat ++ [6]) (whS s)
def alOK (s : VW) (Al : Nat → Nat) (x : PR) : Bool := (List.range (s 0 2).toNat).all (fun i => (Al i).testBit (fld x.2 i))
theorem alOK_iff {x : PR} : alOK s Al x = true ↔ ∀ i, i < (s 0 2).toNat → (Al i).testBit (fld x.2 i) = true := by
  unfold alOK
  rw [List.all_eq_true]
  exact ⟨fun h i hi => h i (List.mem_range.mpr hi), fun h i hi => h i (List.mem_range.mp hi)⟩
theorem RW_mem (h : SBD s K a b Y) (x : PR) : x ∈ RW s K a b Y Al ↔ (x ∈ WS s K a b Y ∧ alOK s Al x = true) := by
  have hC := h.2.1
  have hF := h.2.2.1
  unfold RW
  rw [(GR_ok h (by omega)).mem (whS_lt h), WS_mem h, alOK_iff]
  have hks : ∀ k, k ∈ rv (s 0 1).toNat ++ [6] ↔ k ∈ 6 :: rv (s 0 1).toNat := by
    intro k
    rw [List.mem_append, List.mem_singleton, List.mem_cons]
    exact or_comm
  have hrow : RowF (rv (s 0 1).toNat ++ [6]) (whS s) x.2 ↔ RowF (6 :: rv (s 0 1).toNat) (whS s) x.2 := by
    unfold RowF
    simp only [hks]
  have hpw : (∀ k ∈ rv (s 0 1).toNat ++ [6], (GR s K a b Y Al k (selN x.2 k (whS s))).isSome = true) → PW (GR s K a b Y Al) (rv (s 0 1).toNat ++ [6]) (whS s) x.2 = PW (GS s K a b Y) (6 :: rv (s 0 1).toNat) (whS s) x.2 := by
    intro hg
    have e : (rv (s 0 1).toNat ++ [6]).map (fun k => (GR s K a b Y Al k (selN x.2 k (whS s))).getD 0) = (rv (s 0 1).toNat ++ [6]).map (fun k => (GS s K a b Y k (selN x.2 k (whS s))).getD 0) := by
      apply List.map_congr_left
      intro k hk
      obtain ⟨w, hw⟩ := Option.isSome_iff_exists.mp (hg k hk)
      rw [hw, (GR_some hw).2]
    unfold PW
    rw [e, List.map_append, List.sum_append, List.map_cons, List.sum_cons]
    simp only [List.map_cons, List.map_nil, List.sum_cons, List.sum_nil]
    omega
  constructor
  · rintro ⟨h1, h2, h3⟩
    have h1' := hrow.mp h1
    refine ⟨⟨h1', fun k hk => ?_, by rw [h3, hpw h2]⟩, fun i hi => ?_⟩
    · obtain ⟨w, hw⟩ := Option.isSome_iff_exists.mp (h2 k ((hks k).mpr hk))
      rw [(GR_some hw).2]; rfl
    · have hk := (h1.2 i (by omega)).1 (by rw [whS_bit, decide_eq_true hi])
      obtain ⟨w, hw⟩ := Option.isSome_iff_exists.mp (h2 _ hk)
      have hz := (GR_some hw).1
      have hb : (selN x.2 (fld x.2 i) (whS s) &&& brd Al (s 0 2).toNat (fld x.2 i)).testBit i = false := by rw [hz, Nat.zero_testBit]
      rw [Nat.testBit_and, selN_bit, whS_bit, decide_eq_true hi, decide_eq_true (show i < 10 by omega)] at hb
      unfold brd at hb
      rw [bitU_bit, decide_eq_true hi] at hb
      simpa using hb
  · rintro ⟨⟨h1, h2, h3⟩, h4⟩
    have hg : ∀ k ∈ rv (s 0 1).toNat ++ [6], (GR s K a b Y Al k (selN x.2 k (whS s))).isSome = true := by
      intro k hk
      unfold GR
      rw [if_pos]
      · exact h2 k ((hks k).mp hk)
      · apply Nat.eq_of_testBit_eq
        intro i
        rw [Nat.zero_testBit, Nat.testBit_and, selN_bit, whS_bit]
        unfold brd
        rw [bitU_bit]
        by_cases hi : i < (s 0 2).toNat
        · by_cases hf : fld x.2 i = k
          · rw [← hf, h4 i hi]; simp
          · rw [decide_eq_false hf]; simp
        · rw [decide_eq_false hi]; simp
    exact ⟨hrow.mpr h1, hg, by rw [h3, hpw hg]⟩
theorem RW_perm (h : SBD s K a b Y) : (RW s K a b Y Al).Perm ((WS s K a b Y).filter (alOK s Al)) := by
  have hC := h.2.1
  refine (List.perm_ext_iff_of_nodup ((GR_ok h (by omega)).nodup (whS_lt h)) (List.Pairwise.filter _ ((GS_6 h (by omega)).nodup (whS_lt h)))).mpr (fun x => ?_)
  rw [List.mem_filter]
  exact RW_mem h x
/-- nobody alone -/
theorem XW_6 (h : SBD s K a b Y) {S : Nat} (hS : S ≤ whS s) : AG4 (-100000000) (XW (GR s K a b Y Al) TT [6] S) (if S &&& brd Al (s 0 2).toNat 6 = 0 then -(s 0 4) * (popS S : Int) else -100000000) (-100000000) (if S &&& brd Al (s 0 2).toNat 6 = 0 then 1 else 0) (if S &&& brd Al (s 0 2).toNat 6 = 0 then 1 else 0) := by
  have hS10 : S < 1024 := Nat.lt_of_le_of_lt hS (whS_lt h)
  have hX := GR_ok (Al := Al) h (n := 0) (by omega)
  have hX : XOK (GR s K a b Y Al) TT [6] := hX
  have hG : GR s K a b Y Al 6 S = if S &&& brd Al (s 0 2).toNat 6 = 0 then some (-(s 0 4) * (popS S : Int)) else none := by
    unfold GR GS
    rw [show TS s 6 = whS s from if_pos rfl, if_pos (le_wh hS), if_pos rfl]
  have hmem : ∀ x, x ∈ XW (GR s K a b Y Al) TT [6] S ↔ ∃ w, GR s K a b Y Al 6 S = some w ∧ x = (0 + w, 0 ||| 6 * sprd S) := by
    intro x
    rw [XW, stepW_mem]
    constructor
    · rintro ⟨p, w, q, h1, h2, h3, rfl⟩
      rw [XW] at h3
      split at h3
      · rename_i e
        have hp : p = S := by
          have : S ^^^ p ^^^ p = 0 ^^^ p := by rw [e]
          rw [Nat.xor_assoc, Nat.xor_self, Nat.xor_zero, Nat.zero_xor] at this
          exact this.symm
        subst hp
        rw [List.mem_singleton.mp h3]
        exact ⟨w, h2, rfl⟩
      · cases h3
    · rintro ⟨w, h2, rfl⟩
      exact ⟨S, w, (0, 0), by rw [show TT 6 = 1023 from rfl, lt_1023 hS10, Nat.and_self], h2, by rw [XW, if_pos (Nat.xor_self S)]; exact List.mem_singleton.mpr rfl, rfl⟩
  by_cases hz : S &&& brd Al (s 0 2).toNat 6 = 0
  · rw [if_pos hz] at hG
    rw [if_pos hz, if_pos hz]
    have hp : [((0 : Int) + -(s 0 4) * (popS S : Int), 0 ||| 6 * sprd S)].Perm (XW (GR s K a b Y Al) TT [6] S) := by
      refine (List.perm_ext_iff_of_nodup (by simp) (hX.nodup hS10)).mpr (fun x => ?_)
      rw [hmem x, hG, List.mem_singleton]
      constructor
      · intro e; exact ⟨_, rfl, e⟩
      · rintro ⟨w, hw, e⟩; cases hw; exact e
    refine AG4_perm hp ⟨rfl, by simp, fun e => (by cases e), fun _ => ⟨?_, ⟨_, List.mem_singleton.mpr rfl, by simp⟩, ?_, Or.inl rfl⟩⟩
    · intro x hx; rw [List.mem_singleton.mp hx]; simp
    · intro x hx; rw [List.mem_singleton.mp hx]; simp
  · rw [if_neg hz] at hG
    rw [if_neg hz, if_neg hz]
    have hnil : XW (GR s K a b Y Al) TT [6] S = [] := by
      apply List.eq_nil_iff_forall_not_mem.mpr
      intro x hx
      obtain ⟨w, hw, -⟩ := (hmem x).mp hx
      rw [hG] at hw; cases hw
    rw [hnil]
    exact AG4_nil
theorem gath_tie {c set : Nat} : ∀ (t acc l : List Nat), gath s c set t acc = some l → ∀ i ∈ t, set.testBit i = true → canTie s i c = true := by
  intro t
  induction t with
  | nil => intro acc l _ i hi; cases hi
  | cons j t ih =>
    intro acc l h i hi hb
    unfold gath at h
    split at h
    · split at h
      · rename_i hc
        rw [Bool.and_eq_true] at hc
        rcases List.mem_cons.mp hi with rfl | hi
        · exact hc.1
        · exact ih _ _ h i hi hb
      · cases h
    · rename_i hj
      rcases List.mem_cons.mp hi with rfl | hi
      · exact absurd hb hj
      · exact ih _ _ h i hi hb
/-- what 'brought' holds -/
theorem GS_fam {c S : Nat} (hc : c ≠ 6) (hS : S ≤ whS s) : GS s K a b Y c S = (fam s c S).map (ptS s K a b Y c) := by
  unfold GS
  rw [if_neg hc]
  cases hf : fam s c S with
  | none => simp
  | some l =>
    rw [if_pos]
    unfold TS
    rw [if_neg hc, sub_bit]
    intro i hi
    have hw := sub_bit.mp (le_wh hS) i hi
    rw [whS_bit, decide_eq_true_eq] at hw
    rw [tieS_bit, decide_eq_true hw, gath_tie _ _ _ hf i (ordL_mem.mpr hw) hi]
    rfl
end MSPEC
