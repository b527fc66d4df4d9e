theorem insY_nodup {yr : Nat → Int} {i : Nat} {l : List Nat} (hi : i ∉ l) (h : l.Nodup) : (insY yr i l).Nodup := by
  induction l with
  | nil => simp [insY]
  | cons b t ih =>
    obtain ⟨h1, h2⟩ := List.nodup_cons.mp h
    have hib : i ≠ b := fun e => hi (by rw [e]; exact List.mem_cons_self)
    have hit : i ∉ t := fun e => hi (List.mem_cons_of_mem _ e)
    unfold insY
    split
    · exact List.nodup_cons.mpr ⟨hi, h⟩
    · exact List.nodup_cons.mpr ⟨fun q => by rcases insY_mem.mp q with e | e; exact hib e.symm; exact h1 e, ih hit h2⟩
theorem ordL_nodup {yr : Nat → Int} : ∀ n, (ordL yr n).Nodup := by
  intro n
  induction n with
  | zero => simp [ordL]
  | succ n ih => rw [ordL]; exact insY_nodup (fun q => by have := ordL_mem.mp q; omega) ih
theorem gath_skip {s : VW} {c set : Nat} : ∀ (t acc : List Nat), (∀ j ∈ t, set.testBit j = false) → gath s c set t acc = some acc := by
  intro t
  induction t with
  | nil => intro acc _; rfl
  | cons i t ih =>
    intro acc h
    unfold gath
    rw [h i List.mem_cons_self, if_neg (by decide)]
    exact ih acc (fun j hj => h j (List.mem_cons_of_mem _ hj))
theorem fam_zero {s : VW} {c : Nat} : fam s c 0 = some [] := gath_skip _ _ (fun j _ => Nat.zero_testBit j)
theorem gath_one {s : VW} {c i : Nat} (h : canTie s i c = true) : ∀ (t : List Nat), t.Nodup → i ∈ t → gath s c (2 ^ i) t [] = some [i] := by
  intro t
  induction t with
  | nil => intro _ hi; cases hi
  | cons j t ih =>
    intro hn hi
    obtain ⟨h1, h2⟩ := List.nodup_cons.mp hn
    unfold gath
    rw [Nat.testBit_two_pow]
    by_cases e : i = j
    · subst e
      have hf : fits s [] i = true := by unfold fits twn; simp
      rw [decide_eq_true rfl, if_pos rfl, h, hf, if_pos (by rfl)]
      refine gath_skip t [i] (fun j hj => ?_)
      rw [Nat.testBit_two_pow, decide_eq_false]
      intro e; subst e; exact h1 hj
    · rw [decide_eq_false e, if_neg (by decide)]
      rcases List.mem_cons.mp hi with q | q
      · exact absurd q e
      · exact ih h2 q
theorem fits_sub {s : VW} {l l' : List Nat} {i : Nat} (hs : l'.Sublist l) (h : fits s l i = true) : fits s l' i = true := by
  unfold fits at *
  rw [Bool.and_eq_true, decide_eq_true_eq] at *
  refine ⟨List.all_eq_true.mpr (fun x hx => List.all_eq_true.mp h.1 x (hs.subset hx)), ?_⟩
  have : twn s i l' ≤ twn s i l := (hs.filter _).length_le
  omega
theorem gath_sub {s : VW} {c set set' : Nat} (hss : set' &&& set = set') : ∀ (t acc acc' l : List Nat), acc'.Sublist acc → gath s c set t acc = some l → (gath s c set' t acc').isSome = true := by
  intro t
  induction t with
  | nil => intro acc acc' l _ _; rfl
  | cons i t ih =>
    intro acc acc' l hs h
    unfold gath at h ⊢
    split at h
    · split at h
      · rename_i hc
        rw [Bool.and_eq_true] at hc
        by_cases hb : set'.testBit i = true
        · rw [if_pos hb, hc.1, fits_sub hs hc.2, if_pos (by rfl)]
          exact ih _ _ l (hs.append (List.Sublist.refl [i])) h
        · rw [if_neg hb]
          exact ih _ _ l (hs.trans (List.sublist_append_left _ _)) h
      · cases h
    · rename_i hb
      have hb' : ¬ set'.testBit i = true := fun q => hb (sub_bit.mp hss i q)
      rw [if_neg hb']
      exact ih _ _ l hs h
theorem fam_sub {s : VW} {c set set' : Nat} {l : List Nat} (hss : set' &&& set = set') (h : fam s c set = some l) : ∃ l', fam s c set' = some l' := Option.isSome_iff_exists.mp (gath_sub hss _ _ _ l (List.Sublist.refl []) h)
/-- all WAYS: POINTS and rows -/
def WS (s : VW) (K : Nat → CUS) (a b Y : Int) : List PR := XW (GS s K a b Y) (TS s) (6 :: rv (s 0 1).toNat) (whS s)
section WSS
variable {s : VW} {K : Nat → CUS} {a b Y : Int}
theorem GS_zero {k : Nat} : ∃ w, GS s K a b Y k 0 = some w := by
  unfold GS
  rw [Nat.zero_and, if_pos rfl]
  split
  · exact ⟨_, rfl⟩
  · rw [fam_zero]; exact ⟨_, rfl⟩
theorem XW_zero : ∀ (n : Nat), ∃ x, x ∈ XW (GS s K a b Y) (TS s) (rv n) 0 := by
  intro n
  induction n with
  | zero => exact ⟨(0, 0), by rw [rv, XW, if_pos rfl]; exact List.mem_singleton.mpr rfl⟩
  | succ n ih =>
    obtain ⟨q, hq⟩ := ih
    obtain ⟨w, hw⟩ := GS_zero (s := s) (K := K) (a := a) (b := b) (Y := Y) (k := n)
    rw [rv, XW]
    exact ⟨_, stepW_mem.mpr ⟨0, w, q, Nat.zero_and _, hw, by rw [Nat.xor_self]; exact hq, rfl⟩⟩
theorem XW_single (h : SBD s K a b Y) {i c : Nat} (hi : i < (s 0 2).toNat) (hct : canTie s i c = true) (hc6 : c ≠ 6) : ∀ (n : Nat), n ≤ 6 → c < n → ∃ x, x ∈ XW (GS s K a b Y) (TS s) (rv n) (2 ^ i) ∧ fld x.2 i = c := by
  intro n
  have hi10 : i < 10 := by have := h.2.2.1; omega
  have hp : 2 ^ i < 1024 := Nat.pow_lt_pow_right (n := 10) (by decide) hi10
  induction n with
  | zero => intro _ hc; omega
  | succ n ih =>
    intro hn hc
    have hX := GS_rv h (n := n) (by omega)
    rw [rv, XW]
    by_cases e : c = n
    · subst e
      obtain ⟨q, hq⟩ := XW_zero (s := s) (K := K) (a := a) (b := b) (Y := Y) c
      have hT : 2 ^ i &&& TS s c = 2 ^ i := by
        rw [sub_bit]
        intro j hj
        rw [Nat.testBit_two_pow, decide_eq_true_eq] at hj
        subst hj
        unfold TS
        rw [if_neg hc6, tieS_bit, hct, decide_eq_true hi]; rfl
      have hG : GS s K a b Y c (2 ^ i) = some (ptS s K a b Y c [i]) := by
        unfold GS
        rw [if_pos hT, if_neg hc6, show fam s c (2 ^ i) = some [i] from gath_one hct _ (ordL_nodup _) (ordL_mem.mpr hi)]
        rfl
      have hx : 2 ^ i ^^^ 2 ^ i = 0 := Nat.xor_self _
      refine ⟨_, stepW_mem.mpr ⟨2 ^ i, _, q, by rw [← Nat.and_assoc, Nat.and_self]; exact hT, hG, by rw [hx]; exact hq, rfl⟩, ?_⟩
      have hr := ((hX.mem (by decide) q).mp hq).1
      rw [← hx] at hr
      simp only
      rw [add_fld (by omega) hp (Nat.and_self _) hr hi10, Nat.testBit_two_pow, decide_eq_true rfl, if_pos rfl]
    · obtain ⟨q, hq, hf⟩ := ih (by omega) (by omega)
      obtain ⟨w, hw⟩ := GS_zero (s := s) (K := K) (a := a) (b := b) (Y := Y) (k := n)
      have hz : n * sprd 0 = 0 := by rw [show sprd 0 = 0 from by decide +kernel, Nat.mul_zero]
      refine ⟨_, stepW_mem.mpr ⟨0, w, q, Nat.zero_and _, hw, by rw [Nat.xor_zero]; exact hq, rfl⟩, ?_⟩
      simp only
      rw [hz, Nat.or_zero]
      exact hf
theorem GS_nob {p : Nat} (hp : p &&& whS s = p) : ∃ w, GS s K a b Y 6 p = some w := by
  unfold GS
  rw [show TS s 6 = whS s from if_pos rfl, if_pos hp, if_pos rfl]
  exact ⟨_, rfl⟩
theorem WS_nob (h : SBD s K a b Y) : ∃ x, x ∈ WS s K a b Y ∧ ∀ i, i < (s 0 2).toNat → fld x.2 i = 6 := by
  obtain ⟨q, hq⟩ := XW_zero (s := s) (K := K) (a := a) (b := b) (Y := Y) (s 0 1).toNat
  obtain ⟨w, hw⟩ := GS_nob (s := s) (K := K) (a := a) (b := b) (Y := Y) (Nat.and_self (whS s))
  have hX := GS_rv h (n := (s 0 1).toNat) (by have := h.2.1; omega)
  unfold WS
  rw [XW]
  have hx : whS s ^^^ whS s = 0 := Nat.xor_self _
  refine ⟨_, stepW_mem.mpr ⟨whS s, w, q, by rw [show TS s 6 = whS s from if_pos rfl, Nat.and_self, Nat.and_self], hw, by rw [hx]; exact hq, rfl⟩, fun i hi => ?_⟩
  have hr := ((hX.mem (by decide) q).mp hq).1
  rw [← hx] at hr
  simp only
  rw [add_fld (by omega) (whS_lt h) (Nat.and_self _) hr (by have := h.2.2.1; omega), whS_bit, decide_eq_true hi, if_pos rfl]
theorem WS_ne (h : SBD s K a b Y) : WS s K a b Y ≠ [] := by
  obtain ⟨x, hx, -⟩ := WS_nob h
  exact fun e => by rw [e] at hx; cases hx
theorem WS_tie (h : SBD s K a b Y) {i c : Nat} (hi : i < (s 0 2).toNat) (hc : c = 6 ∨ (c < (s 0 1).toNat ∧ canTie s i c = true)) : ∃ x, x ∈ WS s K a b Y ∧ fld x.2 i = c := by
  rcases hc with rfl | ⟨hc, hct⟩
  · obtain ⟨x, hx, hf⟩ := WS_nob h
    exact ⟨x, hx, hf i hi⟩
  · have hC := h.2.1
    have hi10 : i < 10 := by have := h.2.2.1; omega
    obtain ⟨q, hq, hf⟩ := XW_single h hi hct (by omega) (s 0 1).toNat (by omega) hc
    have hsub : 2 ^ i &&& whS s = 2 ^ i := by
      rw [sub_bit]
      intro j hj
      rw [Nat.testBit_two_pow, decide_eq_true_eq] at hj
      subst hj
      rw [whS_bit, decide_eq_true hi]
    have hp : (whS s ^^^ 2 ^ i) &&& whS s = whS s ^^^ 2 ^ i := by
      rw [sub_bit]
      intro j hj
      rw [xor_sub hsub, Bool.and_eq_true] at hj
      exact hj.1
    obtain ⟨w, hw⟩ := GS_nob (s := s) (K := K) (a := a) (b := b) (Y := Y) hp
    have hx : whS s ^^^ (whS s ^^^ 2 ^ i) = 2 ^ i := by rw [← Nat.xor_assoc, Nat.xor_self, Nat.zero_xor]
    have hX := GS_rv h (n := (s 0 1).toNat) (by omega)
    unfold WS
    rw [XW]
    refine ⟨_, stepW_mem.mpr ⟨whS s ^^^ 2 ^ i, w, q, by rw [show TS s 6 = whS s from if_pos rfl, Nat.and_self]; exact hp, hw, by rw [hx]; exact hq, rfl⟩, ?_⟩
    have hr := ((hX.mem (Nat.pow_lt_pow_right (n := 10) (by decide) hi10) q).mp hq).1
    rw [← hx] at hr
    simp only
    rw [add_fld (by omega) (whS_lt h) hp hr hi10, xor_sub hsub, Nat.testBit_two_pow, decide_eq_true rfl]
    simp
    exact hf
theorem WS_mem (h : SBD s K a b Y) (x : PR) : x ∈ WS s K a b Y ↔ (RowF (6 :: rv (s 0 1).toNat) (whS s) x.2 ∧ (∀ k ∈ 6 :: rv (s 0 1).toNat, (GS s K a b Y k (selN x.2 k (whS s))).isSome = true) ∧ x.1 = PW (GS s K a b Y) (6 :: rv (s 0 1).toNat) (whS s) x.2) := (GS_6 h (by have := h.2.1; omega)).mem (whS_lt h) x
theorem WS_no (h : SBD s K a b Y) {i c : Nat} (hi : i < (s 0 2).toNat) (hc : c < (s 0 1).toNat) (hct : ¬ canTie s i c = true) : ∀ x ∈ WS s K a b Y, fld x.2 i ≠ c := by
  intro x hx hf
  have hC := h.2.1
  obtain ⟨w, hw⟩ := Option.isSome_iff_exists.mp (((WS_mem h x).mp hx).2.1 c (List.mem_cons_of_mem _ (rv_mem.mpr hc)))
  have hT := (GS_some h hw).1
  have := sub_bit.mp hT i (by rw [selN_bit, whS_bit, decide_eq_true hi, decide_eq_true (show i < 10 by have := h.2.2.1; omega), decide_eq_true hf]; rfl)
  unfold TS at this
  rw [if_neg (by omega), tieS_bit, Bool.and_eq_true] at this
  exact hct this.2
/-- the least row of most POINTS -/
def LeIs (W : List PR) (le : Nat) : Prop := ∃ mo, (∀ x ∈ W, x.1 ≤ mo) ∧ (∃ x ∈ W, x.1 = mo ∧ x.2 = le) ∧ ∀ x ∈ W, x.1 = mo → le ≤ x.2
theorem LeIs.uniq {W : List PR} {l1 l2 : Nat} (h1 : LeIs W l1) (h2 : LeIs W l2) : l1 = l2 := by
  obtain ⟨m1, a1, ⟨x1, hx1, e1, f1⟩, b1⟩ := h1
  obtain ⟨m2, a2, ⟨x2, hx2, e2, f2⟩, b2⟩ := h2
  have h3 := a1 x2 hx2
  have h4 := a2 x1 hx1
  have h5 := b1 x2 hx2 (by omega)
  have h6 := b2 x1 hx1 (by omega)
  omega
/-- SURE, NEVER or neither -/
def SureIs (W : List PR) (i c : Nat) (v : Int) : Prop := ∃ mo, (∀ x ∈ W, x.1 ≤ mo) ∧ (∃ x ∈ W, x.1 = mo) ∧ ((v = 2 ∧ ∀ x ∈ W, x.1 = mo → fld x.2 i = c) ∨ (v = 0 ∧ ∀ x ∈ W, fld x.2 i ≠ c) ∨ (v = 1 ∧ (∃ x ∈ W, fld x.2 i = c) ∧ ∃ x ∈ W, x.1 = mo ∧ fld x.2 i ≠ c))
theorem SureIs.uniq {W : List PR} {i c : Nat} {v w : Int} (h1 : SureIs W i c v) (h2 : SureIs W i c w) : v = w := by
  obtain ⟨m1, a1, ⟨x1, hx1, e1⟩, b1⟩ := h1
  obtain ⟨m2, a2, ⟨x2, hx2, e2⟩, b2⟩ := h2
  have h3 := a1 x2 hx2
  have h4 := a2 x1 hx1
  have hm : m1 = m2 := by omega
  subst hm
  rcases b1 with ⟨rfl, c1⟩ | ⟨rfl, c1⟩ | ⟨rfl, ⟨y, hy, c1⟩, ⟨y', hy', d1, d2⟩⟩
  · rcases b2 with ⟨rfl, c2⟩ | ⟨rfl, c2⟩ | ⟨rfl, ⟨u, hu, c2⟩, ⟨u', hu', d1', d2'⟩⟩
    · rfl
    · exact absurd (c1 x1 hx1 e1) (c2 x1 hx1)
    · exact absurd (c1 u' hu' d1') d2'
  · rcases b2 with ⟨rfl, c2⟩ | ⟨rfl, c2⟩ | ⟨rfl, ⟨u, hu, c2⟩, ⟨u', hu', d1', d2'⟩⟩
    · exact absurd (c2 x1 hx1 e1) (c1 x1 hx1)
    · rfl
    · exact absurd c2 (c1 u hu)
  · rcases b2 with ⟨rfl, c2⟩ | ⟨rfl, c2⟩ | ⟨rfl, ⟨u, hu, c2⟩, ⟨u', hu', d1', d2'⟩⟩
    · exact absurd (c2 y' hy' d1) d2
    · exact absurd c1 (c2 y hy)
    · rfl
theorem AGC.leIs {W : List PR} {mo nx be al : Int} {le co : Nat} (h : AGC W mo nx be al le co) (hne : W ≠ []) : LeIs W le := by
  obtain ⟨⟨-, -, -, h4⟩, hr, -, -⟩ := h
  obtain ⟨r1, r2, -, -⟩ := hr hne
  exact ⟨mo, (h4 hne).1, r1, r2⟩
theorem AGC.sure {W : List PR} {mo nx be al : Int} {le co : Nat} (h : AGC W mo nx be al le co) (hne : W ≠ []) {i c : Nat} (hi : i < 10) (hc : c ≤ 6) (hex : ∃ x ∈ W, fld x.2 i = c) : SureIs W i c (if fld co i = c then 2 else 1) := by
  obtain ⟨⟨-, -, -, h4⟩, hr, -, -⟩ := h
  obtain ⟨⟨e, he, hea, heb⟩, r2, r3, r4⟩ := hr hne
  refine ⟨mo, (h4 hne).1, ⟨e, he, hea⟩, ?_⟩
  by_cases hf : fld co i = c
  · rw [if_pos hf]
    exact Or.inl ⟨rfl, fun x hx hx2 => by rw [(r4 i hi).1 (by omega) x hx hx2]; exact hf⟩
  · rw [if_neg hf]
    refine Or.inr (Or.inr ⟨rfl, hex, ?_⟩)
    by_cases h7 : fld co i = 7
    · obtain ⟨x, hx, y, hy, d1, d2, d3⟩ := (r4 i hi).2 h7
      by_cases hxc : fld x.2 i = c
      · exact ⟨y, hy, d2, fun q => d3 (by rw [hxc, q])⟩
      · exact ⟨x, hx, d1, hxc⟩
    · exact ⟨e, he, hea, by rw [(r4 i hi).1 h7 e he hea]; exact hf⟩
/-- the children of COUPLE c in a row -/
def fmS (s : VW) (le c : Nat) : Nat := setR (fun i => (fld le i : Int)) (c : Int) (s 0 2).toNat
theorem fmS_sel (h : SBD s K a b Y) {le c : Nat} : fmS s le c = selN le c (whS s) := by
  apply Nat.eq_of_testBit_eq
  intro i
  unfold fmS
  rw [setR_bit, selN_bit, whS_bit]
  by_cases hi : i < (s 0 2).toNat
  · rw [decide_eq_true hi, decide_eq_true (show i < 10 by have := h.2.2.1; omega)]
    simp only [Bool.true_and, decide_eq_decide]
    omega
  · rw [decide_eq_false hi]; simp
theorem fmS_bit {le c i : Nat} (hi : i < (s 0 2).toNat) (hf : fld le i = c) : (fmS s le c).testBit i = true := by
  unfold fmS
  rw [setR_bit, decide_eq_true hi, hf]
  simp
theorem fmS_lt (h : SBD s K a b Y) {le c : Nat} : fmS s le c < 1024 := by rw [fmS_sel h]; exact selN_lt
/-- the FAMILIES of THE BEST can be -/
theorem LeIs.fmly (h : SBD s K a b Y) {le c : Nat} (hl : LeIs (WS s K a b Y) le) (hc : c < (s 0 1).toNat) : ∃ l, fam s c (fmS s le c) = some l := by
  obtain ⟨mo, -, ⟨x, hx, -, rfl⟩, -⟩ := hl
  have hC := h.2.1
  obtain ⟨w, hw⟩ := Option.isSome_iff_exists.mp (((WS_mem h x).mp hx).2.1 c (List.mem_cons_of_mem _ (rv_mem.mpr hc)))
  rw [fmS_sel h]
  unfold GS at hw
  split at hw
  · rw [if_neg (by omega)] at hw
    cases hf : fam s c (selN x.2 c (whS s)) with
    | none => rw [hf] at hw; cases hw
    | some l => exact ⟨l, rfl⟩
  · cases hw
/-- who has whom in THE BEST -/
theorem LeIs.col (h : SBD s K a b Y) {le i : Nat} (hl : LeIs (WS s K a b Y) le) (hi : i < (s 0 2).toNat) : le < 2 ^ 30 ∧ (fld le i = 6 ∨ fld le i < (s 0 1).toNat) := by
  obtain ⟨mo, -, ⟨x, hx, -, rfl⟩, -⟩ := hl
  have hr := ((WS_mem h x).mp hx).1
  refine ⟨hr.1, ?_⟩
  rcases List.mem_cons.mp ((hr.2 i (by have := h.2.2.1; omega)).1 (by rw [whS_bit, decide_eq_true hi])) with e | e
  · exact Or.inl e
  · exact Or.inr (rv_mem.mp e)
end WSS
theorem and_not {S p : Nat} (hS : S < 2 ^ 31) (hp : p &&& S = p) : bAnd S (bXor p (-1)) = ((S ^^^ p : Nat) : Int) := by
  have hp31 : p < 2 ^ 31 := Nat.lt_of_le_of_lt (sub_le hp) hS
  rw [bAnd, bXor, o32, i32n, i32n, show i32 (-1) = nI 4294967295 from by decide, nI_xorN, nI_andN]
  have e : S &&& (p ^^^ 4294967295) = S ^^^ p := by
    apply Nat.eq_of_testBit_eq
    intro i
    rw [Nat.testBit_and, Nat.testBit_xor, xor_sub hp, show (4294967295 : Nat) = 2 ^ 32 - 1 from rfl, Nat.testBit_two_pow_sub_one]
    by_cases hi : i < 32
    · rw [decide_eq_true hi]; simp
    · rw [Nat.testBit_lt_two_pow (Nat.lt_of_lt_of_le hS (Nat.pow_le_pow_right (by decide) (by omega)))]; simp
  rw [e, nI_toInt (Nat.xor_lt_two_pow hS hp31)]
