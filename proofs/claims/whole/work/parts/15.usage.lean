def isCu (c : Nat) : Prop := c = 24 ∨ c = 50 ∨ c = 56 ∨ c = 62 ∨ c = 68
theorem isCu_sh {c : Nat} (h : isCu c) : shW[c]? = some (2, 7) := by rcases h with rfl | rfl | rfl | rfl | rfl <;> rfl
theorem isCu_r0 {c : Nat} {r : RR} (hr : RS r) (h : isCu c) : r c 0 = some (c + 1) := by rcases h with rfl | rfl | rfl | rfl | rfl <;> exact hr _ _ _ rfl
theorem isCu_r1 {c : Nat} {r : RR} (hr : RS r) (h : isCu c) : r c 1 = some (c + 2) := by rcases h with rfl | rfl | rfl | rfl | rfl <;> exact hr _ _ _ rfl
theorem isCu_r2 {c : Nat} {r : RR} (hr : RS r) (h : isCu c) : r c 2 = some (c + 3) := by rcases h with rfl | rfl | rfl | rfl | rfl <;> exact hr _ _ _ rfl
theorem isCu_r3 {c : Nat} {r : RR} (hr : RS r) (h : isCu c) : r c 3 = some (c + 4) := by rcases h with rfl | rfl | rfl | rfl | rfl <;> exact hr _ _ _ rfl
theorem isCu_r4 {c : Nat} {r : RR} (hr : RS r) (h : isCu c) : r c 4 = some (c + 5) := by rcases h with rfl | rfl | rfl | rfl | rfl <;> exact hr _ _ _ rfl
theorem isCu_s1 {c : Nat} (h : isCu c) : shW[c + 1]? = some (15, 12) := by rcases h with rfl | rfl | rfl | rfl | rfl <;> rfl
theorem isCu_s2 {c : Nat} (h : isCu c) : shW[c + 2]? = some (15, 12) := by rcases h with rfl | rfl | rfl | rfl | rfl <;> rfl
theorem isCu_s3 {c : Nat} (h : isCu c) : shW[c + 3]? = some (15, 160) := by rcases h with rfl | rfl | rfl | rfl | rfl <;> rfl
theorem isCu_s4 {c : Nat} (h : isCu c) : shW[c + 4]? = some (15, 160) := by rcases h with rfl | rfl | rfl | rfl | rfl <;> rfl
theorem isCu_s5 {c : Nat} (h : isCu c) : shW[c + 5]? = some (15, 16) := by rcases h with rfl | rfl | rfl | rfl | rfl <;> rfl
/-- the cell of CUSTOM k -/
def tc (r : RR) (k : Nat) : Nat := (r 21 k).getD 0
def TL (r : RR) : Prop := ∀ k, k < 4 → isCu (tc r k) ∧ r 21 k = some (tc r k)
/-- how many CLAUSES -/
def nCl (g : GG) (r : RR) (k : Int) : Int := if 0 ≤ k ∧ k < 4 then g (tc r k.toNat) 6 else 0
section USG
variable {g z : GG} {r : RR}
theorem c_X9_clausesOf (hT : TL r) (u : Nat) (hu : shW[u]? = some (9, 4)) (hru : r u 0 = some 21) (k : Int) : CT (mX9_clausesOf (rmD 0 0 0)) 0 0 shW [vR (some u), vI k] g z r (qP shW g z r (some (vI (nCl g r k)))) := by
  refine CT.of 0 rfl rfl ?_
  by_cases h : 0 ≤ k ∧ k < 4
  · obtain ⟨hc, hk⟩ := hT k.toNat (by omega)
    rw [nCl, if_pos h]
    refine R_iload_n dX9_clausesOf_0 rfl ?_
    refine R_if_lt 34 dX9_clausesOf_1 (by decide) (fun hc1 => ?_) (fun hc1 => ?_)
    · exact absurd hc1 (by omega)
    refine R_iload_n dX9_clausesOf_4 rfl ?_
    refine R_aload_n dX9_clausesOf_5 rfl ?_
    refine R_getR _ (hru) fd9_0 kf9_21 hu dX9_clausesOf_6 ?_
    refine R_alen18 rfl (by decide) dX9_clausesOf_9 ?_
    refine R_icmp_ge 34 dX9_clausesOf_10 (by decide) (fun hc10 => ?_) (fun hc10 => ?_)
    · exact absurd hc10 (by omega)
    refine R_aload_n dX9_clausesOf_13 rfl ?_
    refine R_getR _ (hru) fd9_0 kf9_21 hu dX9_clausesOf_14 ?_
    refine R_iload_n dX9_clausesOf_17 rfl ?_
    refine R_aald _ (hk) rfl (by omega) (by omega) dX9_clausesOf_18 ?_
    refine R_ifnull 34 dX9_clausesOf_19 (by decide) (fun hc19 => ?_) (fun x19 hc19 => ?_)
    · exact absurd hc19 (by simp)
    refine R_aload_n dX9_clausesOf_22 rfl ?_
    refine R_getR _ (hru) fd9_0 kf9_21 hu dX9_clausesOf_23 ?_
    refine R_iload_n dX9_clausesOf_26 rfl ?_
    refine R_aald _ (hk) rfl (by omega) (by omega) dX9_clausesOf_27 ?_
    refine R_getI fd2_6 kf9_25 (isCu_sh hc) dX9_clausesOf_28 ?_
    refine R_goto 35 dX9_clausesOf_31 (by decide) ?_
    refine R_ireturn rfl (by rfl) (by decide) (by decide) dX9_clausesOf_35 ?_
    exact ⟨rfl, rfl, rfl, rfl, rfl⟩
  · rw [nCl, if_neg h]
    refine R_iload_n dX9_clausesOf_0 rfl ?_
    refine R_if_lt 34 dX9_clausesOf_1 (by decide) (fun hc1 => ?_) (fun hc1 => ?_)
    · refine R_iconst dX9_clausesOf_34 rfl rfl ?_
      refine R_ireturn rfl (by rfl) (by decide) (by decide) dX9_clausesOf_35 ?_
      exact ⟨rfl, rfl, rfl, rfl, rfl⟩
    refine R_iload_n dX9_clausesOf_4 rfl ?_
    refine R_aload_n dX9_clausesOf_5 rfl ?_
    refine R_getR _ (hru) fd9_0 kf9_21 hu dX9_clausesOf_6 ?_
    refine R_alen18 rfl (by decide) dX9_clausesOf_9 ?_
    refine R_icmp_ge 34 dX9_clausesOf_10 (by decide) (fun hc10 => ?_) (fun hc10 => ?_)
    · refine R_iconst dX9_clausesOf_34 rfl rfl ?_
      refine R_ireturn rfl (by rfl) (by decide) (by decide) dX9_clausesOf_35 ?_
      exact ⟨rfl, rfl, rfl, rfl, rfl⟩
    · exact absurd hc10 (by omega)
theorem c_X9_isTold (hT : TL r) (u : Nat) (hu : shW[u]? = some (9, 4)) (hru : r u 0 = some 21) (k : Int) : CT (mX9_isTold (rmD 1 0 0)) 0 0 shW [vR (some u), vI k] g z r (qP shW g z r (some (vI (b2i (0 < nCl g r k))))) := by
  refine CT.of 0 rfl rfl ?_
  refine R_aload_n dX9_isTold_0 rfl ?_
  refine R_iload_n dX9_isTold_1 rfl ?_
  refine R_callV (c_X9_clausesOf hT u hu hru k) (mvX9_clausesOf _) kiX9_clausesOf kvX9_clausesOf km9_30 hu rfl (by decide) ⟨rfl, rfl, by decide, by decide⟩ (by decide) dX9_isTold_2 (fun v1 sh1 g1 z1 r1 hq => ?_)
  obtain ⟨rfl, rfl, rfl, rfl, rfl⟩ := hq
  refine R_if_le 12 dX9_isTold_5 (by decide) (fun hc5 => ?_) (fun hc5 => ?_)
  · try simp only [b2i_z, bi_z, ne_eq, Classical.not_not] at hc5
    refine R_iconst dX9_isTold_12 rfl rfl ?_
    refine R_ireturn rfl (by rfl) (by decide) (by decide) dX9_isTold_13 ?_
    first | exact ⟨by rw [b2i_f (by omega)], rfl, rfl, rfl, rfl⟩ | exact ⟨by rw [b2i_t (by omega)], rfl, rfl, rfl, rfl⟩
  · try simp only [b2i_z, bi_z, ne_eq, Classical.not_not] at hc5
    refine R_iconst dX9_isTold_8 rfl rfl ?_
    refine R_goto 13 dX9_isTold_9 (by decide) ?_
    refine R_ireturn rfl (by rfl) (by decide) (by decide) dX9_isTold_13 ?_
    first | exact ⟨by rw [b2i_f (by omega)], rfl, rfl, rfl, rfl⟩ | exact ⟨by rw [b2i_t (by omega)], rfl, rfl, rfl, rfl⟩
theorem c_X9_anyTold (hT : TL r) (u : Nat) (hu : shW[u]? = some (9, 4)) (hru : r u 0 = some 21) : CT (mX9_anyTold (rmD 2 0 0)) 0 0 shW [vR (some u)] g z r (qP shW g z r (some (vI (b2i (0 < nCl g r 0 ∨ 0 < nCl g r 1 ∨ 0 < nCl g r 2 ∨ 0 < nCl g r 3))))) := by
  refine CT.of 1 rfl rfl ?_
  generalize hQ : (qP shW g z r (some (vI (b2i (0 < nCl g r 0 ∨ 0 < nCl g r 1 ∨ 0 < nCl g r 2 ∨ 0 < nCl g r 3))))) = Q
  have loop : ∀ (n i : Nat), i + n = 4 → (∀ j : Nat, j < i → ¬ 0 < nCl g r j) → RJ (mX9_anyTold (rmD 2 0 0)) 0 0 shW.length Q 0 0 shW 2 [some (vR (some u)), some (vI ((i : Int)))] [] g z r := by
    intro n
    induction n with
    | zero =>
      intro i hi h
      refine R_iload_n dX9_anyTold_2 rfl ?_
      refine R_aload_n dX9_anyTold_3 rfl ?_
      refine R_getR _ (hru) fd9_0 kf9_21 hu dX9_anyTold_4 ?_
      refine R_alen18 rfl (by decide) dX9_anyTold_7 ?_
      refine R_icmp_ge 27 dX9_anyTold_8 (by decide) (fun hc8 => ?_) (fun hc8 => ?_)
      · refine R_iconst dX9_anyTold_27 rfl rfl ?_
        refine R_ireturn rfl (by rfl) (by decide) (by decide) dX9_anyTold_28 ?_
        rw [← hQ]
        have h0 := h 0 (by omega); have h1 := h 1 (by omega); have h2 := h 2 (by omega); have h3 := h 3 (by omega)
        exact ⟨by rw [b2i_f (fun q => by rcases q with q | q | q | q; exact h0 q; exact h1 q; exact h2 q; exact h3 q)], rfl, rfl, rfl, rfl⟩
      · exact absurd (by omega) hc8
    | succ n ih =>
      intro i hi h
      refine R_iload_n dX9_anyTold_2 rfl ?_
      refine R_aload_n dX9_anyTold_3 rfl ?_
      refine R_getR _ (hru) fd9_0 kf9_21 hu dX9_anyTold_4 ?_
      refine R_alen18 rfl (by decide) dX9_anyTold_7 ?_
      refine R_icmp_ge 27 dX9_anyTold_8 (by decide) (fun hc8 => ?_) (fun hc8 => ?_)
      · exact absurd hc8 (by omega)
      refine R_aload_n dX9_anyTold_11 rfl ?_
      refine R_iload_n dX9_anyTold_12 rfl ?_
      refine R_callV (c_X9_isTold hT u hu hru (i : Int)) (mvX9_isTold _) kiX9_isTold kvX9_isTold km9_34 hu rfl (by decide) ⟨rfl, rfl, by decide, by decide⟩ (by decide) dX9_anyTold_13 (fun v1 sh1 g1 z1 r1 hq => ?_)
      obtain ⟨rfl, rfl, rfl, rfl, rfl⟩ := hq
      by_cases hp : 0 < nCl g r (i : Int)
      · rw [b2i_t hp]
        refine R_if_eq 21 dX9_anyTold_16 (by decide) (fun hc16 => ?_) (fun hc16 => ?_)
        · exact absurd hc16 (by decide)
        refine R_iconst dX9_anyTold_19 rfl rfl ?_
        refine R_ireturn rfl (by rfl) (by decide) (by decide) dX9_anyTold_20 ?_
        rw [← hQ]
        refine ⟨congrArg (fun x => some (vI x)) (b2i_t ?_).symm, rfl, rfl, rfl, rfl⟩
        have : i = 0 ∨ i = 1 ∨ i = 2 ∨ i = 3 := by omega
        rcases this with rfl | rfl | rfl | rfl
        · exact Or.inl hp
        · exact Or.inr (Or.inl hp)
        · exact Or.inr (Or.inr (Or.inl hp))
        · exact Or.inr (Or.inr (Or.inr hp))
      · rw [b2i_f hp]
        refine R_if_eq 21 dX9_anyTold_16 (by decide) (fun hc16 => ?_) (fun hc16 => ?_)
        · refine R_iincN dX9_anyTold_21 rfl (by decide) rfl (by unfold inI; omega) [_, _] rfl ?_
          refine R_goto 2 dX9_anyTold_24 (by decide) ?_
          exact ih (i + 1) (by omega) (fun j hj => by
            by_cases hji : j = i
            · subst hji; exact hp
            · exact h j (by omega))
        · exact absurd rfl hc16
  refine R_iconst dX9_anyTold_0 rfl rfl ?_
  refine R_istore_n dX9_anyTold_1 (by decide) rfl [_, _] rfl ?_
  exact loop 4 0 (by omega) (fun j hj => absurd hj (by omega))
/-- which CUSTOM a YEAR has: its cell, or none -/
def inY (g : GG) (r : RR) (u : Nat) (y : Int) : Option Nat := let k := if y < g u 3 then g u 1 else g u 2; if 0 < nCl g r k then some (tc r k.toNat) else none
theorem c_X9_inYear (hT : TL r) (u : Nat) (hu : shW[u]? = some (9, 4)) (hru : r u 0 = some 21) (y : Int) : CT (mX9_inYear (rmD 2 0 0)) 0 0 shW [vR (some u), vI y] g z r (qP shW g z r (some (vR (inY g r u y)))) := by
  refine CT.of 1 rfl rfl ?_
  generalize hQ : (qP shW g z r (some (vR (inY g r u y)))) = Q
  have tail : ∀ k : Int, k = (if y < g u 3 then g u 1 else g u 2) → RJ (mX9_inYear (rmD 2 0 0)) 0 0 shW.length Q 0 0 shW 20 [some (vR (some u)), some (vI (y)), some (vI (k))] [] g z r := by
    intro k hk
    refine R_aload_n dX9_inYear_20 rfl ?_
    refine R_iload_n dX9_inYear_21 rfl ?_
    refine R_callV (c_X9_isTold hT u hu hru k) (mvX9_isTold _) kiX9_isTold kvX9_isTold km9_34 hu rfl (by decide) ⟨rfl, rfl, by decide, by decide⟩ (by decide) dX9_inYear_22 (fun v1 sh1 g1 z1 r1 hq => ?_)
    obtain ⟨rfl, rfl, rfl, rfl, rfl⟩ := hq
    by_cases hp : 0 < nCl g r k
    · rw [b2i_t hp]
      have h4 : 0 ≤ k ∧ k < 4 := by
        by_cases h4 : 0 ≤ k ∧ k < 4
        · exact h4
        · rw [nCl, if_neg h4] at hp; exact absurd hp (by omega)
      obtain ⟨hc, hrk⟩ := hT k.toNat (by omega)
      refine R_if_eq 37 dX9_inYear_25 (by decide) (fun hc25 => ?_) (fun hc25 => ?_)
      · exact absurd hc25 (by decide)
      refine R_aload_n dX9_inYear_28 rfl ?_
      refine R_getR _ (hru) fd9_0 kf9_21 hu dX9_inYear_29 ?_
      refine R_iload_n dX9_inYear_32 rfl ?_
      refine R_aald _ (hrk) rfl (by omega) (by omega) dX9_inYear_33 ?_
      refine R_goto 38 dX9_inYear_34 (by decide) ?_
      refine R_areturn rfl (by first | exact Or.inl ⟨_, rfl⟩ | exact Or.inr ⟨_, rfl⟩) (by decide) (by decide) dX9_inYear_38 ?_
      rw [← hQ]
      exact ⟨by rw [inY, ← hk]; simp only [hp, if_true], rfl, rfl, rfl, rfl⟩
    · rw [b2i_f hp]
      refine R_if_eq 37 dX9_inYear_25 (by decide) (fun hc25 => ?_) (fun hc25 => ?_)
      · refine R_aconst_null dX9_inYear_37 ?_
        refine R_areturn rfl (by first | exact Or.inl ⟨_, rfl⟩ | exact Or.inr ⟨_, rfl⟩) (by decide) (by decide) dX9_inYear_38 ?_
        rw [← hQ]
        exact ⟨by rw [inY, ← hk]; simp only [hp, if_false], rfl, rfl, rfl, rfl⟩
      · exact absurd rfl hc25
  refine R_iload_n dX9_inYear_0 rfl ?_
  refine R_aload_n dX9_inYear_1 rfl ?_
  refine R_getI fd9_3 kf9_18 hu dX9_inYear_2 ?_
  refine R_icmp_ge 15 dX9_inYear_5 (by decide) (fun hc5 => ?_) (fun hc5 => ?_)
  · refine R_aload_n dX9_inYear_15 rfl ?_
    refine R_getI fd9_2 kf9_15 hu dX9_inYear_16 ?_
    refine R_istore_n dX9_inYear_19 (by decide) rfl [_, _, _] rfl ?_
    exact tail _ (by rw [if_neg (by omega)])
  · refine R_aload_n dX9_inYear_8 rfl ?_
    refine R_getI fd9_1 kf9_9 hu dX9_inYear_9 ?_
    refine R_goto 19 dX9_inYear_12 (by decide) ?_
    refine R_istore_n dX9_inYear_19 (by decide) rfl [_, _, _] rfl ?_
    exact tail _ (by rw [if_pos (by omega)])
end USG
