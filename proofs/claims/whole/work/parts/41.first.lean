abbrev CUS : Type := List (Nat × ((Nat → Int) → Bool))
/-- the cell c holds these CLAUSES: letters (by their places in FfMmPQSD), meanings -/
def CuIs (g : GG) (c : Nat) (K : CUS) : Prop :=
  g c 6 = (K.length : Int) ∧ K.length ≤ 12 ∧ (∀ j, j < 160 → 0 ≤ g (c + 4) j ∧ g (c + 4) j ≤ 100000) ∧
  ∀ (j : Nat) (q : Nat × ((Nat → Int) → Bool)), K[j]? = some q → g (c + 1) j = (q.1 : Int) ∧ q.1 < 8 ∧ ∃ fr to : Nat, (fr : Int) = (if j = 0 then 0 else g (c + 2) (j - 1)) ∧ (to : Int) = g (c + 2) j ∧ to ≤ 160 ∧ ∀ env, hC (g (c + 3)) (g (c + 4)) env to 200 fr [] = q.2 env
/-- the letter of the first CLAUSE that is there and holds -/
def fF (K : CUS) (there : Nat) (env : Nat → Int) : Int := match K.find? (fun q => there.testBit q.1 && q.2 env) with
  | some q => (q.1 : Int)
  | none => -1
section FIRST
variable {g z : GG} {r : RR}
theorem c_X2_firstFor (hr : RS r) (c : Nat) (hc : isCu c) (K : CUS) (hK : CuIs g c K) (th : Nat) (hth : th < 256) : CT (mX2_firstFor (rmD 2 0 0)) 0 0 shW [vR (some c), vR (some 37), vI (th : Int)] g z r (qG shW z r fun v g' => v = some (vI (fF K th (g 37))) ∧ ∃ o, g' = upC g (c + 5) o) := by
  obtain ⟨hk6, hk12, hkv, hkc⟩ := hK
  refine CT.of 2 rfl rfl ?_
  generalize hX : fF K th (g 37) = X
  generalize hQ : (qG shW z r fun v g' => v = some (vI X) ∧ ∃ o, g' = upC g (c + 5) o) = Q
  have n0 : c ≠ c + 5 := by omega
  have n1 : c + 1 ≠ c + 5 := by omega
  have n2 : c + 2 ≠ c + 5 := by omega
  have n3 : c + 3 ≠ c + 5 := by omega
  have n4 : c + 4 ≠ c + 5 := by omega
  have n37 : (37 : Nat) ≠ c + 5 := by rcases hc with rfl | rfl | rfl | rfl | rfl <;> decide
  have loop : ∀ (n k : Nat) (o : Nat → Int) (fr : Int), k + n = K.length → fr = (if k = 0 then 0 else g (c + 2) (k - 1)) → fF (K.drop k) th (g 37) = X → RJ (mX2_firstFor (rmD 2 0 0)) 0 0 shW.length Q 0 0 shW 5 [some (vR (some c)), some (vR (some 37)), some (vI ((th : Int))), some (vI (fr)), some (vI ((k : Int)))] [] (upC g (c + 5) o) z r := by
    intro n
    induction n with
    | zero =>
      intro k o fr hkn hfr hx
      rw [List.drop_of_length_le (by omega)] at hx
      refine R_iload dX2_firstFor_5 rfl ?_
      refine R_aload_n dX2_firstFor_7 rfl ?_
      refine R_getI fd2_6 kf2_31 (isCu_sh hc) dX2_firstFor_8 ?_
      rw [upC_far n0, hk6]
      refine R_icmp_ge 67 dX2_firstFor_11 (by decide) (fun hc11 => ?_) (fun hc11 => ?_)
      · refine R_iconst dX2_firstFor_67 rfl rfl ?_
        refine R_ireturn rfl (by first | rfl | exact nar_b2i | exact nar_bi) (by decide) (by decide) dX2_firstFor_68 ?_
        rw [← hQ]
        exact ⟨⟨by rw [← hx]; rfl, o, rfl⟩, rfl, rfl, rfl⟩
      · exact absurd (by omega) hc11
    | succ n ih =>
      intro k o fr hkn hfr hx
      have hkl : k < K.length := by omega
      obtain ⟨q, hq⟩ : ∃ q, K[k]? = some q := ⟨_, List.getElem?_eq_getElem hkl⟩
      have hqe : K[k] = q := by rw [List.getElem?_eq_getElem hkl] at hq; exact Option.some.inj hq
      obtain ⟨hl1, hl8, fr', to, hf1, hf2, hto, hmean⟩ := hkc k q hq
      rw [← hfr] at hf1
      rw [List.drop_eq_getElem_cons hkl, hqe] at hx
      have hbit := bit_n (m := th) (i := q.1) (by omega) (by omega)
      have tail : ∀ (o' : Nat → Int), (th.testBit q.1 && q.2 (g 37)) = false → RJ (mX2_firstFor (rmD 2 0 0)) 0 0 shW.length Q 0 0 shW 53 [some (vR (some c)), some (vR (some 37)), some (vI ((th : Int))), some (vI (fr)), some (vI ((k : Int)))] [] (upC g (c + 5) o') z r := by
        intro o' hno
        refine R_aload_n dX2_firstFor_53 rfl ?_
        refine R_getR _ (isCu_r1 hr hc) fd2_1 kf2_15 (isCu_sh hc) dX2_firstFor_54 ?_
        refine R_iload dX2_firstFor_57 rfl ?_
        refine R_iald (isCu_s2 hc) (by omega) (by omega) dX2_firstFor_59 ?_
        rw [upC_far n2, Int.toNat_natCast]
        refine R_istore_n dX2_firstFor_60 (by decide) rfl [_, _, _, _, _] rfl ?_
        refine R_iincN dX2_firstFor_61 rfl (by decide) rfl (by unfold inI; omega) [_, _, _, _, _] rfl ?_
        refine R_goto 5 dX2_firstFor_64 (by decide) ?_
        refine ih (k + 1) o' _ (by omega) (by simp) ?_
        rw [← hx, fF, fF, List.find?_cons, hno]
      refine R_iload dX2_firstFor_5 rfl ?_
      refine R_aload_n dX2_firstFor_7 rfl ?_
      refine R_getI fd2_6 kf2_31 (isCu_sh hc) dX2_firstFor_8 ?_
      rw [upC_far n0, hk6]
      refine R_icmp_ge 67 dX2_firstFor_11 (by decide) (fun hc11 => ?_) (fun hc11 => ?_)
      · exact absurd hc11 (by omega)
      refine R_iload_n dX2_firstFor_14 rfl ?_
      refine R_aload_n dX2_firstFor_15 rfl ?_
      refine R_getR _ (isCu_r0 hr hc) fd2_0 kf2_9 (isCu_sh hc) dX2_firstFor_16 ?_
      refine R_iload dX2_firstFor_19 rfl ?_
      refine R_iald (isCu_s1 hc) (by omega) (by omega) dX2_firstFor_21 ?_
      rw [upC_far n1, Int.toNat_natCast, hl1]
      refine R_ishr dX2_firstFor_22 ?_
      refine R_iconst dX2_firstFor_23 rfl rfl ?_
      refine R_iand dX2_firstFor_24 ?_
      rw [hbit]
      by_cases ht : th.testBit q.1 = true
      · rw [if_pos ht]
        refine R_iconst dX2_firstFor_25 rfl rfl ?_
        refine R_icmp_ne 53 dX2_firstFor_26 (by decide) (fun hc26 => ?_) (fun hc26 => ?_)
        · exact absurd rfl hc26
        refine R_aload_n dX2_firstFor_29 rfl ?_
        refine R_iload_n dX2_firstFor_30 rfl ?_
        refine R_aload_n dX2_firstFor_31 rfl ?_
        refine R_getR _ (isCu_r1 hr hc) fd2_1 kf2_15 (isCu_sh hc) dX2_firstFor_32 ?_
        refine R_iload dX2_firstFor_35 rfl ?_
        refine R_iald (isCu_s2 hc) (by omega) (by omega) dX2_firstFor_37 ?_
        rw [upC_far n2, Int.toNat_natCast, ← hf2, ← hf1]
        refine R_aload_n dX2_firstFor_38 rfl ?_
        refine R_callV (c_X2_holds hr c hc fr' to hto (fun j hj => by rw [upC_far n4]; exact hkv j (by omega))) (mvX2_holds _) kiX2_holds kvX2_holds km2_34 (isCu_sh hc) rfl (by decide) ⟨rfl, rfl, by decide, by decide⟩ (Nat.le_of_ble_eq_true rfl) dX2_firstFor_39 (fun v1 sh1 g1 z1 r1 hq => ?_)
        obtain ⟨⟨rfl, o2, rfl⟩, rfl, rfl, rfl⟩ := hq
        have e3 : (upC g (c + 5) o) (c + 3) = g (c + 3) := by funext j; exact upC_far n3
        have e4 : (upC g (c + 5) o) (c + 4) = g (c + 4) := by funext j; exact upC_far n4
        have e37 : (upC g (c + 5) o) 37 = g 37 := by funext j; exact upC_far n37
        have eup : upC (upC g (c + 5) o) (c + 5) o2 = upC g (c + 5) o2 := by funext a b; simp only [upC]; split <;> rfl
        rw [e3, e4, e37, eup, hmean]
        by_cases hm : q.2 (g 37) = true
        · rw [bi_t hm]
          refine R_if_eq 53 dX2_firstFor_42 (by decide) (fun hc42 => ?_) (fun hc42 => ?_)
          · exact absurd hc42 (by decide)
          refine R_aload_n dX2_firstFor_45 rfl ?_
          refine R_getR _ (isCu_r0 hr hc) fd2_0 kf2_9 (isCu_sh hc) dX2_firstFor_46 ?_
          refine R_iload dX2_firstFor_49 rfl ?_
          refine R_iald (isCu_s1 hc) (by omega) (by omega) dX2_firstFor_51 ?_
          rw [upC_far n1, Int.toNat_natCast, hl1]
          refine R_ireturn rfl (by first | rfl | exact nar_b2i | exact nar_bi) (by decide) (by decide) dX2_firstFor_52 ?_
          rw [← hQ]
          exact ⟨⟨by rw [← hx, fF, List.find?_cons, ht, hm]; rfl, o2, rfl⟩, rfl, rfl, rfl⟩
        · rw [bi_f hm]
          refine R_if_eq 53 dX2_firstFor_42 (by decide) (fun hc42 => ?_) (fun hc42 => ?_)
          · rw [hf1]
            exact tail o2 (by rw [Bool.eq_false_iff.mpr hm, Bool.and_false])
          · exact absurd rfl hc42
      · rw [if_neg ht]
        refine R_iconst dX2_firstFor_25 rfl rfl ?_
        refine R_icmp_ne 53 dX2_firstFor_26 (by decide) (fun hc26 => ?_) (fun hc26 => ?_)
        · exact tail o (by rw [Bool.eq_false_iff.mpr ht, Bool.false_and])
        · exact absurd hc26 (by decide)
  refine R_iconst dX2_firstFor_0 rfl rfl ?_
  refine R_istore_n dX2_firstFor_1 (by decide) rfl [_, _, _, _, _] rfl ?_
  refine R_iconst dX2_firstFor_2 rfl rfl ?_
  refine R_istore dX2_firstFor_3 (by decide) rfl [_, _, _, _, _] rfl ?_
  have h := loop K.length 0 (g (c + 5)) 0 (by omega) (by simp) (by simpa using hX)
  rw [upC_self] at h
  exact h
end FIRST
