/-- POINTS of the FAMILIES of the first c COUPLES, by sets S -/
def wpU (s : VW) (K : Nat → CUS) (a b Y : Int) (S : Nat → Nat) : Nat → Int
  | 0 => 0
  | c + 1 => wpU s K a b Y S c + (match fam s c (S c) with | some l => ptS s K a b Y c l | none => -1000000)
/-- POINTS of a WAY told by sets -/
def wpS (s : VW) (K : Nat → CUS) (a b Y : Int) (S : Nat → Nat) : Int := -(s 0 4) * (popS (S 6) : Int) + wpU s K a b Y S (s 0 1).toNat
def setsR (s : VW) (T : Nat → Int) : Nat → Nat := fun c => setR T (c : Int) (s 0 2).toNat
theorem popS_le (b : Nat) : popS b ≤ 10 := by
  have : ∀ n, cnt1 b n ≤ n := by
    intro n
    induction n with
    | zero => simp [cnt1]
    | succ n ih => unfold cnt1; split <;> omega
  exact this 10
theorem brk_none {s : VW} {T : Nat → Int} {n : Nat} (h : brkF s T 0 n = none) (c : Nat) (hc : c < n) : ∃ l, fam s c (setR T (c : Int) (s 0 2).toNat) = some l := by
  have := List.find?_eq_none.mp h c (by rw [List.mem_range'_1]; omega)
  cases hf : fam s c (setR T (c : Int) (s 0 2).toNat) with
  | none => rw [hf] at this; simp at this
  | some l => exact ⟨l, rfl⟩
theorem way_ok {s : VW} {T : Nat → Int} (h : wayF s T = 0) : (∀ i, i < (s 0 2).toNat → canR s T i = true) ∧ brkF s T 0 (s 0 1).toNat = none := by
  unfold wayF at h
  cases hs : strF s T (s 0 2).toNat with
  | some i => rw [hs] at h; simp only at h; exact absurd h (by omega)
  | none =>
    rw [hs] at h
    simp only at h
    refine ⟨fun i hi => by have := List.find?_eq_none.mp hs i (List.mem_range.mpr hi); simpa using this, ?_⟩
    cases hb : brkF s T 0 (s 0 1).toNat with
    | some c => rw [hb] at h; simp only at h; exact absurd h (by omega)
    | none => rfl
section JUDGE
variable {g z : GG} {r : RR}
theorem ptS_b {g : GG} (h : BD2 g) (K : Nat → CUS) (a b Y : Int) (c : Nat) (l : List Nat) (hl : l.length ≤ 10) : -1000 ≤ ptS (vC g) K a b Y c l ∧ ptS (vC g) K a b Y c l ≤ 1000 := by
  have := ptU_b h (ltS (vC g) K a b Y c l) c l l.length
  unfold ptS
  omega
theorem wpU_b {K : Nat → CUS} (H : FP g r K) (a b Y : Int) (S : Nat → Nat) : ∀ c, (∀ c', c' < c → ∃ l, fam (vC g) c' (S c') = some l) → -1000 * (c : Int) ≤ wpU (vC g) K a b Y S c ∧ wpU (vC g) K a b Y S c ≤ 1000 * (c : Int) := by
  obtain ⟨hr, hT, hB, hB2, hN, hC5, hF, ho, hK⟩ := id H
  intro c
  induction c with
  | zero => intro _; simp [wpU]
  | succ c ih =>
    intro h
    have h1 := ih (fun c' hc' => h c' (by omega))
    obtain ⟨l, hl⟩ := h c (by omega)
    have hll : l.length ≤ 10 := by have h1 := fam_len hl; have h2 : (vC g) 0 2 = g 11 7 := rfl; rw [h2] at h1; omega
    have h2 := ptS_b hB2 K a b Y c l hll
    unfold wpU
    rw [hl]
    simp only
    omega
theorem c_X7_worthBy (K : Nat → CUS) (H : FP g r K) (hA : 0 ≤ g 1 4 ∧ g 1 4 ≤ 1000) (S : Nat → Nat) (hS : ∀ c, c ≤ 6 → g 40 c = (S c : Int)) (hS2 : ∀ c, c ≤ 6 → S c < 1024) (hfam : ∀ c : Nat, (c : Int) < g 5 5 → ∃ l, fam (vC g) c (S c) = some l) (u : Nat) (hu : u = 30 ∨ u = 31) : CT (mX7_worthBy (rmD 6 0 0)) 0 0 shW [vR (some 39), vR (some u)] g z r (qG shW z r fun v g' => v = some (vI (wpS (vC g) K (g u 1) (g u 2) (g u 3) S)) ∧ SC g g') := by
  obtain ⟨hr, hT, hB, hB2, hN, hC5, hF, ho, hK⟩ := id H
  refine CT.of 2 rfl rfl ?_
  generalize hQ : (qG shW z r fun v g' => v = some (vI (wpS (vC g) K (g u 1) (g u 2) (g u 3) S)) ∧ SC g g') = Q
  have hp := popS_le (S 6)
  have hal : -10000 ≤ -(g 1 4) * (popS (S 6) : Int) ∧ -(g 1 4) * (popS (S 6) : Int) ≤ 0 := by
    have h1 : g 1 4 * (popS (S 6) : Int) ≤ 1000 * 10 := Int.mul_le_mul hA.2 (by omega) (by omega) (by omega)
    have h2 : 0 ≤ g 1 4 * (popS (S 6) : Int) := Int.mul_nonneg hA.1 (by omega)
    rw [Int.neg_mul]
    omega
  have loop : ∀ (n c : Nat) (g' : GG), (c : Int) + n = g 5 5 → SC g g' → RJ (mX7_worthBy (rmD 6 0 0)) 0 0 shW.length Q 0 0 shW 22 [some (vR (some 39)), some (vR (some u)), some (vI (-(g 1 4) * (popS (S 6) : Int) + wpU (vC g) K (g u 1) (g u 2) (g u 3) S c)), some (vI ((c : Int)))] [] g' z r := by
    intro n
    induction n with
    | zero =>
      intro c g' hc s1
      refine R_iload_n dX7_worthBy_22 rfl ?_
      refine R_aload_n dX7_worthBy_23 rfl ?_
      refine R_getR _ (hr _ _ _ rfl) fd7_0 kf7_15 rfl dX7_worthBy_24 ?_
      refine R_getR _ (hr _ _ _ rfl) fd0_1 kf7_41 rfl dX7_worthBy_27 ?_
      refine R_getI fd1_5 kf7_63 rfl dX7_worthBy_30 ?_
      rw [s1 5 (by unfold stc; omega) (by omega)]
      refine R_icmp_ge 60 dX7_worthBy_33 (by decide) (fun hc33 => ?_) (fun hc33 => ?_)
      · refine R_iload_n dX7_worthBy_60 rfl ?_
        refine R_ireturn rfl (by first | rfl | exact nar_b2i | exact nar_bi) (by decide) (by decide) dX7_worthBy_61 ?_
        rw [← hQ]
        refine ⟨⟨?_, s1⟩, rfl, rfl, rfl⟩
        have e1 : (vC g) 0 4 = g 1 4 := rfl
        have e2 : ((vC g) 0 1).toNat = c := by show (g 5 5).toNat = c; omega
        rw [wpS, e1, e2]
      · exact absurd (by omega) hc33
    | succ n ih =>
      intro c g' hc s1
      have hb := wpU_b H (g u 1) (g u 2) (g u 3) S c (fun c' hc' => hfam c' (by omega))
      obtain ⟨l, hl⟩ := hfam c (by omega)
      have hll : l.length ≤ 10 := by have h1 := fam_len hl; have h2 : (vC g) 0 2 = g 11 7 := rfl; rw [h2] at h1; omega
      have hb2 := ptS_b hB2 K (g u 1) (g u 2) (g u 3) c l hll
      have eu : ∀ k, g' u k = g u k := fun k => by rw [s1 u (by unfold stc; omega) (by omega)]
      have hn := fun g' => ih (c + 1) g' (by omega)
      rw [wpU, hl] at hn
      simp only at hn
      refine R_iload_n dX7_worthBy_22 rfl ?_
      refine R_aload_n dX7_worthBy_23 rfl ?_
      refine R_getR _ (hr _ _ _ rfl) fd7_0 kf7_15 rfl dX7_worthBy_24 ?_
      refine R_getR _ (hr _ _ _ rfl) fd0_1 kf7_41 rfl dX7_worthBy_27 ?_
      refine R_getI fd1_5 kf7_63 rfl dX7_worthBy_30 ?_
      rw [s1 5 (by unfold stc; omega) (by omega)]
      refine R_icmp_ge 60 dX7_worthBy_33 (by decide) (fun hc33 => ?_) (fun hc33 => ?_)
      · exact absurd hc33 (by omega)
      refine R_iload_n dX7_worthBy_36 rfl ?_
      refine R_aload_n dX7_worthBy_37 rfl ?_
      refine R_getR _ (hr _ _ _ rfl) fd7_1 kf7_19 rfl dX7_worthBy_38 ?_
      refine R_iload_n dX7_worthBy_41 rfl ?_
      refine R_aload_n dX7_worthBy_42 rfl ?_
      refine R_getR _ (hr _ _ _ rfl) fd7_2 kf7_9 rfl dX7_worthBy_43 ?_
      refine R_iload_n dX7_worthBy_46 rfl ?_
      refine R_iald rfl (by omega) (by omega) dX7_worthBy_47 ?_
      rw [s1 40 (by unfold stc; omega) (by omega), Int.toNat_natCast, hS c (by omega)]
      refine R_aload_n dX7_worthBy_48 rfl ?_
      refine R_callV (c_X3_worth K (H.cong s1) c (S c) (by rw [s1 5 (by unfold stc; omega) (by omega)]; omega) (hS2 c (by omega)) u hu) (mvX3_worth _) kiX3_worth kvX3_worth km7_78 rfl rfl (by decide) ⟨rfl, rfl, by decide, by decide⟩ (Nat.le_of_ble_eq_true rfl) dX7_worthBy_49 (fun v1 sh1 g1 z1 r1 hq => ?_)
      obtain ⟨⟨s2, o3⟩, rfl, rfl, rfl⟩ := hq
      rw [s1.vC, eu, eu, eu] at o3
      rcases o3 with ⟨l', hl', rfl, -⟩ | ⟨hno, -⟩
      · rw [hl] at hl'
        have hll' : l = l' := by injection hl'
        subst hll'
        refine R_iaddN dX7_worthBy_52 (by unfold inI; omega) ?_
        refine R_istore_n dX7_worthBy_53 (by decide) rfl [_, _, _, _] rfl ?_
        refine R_iincN dX7_worthBy_54 rfl (by decide) rfl (by unfold inI; omega) [_, _, _, _] rfl ?_
        refine R_goto 22 dX7_worthBy_57 (by decide) ?_
        rw [Int.add_assoc]
        exact hn g1 (s1.trans s2)
      · rw [hl] at hno; exact absurd hno (by simp)
  refine R_aload_n dX7_worthBy_0 rfl ?_
  refine R_getR _ (hr _ _ _ rfl) fd7_0 kf7_15 rfl dX7_worthBy_1 ?_
  refine R_getI fd0_4 kf7_70 rfl dX7_worthBy_4 ?_
  refine R_inegN dX7_worthBy_7 (by unfold inI; omega) ?_
  refine R_aload_n dX7_worthBy_8 rfl ?_
  refine R_getR _ (hr _ _ _ rfl) fd7_2 kf7_9 rfl dX7_worthBy_9 ?_
  refine R_bipush dX7_worthBy_12 rfl (by decide +kernel) ?_
  refine R_iald rfl (by omega) (by omega) dX7_worthBy_14 ?_
  rw [show (6 : Int).toNat = 6 from rfl, hS 6 (by omega)]
  refine R_callS (c_bitCount (S 6) (hS2 6 (by omega))) (mvJ6_bitCount _) ksJ6 km7_73 ⟨rfl, rfl, by decide, by decide⟩ (Nat.le_of_ble_eq_true rfl) dX7_worthBy_15 (fun v1 sh1 g1 z1 r1 hq => ?_)
  obtain ⟨rfl, rfl, rfl, rfl, rfl⟩ := hq
  refine R_imulN dX7_worthBy_18 (by unfold inI; omega) ?_
  refine R_istore_n dX7_worthBy_19 (by decide) rfl [_, _, _, _] rfl ?_
  refine R_iconst dX7_worthBy_20 rfl rfl ?_
  refine R_istore_n dX7_worthBy_21 (by decide) rfl [_, _, _, _] rfl ?_
  have h := loop (g 5 5).toNat 0 g (by omega) SC.rfl
  rw [wpU, Int.add_zero] at h
  exact h
theorem p_judge (K : Nat → CUS) (H : FP g r K) (hA : 0 ≤ g 1 4 ∧ g 1 4 ≤ 1000) (hT8 : 0 ≤ g 19 1 ∧ g 19 1 ≤ 200) (hTb : ∀ i, 0 ≤ g 20 i ∧ g 20 i ≤ 255) : CT (mX11_judge (rmD 8 0 0)) 0 0 shW [vR (some 0)] g z r (qG shW z r fun v g' => (g 19 1 < g 11 7 ∧ v = some (vI (-1000000)) ∧ g' = g) ∨ (¬ g 19 1 < g 11 7 ∧ v = some (vI (if wayF (vC g) (g 20) = 0 then wpS (vC g) K (g 30 1) (g 30 2) (g 30 3) (setsR (vC g) (g 20)) else wayF (vC g) (g 20))) ∧ DC g g' ∧ (g' 19 = fun k => if k = 1 then 0 else g 19 k) ∧ g' 31 = g 31)) := by
  obtain ⟨hr, hT, hB, hB2, hN, hC5, hF, ho, hK⟩ := id H
  refine CT.of 1 rfl rfl ?_
  refine R_aload_n dX11_judge_0 rfl ?_
  refine R_getR _ (hr _ _ _ rfl) fd11_1 kf11_19 rfl dX11_judge_1 ?_
  refine R_getI fd8_1 kf11_142 rfl dX11_judge_4 ?_
  refine R_aload_n dX11_judge_7 rfl ?_
  refine R_getR _ (hr _ _ _ rfl) fd11_0 kf11_10 rfl dX11_judge_8 ?_
  refine R_getR _ (hr _ _ _ rfl) fd0_2 kf11_111 rfl dX11_judge_11 ?_
  refine R_getI fd4_7 kf11_240 rfl dX11_judge_14 ?_
  refine R_icmp_ge 23 dX11_judge_17 (by decide) (fun hc17 => ?_) (fun hc17 => ?_)
  · refine R_aload_n dX11_judge_23 rfl ?_
    refine R_getR _ (hr _ _ _ rfl) fd11_7 kf11_62 rfl dX11_judge_24 ?_
    refine R_aload_n dX11_judge_27 rfl ?_
    refine R_getR _ (hr _ _ _ rfl) fd11_1 kf11_19 rfl dX11_judge_28 ?_
    refine R_callV (c_X7_take K H (by omega) hTb) (mvX7_take _) kiX7_take kvX7_take km11_241 rfl rfl (by decide) ⟨rfl, rfl, by decide, by decide⟩ (Nat.le_of_ble_eq_true rfl) dX11_judge_31 (fun v1 sh1 g1 z1 r1 hq => ?_)
    obtain ⟨⟨rfl, d1, d19, d31, d40⟩, rfl, rfl, rfl⟩ := hq
    have e5 : g1 5 = g 5 := d1 5 (by unfold stc; omega) (by omega)
    have e1 : g1 1 = g 1 := d1 1 (by unfold stc; omega) (by omega)
    have e30 : g1 30 = g 30 := d1 30 (by unfold stc; omega) (by omega)
    refine R_istore_n dX11_judge_34 (by decide) rfl [_, _] rfl ?_
    refine R_iload_n dX11_judge_35 rfl ?_
    refine R_if_ne 53 dX11_judge_36 (by decide) (fun hc36 => ?_) (fun hc36 => ?_)
    · refine R_iload_n dX11_judge_53 rfl ?_
      refine R_ireturn rfl (by first | rfl | exact nar_b2i | exact nar_bi) (by decide) (by decide) dX11_judge_54 ?_
      exact ⟨Or.inr ⟨by omega, by rw [if_neg hc36], d1, d19, d31⟩, rfl, rfl, rfl⟩
    · have hp : (2 : Nat) ^ (g 11 7).toNat ≤ 2 ^ 10 := Nat.pow_le_pow_right (by decide) (by omega)
      refine R_aload_n dX11_judge_39 rfl ?_
      refine R_getR _ (hr _ _ _ rfl) fd11_7 kf11_62 rfl dX11_judge_40 ?_
      refine R_aload_n dX11_judge_43 rfl ?_
      refine R_getR _ (hr _ _ _ rfl) fd11_4 kf11_41 rfl dX11_judge_44 ?_
      refine R_callV (c_X7_worthBy K (H.congD d1) (by rw [e1]; exact hA) (setsR (vC g) (g 20)) (fun c hc => d40 hc36 c hc) (fun c _ => by have := setR_lt (T := g 20) (c := (c : Int)) (g 11 7).toNat; exact Nat.lt_of_lt_of_le this hp) (fun c hc => by rw [d1.vC]; exact brk_none (way_ok hc36).2 c (by rw [e5] at hc; show c < (g 5 5).toNat; omega)) 30 (Or.inl rfl)) (mvX7_worthBy _) kiX7_worthBy kvX7_worthBy km11_245 rfl rfl (by decide) ⟨rfl, rfl, by decide, by decide⟩ (Nat.le_of_ble_eq_true rfl) dX11_judge_47 (fun v1 sh1 g2 z1 r1 hq => ?_)
      obtain ⟨⟨rfl, s2⟩, rfl, rfl, rfl⟩ := hq
      rw [d1.vC, e30]
      refine R_goto 54 dX11_judge_50 (by decide) ?_
      refine R_ireturn rfl (by first | rfl | exact nar_b2i | exact nar_bi) (by decide) (by decide) dX11_judge_54 ?_
      exact ⟨Or.inr ⟨by omega, by rw [if_pos hc36], d1.trans s2.dc, by rw [s2 19 (by unfold stc; omega) (by omega)]; exact d19, by rw [s2 31 (by unfold stc; omega) (by omega)]; exact d31⟩, rfl, rfl, rfl⟩
  · refine R_ldcC (v := -1000000) kk11_176 (by decide +kernel) dX11_judge_20 (by decide) ?_
    refine R_ireturn rfl (by first | rfl | exact nar_b2i | exact nar_bi) (by decide) (by decide) dX11_judge_22 ?_
    exact ⟨Or.inl ⟨by omega, rfl, rfl⟩, rfl, rfl, rfl⟩
end JUDGE
