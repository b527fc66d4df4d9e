def isBk (c : Int) : Bool := decide (c = 33 ∨ c = 40 ∨ c = 91)
def opN (σ : List Int) : Nat := (σ.filter isBk).length
def MT (tp : Nat → Int) (N : Nat) (g : GG) (s : QS) : Prop := MS tp N g s ∧ s.2.2.1 = opN s.2.1
theorem opN_t {c : Int} {σ : List Int} (h : isBk c = true) : opN (c :: σ) = opN σ + 1 := by unfold opN; rw [List.filter_cons, if_pos h, List.length_cons]
theorem opN_f {c : Int} {σ : List Int} (h : isBk c = false) : opN (c :: σ) = opN σ := by unfold opN; rw [List.filter_cons, h]; rfl
theorem opN_drop {f : Int → Bool} (hf : ∀ x, f x = true → isBk x = false) : ∀ σ : List Int, opN (σ.dropWhile f) = opN σ := by
  intro σ
  induction σ with
  | nil => rfl
  | cons c t ih =>
    rw [List.dropWhile_cons]
    split
    · rename_i h; rw [ih, opN_f (hf c h)]
    · rfl
theorem up2_comm {f : GG} {c k c' k' : Nat} {v v' : Int} (h : c ≠ c' ∨ k ≠ k') : up2 (up2 f c k v) c' k' v' = up2 (up2 f c' k' v') c k v := by
  funext x y
  unfold up2
  by_cases h1 : x = c' ∧ y = k'
  · rw [if_pos h1, if_neg (by omega)]
    rw [if_pos h1]
  · rw [if_neg h1]
    by_cases h2 : x = c ∧ y = k
    · rw [if_pos h2, if_pos h2]
    · rw [if_neg h2, if_neg h2, if_neg h1]
theorem pTm_bk (x : Int) (h : pTm x = true) : isBk x = false := by
  have := okS_3 h
  unfold isBk
  rw [decide_eq_false_iff_not]; omega
theorem pTP_bk (x : Int) (h : pTP x = true) : isBk x = false := by
  rcases Bool.or_eq_true_iff.mp h with q | q
  · exact pTm_bk x q
  · have := okS_2 q
    unfold isBk
    rw [decide_eq_false_iff_not]; omega
theorem pAn_bk (x : Int) (h : pAn x = true) : isBk x = false := by
  have := okS_1 h
  unfold isBk
  rw [decide_eq_false_iff_not]; omega
theorem pAO_bk (x : Int) (h : pAO x = true) : isBk x = false := by
  rcases Bool.or_eq_true_iff.mp h with q | q
  · exact pAn_bk x q
  · have := okS_0 q
    unfold isBk
    rw [decide_eq_false_iff_not]; omega
section MRD2
variable {z : GG} {r : RR} {tp : Nat → Int} {N p o : Nat} {σ : List Int} {C : List (Int × Int)}
theorem MS.popemi {g : GG} {c x a : Int} (h : MS tp N g (p, c :: σ, o, C)) : MS tp N (up2 (emi g C.length x a) 74 41 (σ.length : Int)) (p, σ, o, C ++ [(x, a)]) := by
  have h7 : (c :: σ).length + C.length ≤ p ∧ p ≤ N := h.2.2.2.2.2.2.1
  rw [List.length_cons] at h7
  have := MS_emi (c := x) (a := a) h.pop (by omega)
  have e : emi (up2 g 74 41 (σ.length : Int)) C.length x a = up2 (emi g C.length x a) 74 41 (σ.length : Int) := by
    unfold emi
    rw [up2_comm (c := 74) (k := 41) (c' := 98) (Or.inl (by decide)), up2_comm (c := 74) (k := 41) (c' := 99) (Or.inl (by decide)), up2_comm (c := 74) (k := 41) (c' := 74) (k' := 39) (Or.inr (by decide))]
  rw [e] at this
  exact this
theorem m_sums (hr : RS r) (b : Bool) : ∀ {g : GG}, MS tp N g (p, σ, o, C) → g 74 37 = 0 → CT (mX12_sums (rmD 2 0 0)) 0 0 shW [vR (some 74), vI (bi b)] g z r (qG shW z r fun v g' => v = none ∧ FrM0 g g' ∧ g' 74 37 = 0 ∧ MS tp N g' (p, σ.dropWhile (if b then pTP else pTm), o, C ++ emO (σ.takeWhile (if b then pTP else pTm)))) := by
  intro g h h37
  refine CT.of 0 rfl rfl ?_
  generalize hf : (if b then pTP else pTm) = f
  have hfc : ∀ c, f c = (okS 3 c || (b && okS 2 c)) := fun c => by rw [← hf]; cases b; exact (Bool.or_false _).symm; rfl
  generalize hQ : (qG shW z r fun v g' => v = none ∧ FrM0 g g' ∧ g' 74 37 = 0 ∧ MS tp N g' (p, σ.dropWhile f, o, C ++ emO (σ.takeWhile f))) = Q
  have loop : ∀ (τ : List Int) (C1 : List (Int × Int)) (g1 : GG), MS tp N g1 (p, τ, o, C1) → g1 74 37 = 0 → FrM0 g g1 → τ.dropWhile f = σ.dropWhile f → C1 ++ emO (τ.takeWhile f) = C ++ emO (σ.takeWhile f) → RJ (mX12_sums (rmD 2 0 0)) 0 0 shW.length Q 0 0 shW 0 [some (vR (some 74)), some (vI (bi b))] [] g1 z r := by
    intro τ
    induction τ with
    | nil =>
      intro C1 g1 h1 k1 f1 e1 e2
      refine R_aload_n dX12_sums_0 rfl ?_
      refine R_callV (h1.top hr) (mvX12_top _) kiX12_top kvX12_top km12_250 rfl rfl (by decide) ⟨rfl, rfl, by decide, by decide⟩ (Nat.le_of_ble_eq_true rfl) dX12_sums_1 (fun v1 sh1 g2 z1 r1 hq => ?_)
      obtain ⟨rfl, rfl, rfl, rfl, rfl⟩ := hq
      refine R_callS (m_isTimes (hd0 [])) (mvX12_isTimes _) ksX12_isTimes km12_253 ⟨rfl, rfl, by decide, by decide⟩ (Nat.le_of_ble_eq_true rfl) dX12_sums_4 (fun v1 sh1 g2 z1 r1 hq => ?_)
      obtain ⟨rfl, rfl, rfl, rfl, rfl⟩ := hq
      have fin : RJ (mX12_sums (rmD 2 0 0)) 0 0 shW.length Q 0 0 shW 46 [some (vR (some 74)), some (vI (bi b))] [] g1 z r := by
        refine R_return rfl (by decide) (by decide) dX12_sums_46 ?_
        rw [← hQ]
        refine ⟨⟨rfl, f1, k1, ?_⟩, rfl, rfl, rfl⟩
        rw [← e1, ← e2]
        show MS tp N g1 (p, [], o, C1 ++ [])
        rw [List.append_nil]
        exact h1
      refine R_if_ne 24 dX12_sums_7 (by decide) (fun hc7 => ?_) (fun hc7 => ?_)
      · exact absurd rfl hc7
      cases b with
      | false =>
        refine R_iload_n dX12_sums_10 rfl ?_
        refine R_if_eq 46 dX12_sums_11 (by decide) (fun hc11 => ?_) (fun hc11 => ?_)
        · exact fin
        · exact absurd rfl hc11
      | true =>
        refine R_iload_n dX12_sums_10 rfl ?_
        refine R_if_eq 46 dX12_sums_11 (by decide) (fun hc11 => ?_) (fun hc11 => ?_)
        · exact absurd hc11 (by decide)
        refine R_aload_n dX12_sums_14 rfl ?_
        refine R_callV (h1.top hr) (mvX12_top _) kiX12_top kvX12_top km12_250 rfl rfl (by decide) ⟨rfl, rfl, by decide, by decide⟩ (Nat.le_of_ble_eq_true rfl) dX12_sums_15 (fun v1 sh1 g2 z1 r1 hq => ?_)
        obtain ⟨rfl, rfl, rfl, rfl, rfl⟩ := hq
        refine R_callS (m_isPlus (hd0 [])) (mvX12_isPlus _) ksX12_isPlus km12_256 ⟨rfl, rfl, by decide, by decide⟩ (Nat.le_of_ble_eq_true rfl) dX12_sums_18 (fun v1 sh1 g2 z1 r1 hq => ?_)
        obtain ⟨rfl, rfl, rfl, rfl, rfl⟩ := hq
        refine R_if_eq 46 dX12_sums_21 (by decide) (fun hc21 => ?_) (fun hc21 => ?_)
        · exact fin
        · exact absurd rfl hc21
    | cons c t ih =>
      intro C1 g1 h1 k1 f1 e1 e2
      have h41 : g1 74 41 = ((t.length + 1 : Nat) : Int) := h1.2.2.2.1.1
      have h39 : g1 74 39 = (C1.length : Int) := h1.2.2.2.2.2.1.1
      have hN := h1.2.1.2
      have h7 : (c :: t).length + C1.length ≤ p ∧ p ≤ N := h1.2.2.2.2.2.2.1
      rw [List.length_cons] at h7
      have pop : f c = true → RJ (mX12_sums (rmD 2 0 0)) 0 0 shW.length Q 0 0 shW 24 [some (vR (some 74)), some (vI (bi b))] [] g1 z r := by
        intro hc
        rw [List.dropWhile_cons, hc] at e1
        rw [List.takeWhile_cons, hc] at e2
        have e2 : C1 ++ emO (c :: t.takeWhile f) = C ++ emO (σ.takeWhile f) := e2
        rw [emO_cons] at e2
        refine R_aload_n dX12_sums_24 rfl ?_
        refine R_aload_n dX12_sums_25 rfl ?_
        refine R_callV (h1.top hr) (mvX12_top _) kiX12_top kvX12_top km12_250 rfl rfl (by decide) ⟨rfl, rfl, by decide, by decide⟩ (Nat.le_of_ble_eq_true rfl) dX12_sums_26 (fun v1 sh1 g2 z1 r1 hq => ?_)
        obtain ⟨rfl, rfl, rfl, rfl, rfl⟩ := hq
        refine R_iconst dX12_sums_29 rfl rfl ?_
        refine R_callV (m_emit hr k1 C1.length (by omega) h39 c 0) (mvX12_emit _) kiX12_emit kvX12_emit km12_259 rfl rfl (by decide) ⟨rfl, rfl, by decide, by decide⟩ (Nat.le_of_ble_eq_true rfl) dX12_sums_30 (fun v1 sh1 g2 z1 r1 hq => ?_)
        obtain ⟨⟨rfl, rfl⟩, rfl, rfl, rfl⟩ := hq
        have e41 : emi g1 C1.length c 0 74 41 = ((t.length + 1 : Nat) : Int) := by rw [← h41]; unfold emi; rw [up2_k (by decide), up2_ne (by decide), up2_ne (by decide)]
        refine R_aload_n dX12_sums_33 rfl ?_
        refine R_dup dX12_sums_34 (fun _ h => by cases h) ?_
        refine R_getI fd12_41 kf12_226 rfl dX12_sums_35 ?_
        rw [e41]
        refine R_iconst dX12_sums_38 rfl rfl ?_
        refine R_isubN dX12_sums_39 (by unfold inI; omega) ?_
        refine R_putI fd12_41 rfl kf12_226 rfl dX12_sums_40 ?_
        refine R_goto 0 dX12_sums_43 (by decide) ?_
        rw [show ((t.length + 1 : Nat) : Int) - 1 = (t.length : Int) by omega]
        exact ih (C1 ++ [(c, 0)]) _ h1.popemi (by rw [up2_k (by decide), emi_37]; exact k1) ((f1.trans emi_fr).trans (FrM0.up (by omega))) e1 e2
      have stay : f c = false → RJ (mX12_sums (rmD 2 0 0)) 0 0 shW.length Q 0 0 shW 46 [some (vR (some 74)), some (vI (bi b))] [] g1 z r := by
        intro hc
        rw [List.dropWhile_cons, hc] at e1
        rw [List.takeWhile_cons, hc] at e2
        refine R_return rfl (by decide) (by decide) dX12_sums_46 ?_
        rw [← hQ]
        refine ⟨⟨rfl, f1, k1, ?_⟩, rfl, rfl, rfl⟩
        rw [← e1, ← e2]
        show MS tp N g1 (p, c :: t, o, C1 ++ [])
        rw [List.append_nil]
        exact h1
      refine R_aload_n dX12_sums_0 rfl ?_
      refine R_callV (h1.top hr) (mvX12_top _) kiX12_top kvX12_top km12_250 rfl rfl (by decide) ⟨rfl, rfl, by decide, by decide⟩ (Nat.le_of_ble_eq_true rfl) dX12_sums_1 (fun v1 sh1 g2 z1 r1 hq => ?_)
      obtain ⟨rfl, rfl, rfl, rfl, rfl⟩ := hq
      refine R_callS (m_isTimes c) (mvX12_isTimes _) ksX12_isTimes km12_253 ⟨rfl, rfl, by decide, by decide⟩ (Nat.le_of_ble_eq_true rfl) dX12_sums_4 (fun v1 sh1 g2 z1 r1 hq => ?_)
      obtain ⟨rfl, rfl, rfl, rfl, rfl⟩ := hq
      by_cases h3 : okS 3 c = true
      · rw [bi_t h3]
        refine R_if_ne 24 dX12_sums_7 (by decide) (fun hc7 => ?_) (fun hc7 => ?_)
        · exact pop (by rw [hfc, h3]; rfl)
        · exact absurd hc7 (by decide)
      · rw [bi_f h3]
        have h3 := Bool.eq_false_iff.mpr h3
        refine R_if_ne 24 dX12_sums_7 (by decide) (fun hc7 => ?_) (fun hc7 => ?_)
        · exact absurd rfl hc7
        cases b with
        | false =>
          refine R_iload_n dX12_sums_10 rfl ?_
          refine R_if_eq 46 dX12_sums_11 (by decide) (fun hc11 => ?_) (fun hc11 => ?_)
          · exact stay (by rw [hfc, h3]; rfl)
          · exact absurd rfl hc11
        | true =>
          refine R_iload_n dX12_sums_10 rfl ?_
          refine R_if_eq 46 dX12_sums_11 (by decide) (fun hc11 => ?_) (fun hc11 => ?_)
          · exact absurd hc11 (by decide)
          refine R_aload_n dX12_sums_14 rfl ?_
          refine R_callV (h1.top hr) (mvX12_top _) kiX12_top kvX12_top km12_250 rfl rfl (by decide) ⟨rfl, rfl, by decide, by decide⟩ (Nat.le_of_ble_eq_true rfl) dX12_sums_15 (fun v1 sh1 g2 z1 r1 hq => ?_)
          obtain ⟨rfl, rfl, rfl, rfl, rfl⟩ := hq
          refine R_callS (m_isPlus c) (mvX12_isPlus _) ksX12_isPlus km12_256 ⟨rfl, rfl, by decide, by decide⟩ (Nat.le_of_ble_eq_true rfl) dX12_sums_18 (fun v1 sh1 g2 z1 r1 hq => ?_)
          obtain ⟨rfl, rfl, rfl, rfl, rfl⟩ := hq
          by_cases h2 : okS 2 c = true
          · rw [bi_t h2]
            refine R_if_eq 46 dX12_sums_21 (by decide) (fun hc21 => ?_) (fun hc21 => ?_)
            · exact absurd hc21 (by decide)
            · exact pop (by rw [hfc, h3, h2]; rfl)
          · rw [bi_f h2]
            refine R_if_eq 46 dX12_sums_21 (by decide) (fun hc21 => ?_) (fun hc21 => ?_)
            · exact stay (by rw [hfc, h3, Bool.eq_false_iff.mpr h2]; rfl)
            · exact absurd rfl hc21
  exact loop σ C g h h37 FrM0.rfl rfl rfl
theorem m_joins (hr : RS r) (b : Bool) : ∀ {g : GG}, MS tp N g (p, σ, o, C) → g 74 37 = 0 → CT (mX12_joins (rmD 2 0 0)) 0 0 shW [vR (some 74), vI (bi b)] g z r (qG shW z r fun v g' => v = none ∧ FrM0 g g' ∧ g' 74 37 = 0 ∧ MS tp N g' (p, σ.dropWhile (if b then pAO else pAn), o, C ++ emO (σ.takeWhile (if b then pAO else pAn)))) := by
  intro g h h37
  refine CT.of 0 rfl rfl ?_
  generalize hf : (if b then pAO else pAn) = f
  have hfc : ∀ c, f c = (okS 1 c || (b && okS 0 c)) := fun c => by rw [← hf]; cases b; exact (Bool.or_false _).symm; rfl
  generalize hQ : (qG shW z r fun v g' => v = none ∧ FrM0 g g' ∧ g' 74 37 = 0 ∧ MS tp N g' (p, σ.dropWhile f, o, C ++ emO (σ.takeWhile f))) = Q
  have loop : ∀ (τ : List Int) (C1 : List (Int × Int)) (g1 : GG), MS tp N g1 (p, τ, o, C1) → g1 74 37 = 0 → FrM0 g g1 → τ.dropWhile f = σ.dropWhile f → C1 ++ emO (τ.takeWhile f) = C ++ emO (σ.takeWhile f) → RJ (mX12_joins (rmD 2 0 0)) 0 0 shW.length Q 0 0 shW 0 [some (vR (some 74)), some (vI (bi b))] [] g1 z r := by
    intro τ
    induction τ with
    | nil =>
      intro C1 g1 h1 k1 f1 e1 e2
      refine R_aload_n dX12_joins_0 rfl ?_
      refine R_callV (h1.top hr) (mvX12_top _) kiX12_top kvX12_top km12_250 rfl rfl (by decide) ⟨rfl, rfl, by decide, by decide⟩ (Nat.le_of_ble_eq_true rfl) dX12_joins_1 (fun v1 sh1 g2 z1 r1 hq => ?_)
      obtain ⟨rfl, rfl, rfl, rfl, rfl⟩ := hq
      have fin : RJ (mX12_joins (rmD 2 0 0)) 0 0 shW.length Q 0 0 shW 44 [some (vR (some 74)), some (vI (bi b))] [] g1 z r := by
        refine R_return rfl (by decide) (by decide) dX12_joins_44 ?_
        rw [← hQ]
        refine ⟨⟨rfl, f1, k1, ?_⟩, rfl, rfl, rfl⟩
        rw [← e1, ← e2]
        show MS tp N g1 (p, [], o, C1 ++ [])
        rw [List.append_nil]
        exact h1
      refine R_bipush dX12_joins_4 rfl (by decide +kernel) ?_
      refine R_icmp_eq 22 dX12_joins_6 (by decide) (fun hc6 => ?_) (fun hc6 => ?_)
      · exact absurd hc6 (by show ¬ (0 : Int) = 38; decide)
      cases b with
      | false =>
        refine R_iload_n dX12_joins_9 rfl ?_
        refine R_if_eq 44 dX12_joins_10 (by decide) (fun hc10 => ?_) (fun hc10 => ?_)
        · exact fin
        · exact absurd rfl hc10
      | true =>
        refine R_iload_n dX12_joins_9 rfl ?_
        refine R_if_eq 44 dX12_joins_10 (by decide) (fun hc10 => ?_) (fun hc10 => ?_)
        · exact absurd hc10 (by decide)
        refine R_aload_n dX12_joins_13 rfl ?_
        refine R_callV (h1.top hr) (mvX12_top _) kiX12_top kvX12_top km12_250 rfl rfl (by decide) ⟨rfl, rfl, by decide, by decide⟩ (Nat.le_of_ble_eq_true rfl) dX12_joins_14 (fun v1 sh1 g2 z1 r1 hq => ?_)
        obtain ⟨rfl, rfl, rfl, rfl, rfl⟩ := hq
        refine R_bipush dX12_joins_17 rfl (by decide +kernel) ?_
        refine R_icmp_ne 44 dX12_joins_19 (by decide) (fun hc19 => ?_) (fun hc19 => ?_)
        · exact fin
        · exact absurd hc19 (by show ¬ (0 : Int) = 124; decide)
    | cons c t ih =>
      intro C1 g1 h1 k1 f1 e1 e2
      have h41 : g1 74 41 = ((t.length + 1 : Nat) : Int) := h1.2.2.2.1.1
      have h39 : g1 74 39 = (C1.length : Int) := h1.2.2.2.2.2.1.1
      have hN := h1.2.1.2
      have h7 : (c :: t).length + C1.length ≤ p ∧ p ≤ N := h1.2.2.2.2.2.2.1
      rw [List.length_cons] at h7
      have pop : f c = true → RJ (mX12_joins (rmD 2 0 0)) 0 0 shW.length Q 0 0 shW 22 [some (vR (some 74)), some (vI (bi b))] [] g1 z r := by
        intro hc
        rw [List.dropWhile_cons, hc] at e1
        rw [List.takeWhile_cons, hc] at e2
        have e2 : C1 ++ emO (c :: t.takeWhile f) = C ++ emO (σ.takeWhile f) := e2
        rw [emO_cons] at e2
        refine R_aload_n dX12_joins_22 rfl ?_
        refine R_aload_n dX12_joins_23 rfl ?_
        refine R_callV (h1.top hr) (mvX12_top _) kiX12_top kvX12_top km12_250 rfl rfl (by decide) ⟨rfl, rfl, by decide, by decide⟩ (Nat.le_of_ble_eq_true rfl) dX12_joins_24 (fun v1 sh1 g2 z1 r1 hq => ?_)
        obtain ⟨rfl, rfl, rfl, rfl, rfl⟩ := hq
        refine R_iconst dX12_joins_27 rfl rfl ?_
        refine R_callV (m_emit hr k1 C1.length (by omega) h39 c 0) (mvX12_emit _) kiX12_emit kvX12_emit km12_259 rfl rfl (by decide) ⟨rfl, rfl, by decide, by decide⟩ (Nat.le_of_ble_eq_true rfl) dX12_joins_28 (fun v1 sh1 g2 z1 r1 hq => ?_)
        obtain ⟨⟨rfl, rfl⟩, rfl, rfl, rfl⟩ := hq
        have e41 : emi g1 C1.length c 0 74 41 = ((t.length + 1 : Nat) : Int) := by rw [← h41]; unfold emi; rw [up2_k (by decide), up2_ne (by decide), up2_ne (by decide)]
        refine R_aload_n dX12_joins_31 rfl ?_
        refine R_dup dX12_joins_32 (fun _ h => by cases h) ?_
        refine R_getI fd12_41 kf12_226 rfl dX12_joins_33 ?_
        rw [e41]
        refine R_iconst dX12_joins_36 rfl rfl ?_
        refine R_isubN dX12_joins_37 (by unfold inI; omega) ?_
        refine R_putI fd12_41 rfl kf12_226 rfl dX12_joins_38 ?_
        refine R_goto 0 dX12_joins_41 (by decide) ?_
        rw [show ((t.length + 1 : Nat) : Int) - 1 = (t.length : Int) by omega]
        exact ih (C1 ++ [(c, 0)]) _ h1.popemi (by rw [up2_k (by decide), emi_37]; exact k1) ((f1.trans emi_fr).trans (FrM0.up (by omega))) e1 e2
      have stay : f c = false → RJ (mX12_joins (rmD 2 0 0)) 0 0 shW.length Q 0 0 shW 44 [some (vR (some 74)), some (vI (bi b))] [] g1 z r := by
        intro hc
        rw [List.dropWhile_cons, hc] at e1
        rw [List.takeWhile_cons, hc] at e2
        refine R_return rfl (by decide) (by decide) dX12_joins_44 ?_
        rw [← hQ]
        refine ⟨⟨rfl, f1, k1, ?_⟩, rfl, rfl, rfl⟩
        rw [← e1, ← e2]
        show MS tp N g1 (p, c :: t, o, C1 ++ [])
        rw [List.append_nil]
        exact h1
      have k38 : okS 1 c = decide (c = 38) := rfl
      have k124 : okS 0 c = decide (c = 124) := rfl
      refine R_aload_n dX12_joins_0 rfl ?_
      refine R_callV (h1.top hr) (mvX12_top _) kiX12_top kvX12_top km12_250 rfl rfl (by decide) ⟨rfl, rfl, by decide, by decide⟩ (Nat.le_of_ble_eq_true rfl) dX12_joins_1 (fun v1 sh1 g2 z1 r1 hq => ?_)
      obtain ⟨rfl, rfl, rfl, rfl, rfl⟩ := hq
      have ehd : hd0 (c :: t) = c := rfl
      refine R_bipush dX12_joins_4 rfl (by decide +kernel) ?_
      refine R_icmp_eq 22 dX12_joins_6 (by decide) (fun hc6 => ?_) (fun hc6 => ?_)
      · have hc6 : c = 38 := hc6
        exact pop (by rw [hfc, k38, decide_eq_true hc6]; rfl)
      have hc6 : ¬ c = 38 := hc6
      cases b with
      | false =>
        refine R_iload_n dX12_joins_9 rfl ?_
        refine R_if_eq 44 dX12_joins_10 (by decide) (fun hc10 => ?_) (fun hc10 => ?_)
        · exact stay (by rw [hfc, k38, decide_eq_false hc6]; rfl)
        · exact absurd rfl hc10
      | true =>
        refine R_iload_n dX12_joins_9 rfl ?_
        refine R_if_eq 44 dX12_joins_10 (by decide) (fun hc10 => ?_) (fun hc10 => ?_)
        · exact absurd hc10 (by decide)
        refine R_aload_n dX12_joins_13 rfl ?_
        refine R_callV (h1.top hr) (mvX12_top _) kiX12_top kvX12_top km12_250 rfl rfl (by decide) ⟨rfl, rfl, by decide, by decide⟩ (Nat.le_of_ble_eq_true rfl) dX12_joins_14 (fun v1 sh1 g2 z1 r1 hq => ?_)
        obtain ⟨rfl, rfl, rfl, rfl, rfl⟩ := hq
        refine R_bipush dX12_joins_17 rfl (by decide +kernel) ?_
        refine R_icmp_ne 44 dX12_joins_19 (by decide) (fun hc19 => ?_) (fun hc19 => ?_)
        · have hc19 : ¬ c = 124 := hc19
          exact stay (by rw [hfc, k38, k124, decide_eq_false hc6, decide_eq_false hc19]; rfl)
        · have hc19 : c = 124 := hc19
          exact pop (by rw [hfc, k124, decide_eq_true hc19]; exact Bool.or_true _)
  exact loop σ C g h h37 FrM0.rfl rfl rfl
theorem m_ends (hr : RS r) : ∀ {g : GG}, MT tp N g (p, σ, o, C) → g 74 37 = 0 → CT (mX12_ends (rmD 2 0 0)) 0 0 shW [vR (some 74)] g z r (qG shW z r fun v g' => v = none ∧ FrM0 g g' ∧ g' 74 37 = 0 ∧ MT tp N g' (endF (p, σ, o, C))) := by
  intro g h h37
  refine CT.of 0 rfl rfl ?_
  generalize hY : endF (p, σ, o, C) = Y
  generalize hQ : (qG shW z r fun v g' => v = none ∧ FrM0 g g' ∧ g' 74 37 = 0 ∧ MT tp N g' Y) = Q
  have loop : ∀ (τ : List Int) (o1 : Nat) (C1 : List (Int × Int)) (g1 : GG), MT tp N g1 (p, τ, o1, C1) → g1 74 37 = 0 → FrM0 g g1 → endF (p, τ, o1, C1) = Y → RJ (mX12_ends (rmD 2 0 0)) 0 0 shW.length Q 0 0 shW 0 [some (vR (some 74))] [] g1 z r := by
    intro τ
    induction τ with
    | nil =>
      intro o1 C1 g1 h1 k1 f1 e1
      rw [endF_id rfl] at e1
      refine R_aload_n dX12_ends_0 rfl ?_
      refine R_callV (h1.1.top hr) (mvX12_top _) kiX12_top kvX12_top km12_250 rfl rfl (by decide) ⟨rfl, rfl, by decide, by decide⟩ (Nat.le_of_ble_eq_true rfl) dX12_ends_1 (fun v1 sh1 g2 z1 r1 hq => ?_)
      obtain ⟨rfl, rfl, rfl, rfl, rfl⟩ := hq
      refine R_bipush dX12_ends_4 rfl (by decide +kernel) ?_
      refine R_icmp_ne 38 dX12_ends_6 (by decide) (fun hc6 => ?_) (fun hc6 => ?_)
      · refine R_return rfl (by decide) (by decide) dX12_ends_38 ?_
        rw [← hQ, ← e1]
        exact ⟨⟨rfl, f1, k1, h1⟩, rfl, rfl, rfl⟩
      · exact absurd hc6 (by show ¬ (0 : Int) = 33; decide)
    | cons c t ih =>
      intro o1 C1 g1 h1 k1 f1 e1
      have h41 : g1 74 41 = ((t.length + 1 : Nat) : Int) := h1.1.2.2.2.1.1
      have h40 : g1 74 40 = (o1 : Int) := h1.1.2.2.2.2.1
      have h39 : g1 74 39 = (C1.length : Int) := h1.1.2.2.2.2.2.1.1
      have hN := h1.1.2.1.2
      have h8 : o1 ≤ 6 := h1.1.2.2.2.2.2.2.2
      have h7 : (c :: t).length + C1.length ≤ p ∧ p ≤ N := h1.1.2.2.2.2.2.2.1
      rw [List.length_cons] at h7
      have hop : o1 = opN (c :: t) := h1.2
      refine R_aload_n dX12_ends_0 rfl ?_
      refine R_callV (h1.1.top hr) (mvX12_top _) kiX12_top kvX12_top km12_250 rfl rfl (by decide) ⟨rfl, rfl, by decide, by decide⟩ (Nat.le_of_ble_eq_true rfl) dX12_ends_1 (fun v1 sh1 g2 z1 r1 hq => ?_)
      obtain ⟨rfl, rfl, rfl, rfl, rfl⟩ := hq
      refine R_bipush dX12_ends_4 rfl (by decide +kernel) ?_
      refine R_icmp_ne 38 dX12_ends_6 (by decide) (fun hc6 => ?_) (fun hc6 => ?_)
      · have hc6 : ¬ c = 33 := hc6
        rw [endF_id (by show p33 c = false; unfold p33; rw [decide_eq_false hc6])] at e1
        refine R_return rfl (by decide) (by decide) dX12_ends_38 ?_
        rw [← hQ, ← e1]
        exact ⟨⟨rfl, f1, k1, h1⟩, rfl, rfl, rfl⟩
      have hc6 : c = 33 := hc6
      subst hc6
      rw [opN_t rfl] at hop
      obtain ⟨o2, rfl⟩ : ∃ o2, o1 = o2 + 1 := ⟨o1 - 1, by omega⟩
      rw [endF_33] at e1
      refine R_aload_n dX12_ends_9 rfl ?_
      refine R_iconst dX12_ends_10 rfl rfl ?_
      refine R_iconst dX12_ends_11 rfl rfl ?_
      refine R_callV (m_emit hr k1 C1.length (by omega) h39 2 0) (mvX12_emit _) kiX12_emit kvX12_emit km12_259 rfl rfl (by decide) ⟨rfl, rfl, by decide, by decide⟩ (Nat.le_of_ble_eq_true rfl) dX12_ends_12 (fun v1 sh1 g2 z1 r1 hq => ?_)
      obtain ⟨⟨rfl, rfl⟩, rfl, rfl, rfl⟩ := hq
      have e41 : emi g1 C1.length 2 0 74 41 = ((t.length + 1 : Nat) : Int) := by rw [← h41]; unfold emi; rw [up2_k (by decide), up2_ne (by decide), up2_ne (by decide)]
      have e40 : emi g1 C1.length 2 0 74 40 = ((o2 + 1 : Nat) : Int) := by rw [← h40]; unfold emi; rw [up2_k (by decide), up2_ne (by decide), up2_ne (by decide)]
      refine R_aload_n dX12_ends_15 rfl ?_
      refine R_dup dX12_ends_16 (fun _ h => by cases h) ?_
      refine R_getI fd12_41 kf12_226 rfl dX12_ends_17 ?_
      rw [e41]
      refine R_iconst dX12_ends_20 rfl rfl ?_
      refine R_isubN dX12_ends_21 (by unfold inI; omega) ?_
      refine R_putI fd12_41 rfl kf12_226 rfl dX12_ends_22 ?_
      refine R_aload_n dX12_ends_25 rfl ?_
      refine R_dup dX12_ends_26 (fun _ h => by cases h) ?_
      refine R_getI fd12_40 kf12_229 rfl dX12_ends_27 ?_
      try simp +decide only [up2_far, up2_s, up2_kk]
      rw [e40]
      refine R_iconst dX12_ends_30 rfl rfl ?_
      refine R_isubN dX12_ends_31 (by unfold inI; omega) ?_
      refine R_putI fd12_40 rfl kf12_229 rfl dX12_ends_32 ?_
      refine R_goto 0 dX12_ends_35 (by decide) ?_
      rw [show ((t.length + 1 : Nat) : Int) - 1 = (t.length : Int) by omega, show ((o2 + 1 : Nat) : Int) - 1 = (o2 : Int) by omega]
      exact ih o2 (C1 ++ [(2, 0)]) _ ⟨(h1.1.popemi).opn (by omega), by show o2 = opN t; omega⟩ (by rw [up2_k (by decide), up2_k (by decide), emi_37]; exact k1) (((f1.trans emi_fr).trans (FrM0.up (by omega))).trans (FrM0.up (by omega))) e1
  exact loop σ o C g h h37 FrM0.rfl hY
end MRD2
