/-- nothing but the FAMILY's cells, the stacks and the tables of the WAYS has changed -/
def WC (g g' : GG) : Prop := (∀ c', ¬ stc c' → c' ≤ 31 ∨ c' = 39 ∨ c' = 40 ∨ c' = 43 ∨ 50 ≤ c' → g' c' = g c') ∧ ∀ k, k ≠ 10 → g' 41 k = g 41 k
theorem WC.rfl {g : GG} : WC g g := ⟨fun _ _ _ => Eq.refl _, fun _ _ => Eq.refl _⟩
theorem WC.trans {g g1 g2 : GG} (h1 : WC g g1) (h2 : WC g1 g2) : WC g g2 := ⟨fun c' a b => (h2.1 c' a b).trans (h1.1 c' a b), fun k a => (h2.2 k a).trans (h1.2 k a)⟩
theorem SC.wc {g g' : GG} (h : SC g g') : WC g g' := ⟨fun c' a b => h c' a (by omega), fun k _ => by rw [h 41 (by unfold stc; omega) (by omega)]⟩
theorem WC.vC {g g' : GG} (h : WC g g') : vC g' = vC g := vC_cong (fun c' h' => h.1 c' (by unfold stc; unfold vcell at h'; omega) (by unfold vcell at h'; omega))
theorem WC.at {g g' : GG} (h : WC g g') {c : Nat} (hc : c ≤ 23 ∨ c = 30 ∨ c = 31 ∨ c = 43) : g' c = g c := h.1 c (by unfold stc; omega) (by omega)
theorem WC.mk {g g' : GG} (h : ∀ c', c' ≠ 42 → c' ≠ 44 → c' ≠ 45 → c' ≠ 46 → c' ≠ 47 → g' c' = g c') : WC g g' := ⟨fun c' a b => h c' (by omega) (by omega) (by omega) (by omega) (by omega), fun k _ => by rw [h 41 (by omega) (by omega) (by omega) (by omega) (by omega)]⟩
theorem FP.congW {g g' : GG} {r : RR} {K : Nat → CUS} (h : WC g g') (H : FP g r K) : FP g' r K := by
  obtain ⟨h1, h2, h3, h4, h5, h6, h7, h8, h9⟩ := H
  have hv : ∀ c', vcell c' → g' c' = g c' := fun c' h' => h.1 c' (by unfold stc; unfold vcell at h'; omega) (by unfold vcell at h'; omega)
  refine ⟨h1, h2, BD_cong hv h3, ?_, ?_, ?_, ?_, ?_, fun k hk => ?_⟩
  · unfold BD2; rw [hv 4 (by unfold vcell; omega), hv 1 (by unfold vcell; omega)]; exact h4
  · rw [hv 2 (by unfold vcell; omega)]; exact h5
  · rw [hv 5 (by unfold vcell; omega)]; exact h6
  · rw [hv 11 (by unfold vcell; omega)]; exact h7
  · rw [hv 13 (by unfold vcell; omega), hv 11 (by unfold vcell; omega), h.at (by omega)]; exact h8
  · have hc := (h2 k hk).1
    have hcell : ∀ d, d < 5 → g' (tc r k + d) = g (tc r k + d) := fun d hd => h.1 _ (by unfold stc; rcases hc with e | e | e | e | e <;> rw [e] <;> omega) (by rcases hc with e | e | e | e | e <;> rw [e] <;> omega)
    have := h9 k hk
    unfold CuIs at this ⊢
    rw [show g' (tc r k) = g (tc r k) from hcell 0 (by omega), hcell 1 (by omega), hcell 2 (by omega), hcell 3 (by omega), hcell 4 (by omega)]
    exact this
theorem XI_cong {g g' z z' : GG} {G : Nat → Nat → Option Int} {T : Nat → Nat} {ks : List Nat} {S : Nat} (h4 : g' 44 S = g 44 S) (h5 : g' 45 S = g 45 S) (h6 : g' 46 S = g 46 S) (h7 : g' 47 S = g 47 S) (h8 : z' 48 S = z 48 S) (h9 : z' 49 S = z 49 S) (h : XI g z G T ks S) : XI g' z' G T ks S := by
  unfold XI
  rw [h4, h5, h6, h7, h8, h9]
  exact h
section SETTLE
variable {g z : GG} {r : RR}
theorem wh_int {g : GG} (hF : 0 ≤ g 11 7 ∧ g 11 7 ≤ 10) : bShl 1 (g 11 7) = ((whS (vC g) + 1 : Nat) : Int) := by
  have := bShl_1 (k := (g 11 7).toNat) (by omega)
  rw [toNat_cast hF.1] at this
  rw [this]
  unfold whS
  have e : (vC g) 0 2 = g 11 7 := rfl
  rw [e]
  have : 0 < (2 : Nat) ^ (g 11 7).toNat := Nat.pow_pos (by decide)
  congr 1
  omega
theorem c_X10_whole (hr : RS r) (hF : 0 ≤ g 11 7 ∧ g 11 7 ≤ 10) : CT (mX10_whole (rmD 0 0 0)) 0 0 shW [vR (some 41)] g z r (qP shW g z r (some (vI (whS (vC g) : Nat)))) := by
  refine CT.of 0 rfl rfl ?_
  have hw := wh_int hF
  have hlt : whS (vC g) < 1024 := by
    unfold whS
    have e : (vC g) 0 2 = g 11 7 := rfl
    rw [e]
    have : (2 : Nat) ^ (g 11 7).toNat ≤ 2 ^ 10 := Nat.pow_le_pow_right (by decide) (by omega)
    have : 0 < (2 : Nat) ^ (g 11 7).toNat := Nat.pow_pos (by decide)
    omega
  refine R_iconst dX10_whole_0 rfl rfl ?_
  refine R_aload_n dX10_whole_1 rfl ?_
  refine R_getR _ (hr _ _ _ rfl) fd10_0 kf10_37 rfl dX10_whole_2 ?_
  refine R_getR _ (hr _ _ _ rfl) fd0_2 kf10_53 rfl dX10_whole_5 ?_
  refine R_getI fd4_7 kf10_59 rfl dX10_whole_8 ?_
  refine R_ishl dX10_whole_11 ?_
  rw [hw]
  refine R_iconst dX10_whole_12 rfl rfl ?_
  refine R_isubN dX10_whole_13 (by unfold inI; omega) ?_
  refine R_ireturn rfl (by first | rfl | exact nar_b2i | exact nar_bi) (by decide) (by decide) dX10_whole_14 ?_
  exact ⟨by rw [show ((whS (vC g) + 1 : Nat) : Int) - 1 = ((whS (vC g) : Nat) : Int) by omega], rfl, rfl, rfl, rfl⟩
theorem AGC_one : AGC [(0, 0)] 0 (-1000000) 1 1 0 0 := by
  refine ⟨⟨rfl, rfl, fun h => (by cases h), fun _ => ⟨?_, ⟨(0, 0), List.mem_singleton.mpr rfl, rfl⟩, ?_, Or.inl rfl⟩⟩, fun _ => ⟨⟨(0, 0), List.mem_singleton.mpr rfl, rfl, rfl⟩, ?_, by decide, fun i hi => ⟨?_, ?_⟩⟩, by decide, by decide⟩
  · intro x hx; rw [List.mem_singleton.mp hx]; simp
  · intro x hx; rw [List.mem_singleton.mp hx]; simp
  · intro x hx; rw [List.mem_singleton.mp hx]; simp
  · intro _ x hx _; rw [List.mem_singleton.mp hx]
  · intro h7; exact absurd h7 (by unfold fld; simp)
theorem c_X10_startEmpty (hr : RS r) (G : Nat → Nat → Option Int) (T : Nat → Nat) (wh : Nat) (hwh : wh < 1024) : CT (mX10_startEmpty (rmD 0 0 0)) 0 0 shW [vR (some 41), vI (wh : Int)] g z r (qZ shW r fun v g' z' => v = none ∧ (∀ c', c' ≠ 44 → c' ≠ 45 → c' ≠ 46 → c' ≠ 47 → g' c' = g c') ∧ (∀ c', c' ≠ 48 → c' ≠ 49 → z' c' = z c') ∧ ∀ S, S ≤ wh → XI g' z' G T [] S) := by
  refine CT.of 1 rfl rfl ?_
  generalize hQ : (qZ shW r fun v g' z' => v = none ∧ (∀ c', c' ≠ 44 → c' ≠ 45 → c' ≠ 46 → c' ≠ 47 → g' c' = g c') ∧ (∀ c', c' ≠ 48 → c' ≠ 49 → z' c' = z c') ∧ ∀ S, S ≤ wh → XI g' z' G T [] S) = Q
  have loop : ∀ (n i : Nat) (g1 z1 : GG), i + n = wh + 1 → (∀ c', c' ≠ 44 → c' ≠ 45 → c' ≠ 46 → c' ≠ 47 → g1 c' = g c') → (∀ c', c' ≠ 48 → c' ≠ 49 → z1 c' = z c') → (∀ j, j < i → g1 44 j = -1000000 ∧ g1 45 j = -1000000 ∧ g1 46 j = 0 ∧ g1 47 j = 0 ∧ z1 48 j = 0 ∧ z1 49 j = 0) → RJ (mX10_startEmpty (rmD 0 0 0)) 0 0 shW.length Q 0 0 shW 2 [some (vR (some 41)), some (vI ((wh : Int))), some (vI ((i : Int)))] [] g1 z1 r := by
    intro n
    induction n with
    | zero =>
      intro i g1 z1 hi h1 h2 h3
      refine R_iload_n dX10_startEmpty_2 rfl ?_
      refine R_iload_n dX10_startEmpty_3 rfl ?_
      refine R_icmp_gt 57 dX10_startEmpty_4 (by decide) (fun hc4 => ?_) (fun hc4 => ?_)
      · refine R_aload_n dX10_startEmpty_57 rfl ?_
        refine R_getR _ (hr _ _ _ rfl) fd10_4 kf10_18 rfl dX10_startEmpty_58 ?_
        refine R_iconst dX10_startEmpty_61 rfl rfl ?_
        refine R_iconst dX10_startEmpty_62 rfl rfl ?_
        refine R_iast rfl (by omega) (by omega) dX10_startEmpty_63 ?_
        refine R_aload_n dX10_startEmpty_64 rfl ?_
        refine R_getR _ (hr _ _ _ rfl) fd10_8 kf10_30 rfl dX10_startEmpty_65 ?_
        try simp +decide only [up2_far, up2_s, up2_kk]
        refine R_iconst dX10_startEmpty_68 rfl rfl ?_
        refine R_lconst dX10_startEmpty_69 ?_
        refine R_last rfl (by omega) (by omega) dX10_startEmpty_70 ?_
        refine R_aload_n dX10_startEmpty_71 rfl ?_
        refine R_getR _ (hr _ _ _ rfl) fd10_9 kf10_34 rfl dX10_startEmpty_72 ?_
        try simp +decide only [up2_far, up2_s, up2_kk]
        refine R_iconst dX10_startEmpty_75 rfl rfl ?_
        refine R_lconst dX10_startEmpty_76 ?_
        refine R_last rfl (by omega) (by omega) dX10_startEmpty_77 ?_
        refine R_return rfl (by decide) (by decide) dX10_startEmpty_78 ?_
        rw [← hQ]
        refine ⟨⟨rfl, fun c' a b d e => by rw [up2_ne a]; exact h1 c' a b d e, fun c' a b => by rw [up2_ne b, up2_ne a]; exact h2 c' a b, fun S hS => ?_⟩, rfl, rfl⟩
        obtain ⟨e1, e2, e3, e4, e5, e6⟩ := h3 S (by omega)
        refine ⟨0, 0, ?_, ?_, ?_⟩
        · rw [up2_ne (by decide)]; exact e3
        · rw [up2_ne (by decide)]; exact e4
        · by_cases hS0 : S = 0
          · subst hS0
            have := AGC_one
            simp only [up2, XW]
            simp [e2]
            exact this
          · have := AGC_nil
            simp only [up2, XW]
            simp [hS0, e1, e2, e5, e6]
            exact this
      · exact absurd (by omega) hc4
    | succ n ih =>
      intro i g1 z1 hi h1 h2 h3
      refine R_iload_n dX10_startEmpty_2 rfl ?_
      refine R_iload_n dX10_startEmpty_3 rfl ?_
      refine R_icmp_gt 57 dX10_startEmpty_4 (by decide) (fun hc4 => ?_) (fun hc4 => ?_)
      · exact absurd hc4 (by omega)
      refine R_aload_n dX10_startEmpty_7 rfl ?_
      refine R_getR _ (hr _ _ _ rfl) fd10_4 kf10_18 rfl dX10_startEmpty_8 ?_
      refine R_iload_n dX10_startEmpty_11 rfl ?_
      refine R_ldcC (v := -1000000) kk10_100 (by decide +kernel) dX10_startEmpty_12 (by decide) ?_
      refine R_iast rfl (by omega) (by omega) dX10_startEmpty_14 ?_
      try rw [Int.toNat_natCast]
      refine R_aload_n dX10_startEmpty_15 rfl ?_
      refine R_getR _ (hr _ _ _ rfl) fd10_5 kf10_21 rfl dX10_startEmpty_16 ?_
      try simp +decide only [up2_far, up2_s, up2_kk]
      refine R_iload_n dX10_startEmpty_19 rfl ?_
      refine R_ldcC (v := -1000000) kk10_100 (by decide +kernel) dX10_startEmpty_20 (by decide) ?_
      refine R_iast rfl (by omega) (by omega) dX10_startEmpty_22 ?_
      try rw [Int.toNat_natCast]
      refine R_aload_n dX10_startEmpty_23 rfl ?_
      refine R_getR _ (hr _ _ _ rfl) fd10_6 kf10_24 rfl dX10_startEmpty_24 ?_
      try simp +decide only [up2_far, up2_s, up2_kk]
      refine R_iload_n dX10_startEmpty_27 rfl ?_
      refine R_iconst dX10_startEmpty_28 rfl rfl ?_
      refine R_iast rfl (by omega) (by omega) dX10_startEmpty_29 ?_
      try rw [Int.toNat_natCast]
      refine R_aload_n dX10_startEmpty_30 rfl ?_
      refine R_getR _ (hr _ _ _ rfl) fd10_7 kf10_27 rfl dX10_startEmpty_31 ?_
      try simp +decide only [up2_far, up2_s, up2_kk]
      refine R_iload_n dX10_startEmpty_34 rfl ?_
      refine R_iconst dX10_startEmpty_35 rfl rfl ?_
      refine R_iast rfl (by omega) (by omega) dX10_startEmpty_36 ?_
      try rw [Int.toNat_natCast]
      refine R_aload_n dX10_startEmpty_37 rfl ?_
      refine R_getR _ (hr _ _ _ rfl) fd10_8 kf10_30 rfl dX10_startEmpty_38 ?_
      try simp +decide only [up2_far, up2_s, up2_kk]
      refine R_iload_n dX10_startEmpty_41 rfl ?_
      refine R_lconst dX10_startEmpty_42 ?_
      refine R_last rfl (by omega) (by omega) dX10_startEmpty_43 ?_
      try rw [Int.toNat_natCast]
      refine R_aload_n dX10_startEmpty_44 rfl ?_
      refine R_getR _ (hr _ _ _ rfl) fd10_9 kf10_34 rfl dX10_startEmpty_45 ?_
      try simp +decide only [up2_far, up2_s, up2_kk]
      refine R_iload_n dX10_startEmpty_48 rfl ?_
      refine R_lconst dX10_startEmpty_49 ?_
      refine R_last rfl (by omega) (by omega) dX10_startEmpty_50 ?_
      try rw [Int.toNat_natCast]
      refine R_iincN dX10_startEmpty_51 rfl (by decide) rfl (by unfold inI; omega) [_, _, _] rfl ?_
      refine R_goto 2 dX10_startEmpty_54 (by decide) ?_
      refine ih (i + 1) _ _ (by omega) (fun c' a b d e => by rw [up2_ne e, up2_ne d, up2_ne b, up2_ne a]; exact h1 c' a b d e) (fun c' a b => by rw [up2_ne b, up2_ne a]; exact h2 c' a b) (fun j hj => ?_)
      by_cases hji : j = i
      · subst hji
        simp [up2]
      · have := h3 j (by omega)
        simp [up2, hji]
        exact this
  refine R_iconst dX10_startEmpty_0 rfl rfl ?_
  refine R_istore_n dX10_startEmpty_1 (by decide) rfl [_, _, _] rfl ?_
  exact loop (wh + 1) 0 g z (by omega) (fun _ _ _ _ _ => rfl) (fun _ _ _ => rfl) (fun j hj => by omega)
/-- the tables tell of all WAYS -/
def CI (g z : GG) (s : VW) (K : Nat → CUS) (a b Y : Int) : Prop := XI g z (GS s K a b Y) (TS s) (6 :: rv (s 0 1).toNat) (whS s)
theorem c_X10_settle (K : Nat → CUS) (H : FP g r K) (hA : 0 ≤ g 1 4 ∧ g 1 4 ≤ 1000) (hsp : ∀ x, x < 1024 → g 43 x = (sprd x : Int)) (h0 : g 41 10 = 0 ∨ (g 41 10 = 1 ∧ CI g z (vC g) K (g 30 1) (g 30 2) (g 30 3))) : CT (mX10_settle (rmD 7 0 0)) 0 0 shW [vR (some 41), vR (some 30)] g z r (qZ shW r fun v g' z' => v = none ∧ WC g g' ∧ (∀ c', c' ≠ 48 → c' ≠ 49 → z' c' = z c') ∧ g' 41 10 = 1 ∧ CI g' z' (vC g) K (g 30 1) (g 30 2) (g 30 3)) := by
  obtain ⟨hr, hT, hB, hB2, hN, hC5, hF, ho, hK⟩ := id H
  have hs := H.sbd hA (g 30 1) (g 30 2) (g 30 3)
  refine CT.of 4 rfl rfl ?_
  generalize hQ : (qZ shW r fun v g' z' => v = none ∧ WC g g' ∧ (∀ c', c' ≠ 48 → c' ≠ 49 → z' c' = z c') ∧ g' 41 10 = 1 ∧ CI g' z' (vC g) K (g 30 1) (g 30 2) (g 30 3)) = Q
  have hwh := whS_lt hs
  generalize hGe : GS (vC g) K (g 30 1) (g 30 2) (g 30 3) = G at *
  generalize hTe : TS (vC g) = T at *
  have eC : ((vC g) 0 1).toNat = (g 5 5).toNat := rfl
  have hTlt : ∀ k, T k < 1024 := fun k => by rw [← hTe]; exact TS_lt hs k
  have hT6 : T 6 = whS (vC g) := by rw [← hTe]; rfl
  generalize hwe : whS (vC g) = wh at *
  have loop3 : ∀ (n i : Nat) (g1 z1 : GG), i + n = wh + 1 → WC g g1 → (∀ c', c' ≠ 48 → c' ≠ 49 → z1 c' = z c') → (∀ S, S ≤ wh → XI g1 z1 G T (rv (g 5 5).toNat) S) → (∀ j, j < i → g1 42 j = -(g 1 4) * (popS j : Int)) → RJ (mX10_settle (rmD 7 0 0)) 0 0 shW.length Q 0 0 shW 123 [some (vR (some 41)), some (vR (some 30)), some (vI ((wh : Int))), some (vI ((i : Int))), none, none] [] g1 z1 r := by
    intro n
    induction n with
    | zero =>
      intro i g1 z1 hi w1 hz hXI hw
      refine R_iload_n dX10_settle_123 rfl ?_
      refine R_iload_n dX10_settle_124 rfl ?_
      refine R_icmp_gt 153 dX10_settle_125 (by decide) (fun hc125 => ?_) (fun hc125 => ?_)
      · refine R_aload_n dX10_settle_153 rfl ?_
        refine R_iload_n dX10_settle_154 rfl ?_
        refine R_bipush dX10_settle_155 rfl (by decide +kernel) ?_
        refine R_iload_n dX10_settle_157 rfl ?_
        refine R_callV (c_X10_widen (z := z1) hr (fun x hx => by rw [w1.at (by omega)]; exact hsp x hx) G T 6 (rv (g 5 5).toNat) (by rw [← hGe, ← hTe]; exact GS_6 hs (by omega)) wh wh hwh hwh hT6 (fun p hp => ?_) (fun S' hS' => hXI S' (sub_le hS'))) (mvX10_widen _) kiX10_widen kvX10_widen km10_88 rfl rfl (by decide) ⟨rfl, rfl, by decide, by decide⟩ (Nat.le_of_ble_eq_true rfl) dX10_settle_158 (fun v1 sh1 g2 z2 r1 hq => ?_)
        · have hple := sub_le hp
          rw [hw p (by omega), ← hGe]
          unfold GS
          rw [hTe, hT6, if_pos hp, if_pos rfl]
          rfl
        obtain ⟨⟨rfl, mo, nx, be, al, le, co, hAG, rfl, rfl⟩, rfl, rfl⟩ := hq
        refine R_aload_n dX10_settle_161 rfl ?_
        refine R_iconst dX10_settle_162 rfl rfl ?_
        refine R_putZ (by first | exact Or.inl rfl | exact Or.inr rfl | omega) fd10_10 rfl kf10_49 rfl dX10_settle_163 ?_
        refine R_return rfl (by decide) (by decide) dX10_settle_166 ?_
        rw [← hQ]
        refine ⟨⟨rfl, ⟨fun c' a b => ?_, fun k hk => ?_⟩, fun c' a b => ?_, up2_s, ?_⟩, rfl, rfl⟩
        · rw [up2_ne (by omega), up2_ne (by omega), up2_ne (by omega), up2_ne (by omega), up2_ne (by omega)]
          exact w1.1 c' a b
        · rw [up2_k hk, up2_ne (by omega), up2_ne (by omega), up2_ne (by omega), up2_ne (by omega)]
          exact w1.2 k hk
        · rw [up2_ne b, up2_ne a]; exact hz c' a b
        · unfold CI
          rw [hGe, hTe, hwe, eC]
          refine ⟨le, co, ?_, ?_, ?_⟩
          · simp [up2]
          · simp [up2]
          · simp [up2]; exact hAG
      · exact absurd (by omega) hc125
    | succ n ih =>
      intro i g1 z1 hi w1 hz hXI hw
      have ha := alone_b (s := vC g) hA i
      have ha' : (vC g) 0 4 = g 1 4 := rfl
      rw [ha'] at ha
      have e14 : g1 1 4 = g 1 4 := by rw [w1.at (by omega)]
      refine R_iload_n dX10_settle_123 rfl ?_
      refine R_iload_n dX10_settle_124 rfl ?_
      refine R_icmp_gt 153 dX10_settle_125 (by decide) (fun hc125 => ?_) (fun hc125 => ?_)
      · exact absurd hc125 (by omega)
      refine R_aload_n dX10_settle_128 rfl ?_
      refine R_getR _ (hr _ _ _ rfl) fd10_2 kf10_11 rfl dX10_settle_129 ?_
      refine R_iload_n dX10_settle_132 rfl ?_
      refine R_aload_n dX10_settle_133 rfl ?_
      refine R_getR _ (hr _ _ _ rfl) fd10_0 kf10_37 rfl dX10_settle_134 ?_
      refine R_getI fd0_4 kf10_92 rfl dX10_settle_137 ?_
      rw [e14]
      refine R_inegN dX10_settle_140 (by unfold inI; omega) ?_
      refine R_iload_n dX10_settle_141 rfl ?_
      refine R_callS (c_bitCount i (by omega)) (mvJ6_bitCount _) ksJ6 km10_95 ⟨rfl, rfl, by decide, by decide⟩ (Nat.le_of_ble_eq_true rfl) dX10_settle_142 (fun v1 sh1 g2 z2 r1 hq => ?_)
      obtain ⟨rfl, rfl, rfl, rfl, rfl⟩ := hq
      refine R_imulN dX10_settle_145 (by unfold inI; omega) ?_
      refine R_iast rfl (by omega) (by omega) dX10_settle_146 ?_
      try rw [Int.toNat_natCast]
      refine R_iincN dX10_settle_147 rfl (by decide) rfl (by unfold inI; omega) [_, _, _, _, _, _] rfl ?_
      refine R_goto 123 dX10_settle_150 (by decide) ?_
      refine ih (i + 1) _ _ (by omega) (w1.trans (WC.mk (fun c' a _ _ _ _ => up2_ne a))) hz (fun S hS => XI_cong (by rw [up2_ne (by decide)]) (by rw [up2_ne (by decide)]) (by rw [up2_ne (by decide)]) (by rw [up2_ne (by decide)]) rfl rfl (hXI S hS)) (fun j hj => ?_)
      by_cases hji : j = i
      · subst hji; rw [up2_s]
      · rw [up2_k hji]; exact hw j (by omega)
  have loopC : ∀ (n c : Nat) (g1 z1 : GG), (c : Int) + n = g 5 5 → WC g g1 → (∀ c', c' ≠ 48 → c' ≠ 49 → z1 c' = z c') → (∀ S, S ≤ wh → XI g1 z1 G T (rv c) S) → RJ (mX10_settle (rmD 7 0 0)) 0 0 shW.length Q 0 0 shW 20 [some (vR (some 41)), some (vR (some 30)), some (vI ((wh : Int))), some (vI ((c : Int))), none, none] [] g1 z1 r := by
    intro n
    induction n with
    | zero =>
      intro c g1 z1 hc w1 hz hXI
      refine R_iload_n dX10_settle_20 rfl ?_
      refine R_aload_n dX10_settle_21 rfl ?_
      refine R_getR _ (hr _ _ _ rfl) fd10_0 kf10_37 rfl dX10_settle_22 ?_
      refine R_getR _ (hr _ _ _ rfl) fd0_1 kf10_73 rfl dX10_settle_25 ?_
      refine R_getI fd1_5 kf10_77 rfl dX10_settle_28 ?_
      rw [w1.at (by omega)]
      refine R_icmp_ge 121 dX10_settle_31 (by decide) (fun hc31 => ?_) (fun hc31 => ?_)
      · refine R_iconst dX10_settle_121 rfl rfl ?_
        refine R_istore_n dX10_settle_122 (by decide) rfl [_, _, _, _, _, _] rfl ?_
        exact loop3 (wh + 1) 0 g1 z1 (by omega) w1 hz (by rw [show (g 5 5).toNat = c by omega]; exact hXI) (fun j hj => by omega)
      · exact absurd (by omega) hc31
    | succ n ihC =>
      intro c g1 z1 hc w1 hz hXI
      have hc6 : c < 6 := by omega
      have hTc : tieS (vC g) c (g 11 7).toNat = T c := by rw [← hTe]; unfold TS; rw [if_neg (by omega)]; rfl
      refine R_iload_n dX10_settle_20 rfl ?_
      refine R_aload_n dX10_settle_21 rfl ?_
      refine R_getR _ (hr _ _ _ rfl) fd10_0 kf10_37 rfl dX10_settle_22 ?_
      refine R_getR _ (hr _ _ _ rfl) fd0_1 kf10_73 rfl dX10_settle_25 ?_
      refine R_getI fd1_5 kf10_77 rfl dX10_settle_28 ?_
      rw [w1.at (by omega)]
      refine R_icmp_ge 121 dX10_settle_31 (by decide) (fun hc31 => ?_) (fun hc31 => ?_)
      · exact absurd hc31 (by omega)
      refine R_aload_n dX10_settle_34 rfl ?_
      refine R_getR _ (hr _ _ _ rfl) fd10_0 kf10_37 rfl dX10_settle_35 ?_
      refine R_iload_n dX10_settle_38 rfl ?_
      refine R_callV (c_X0_tiesOf hr (by rw [w1.at (by omega)]; exact hF) (c : Int) (by omega)) (mvX0_tiesOf _) kiX0_tiesOf kvX0_tiesOf km10_80 rfl rfl (by decide) ⟨rfl, rfl, by decide, by decide⟩ (Nat.le_of_ble_eq_true rfl) dX10_settle_39 (fun v1 sh1 g1 z1 r1 hq => ?_)
      obtain ⟨rfl, rfl, rfl, rfl, rfl⟩ := hq
      rw [w1.vC, Int.toNat_natCast, show g1 11 7 = g 11 7 by rw [w1.at (by omega)], hTc]
      have hTcl := hTlt c
      generalize htie : T c = ties at *
      -- the sets, from the top down
      have loop2 : ∀ (m : Nat) (x : Int) (g2 z2 : GG), x = (m : Int) - 1 → m ≤ wh + 1 → WC g g2 → (∀ c', c' ≠ 48 → c' ≠ 49 → z2 c' = z c') → (∀ q, q &&& ties = q → g2 42 q = wkS (G c q)) → (∀ S, S ≤ wh → m ≤ S → XI g2 z2 G T (c :: rv c) S) → (∀ S, S < m → XI g2 z2 G T (rv c) S) → RJ (mX10_settle (rmD 7 0 0)) 0 0 shW.length Q 0 0 shW 95 [some (vR (some 41)), some (vR (some 30)), some (vI ((wh : Int))), some (vI ((c : Int))), some (vI ((ties : Int))), some (vI (x))] [] g2 z2 r := by
        intro m
        induction m with
        | zero =>
          intro x g2 z2 hx hm w2 hz2 hw h1 h2
          refine R_iload dX10_settle_95 rfl ?_
          refine R_if_lt 115 dX10_settle_97 (by decide) (fun hc97 => ?_) (fun hc97 => ?_)
          · refine RJ.msk [true, true, true, true, false, false] _ rfl ?_
            refine R_iincN dX10_settle_115 rfl (by decide) rfl (by unfold inI; omega) [_, _, _, _, _, _] rfl ?_
            refine R_goto 20 dX10_settle_118 (by decide) ?_
            exact ihC (c + 1) g2 z2 (by omega) w2 hz2 (fun S hS => h1 S hS (by omega))
          · exact absurd (by omega) hc97
        | succ m ih =>
          intro x g2 z2 hx hm w2 hz2 hw h1 h2
          have hx : x = (m : Int) := by omega
          subst hx
          refine R_iload dX10_settle_95 rfl ?_
          refine R_if_lt 115 dX10_settle_97 (by decide) (fun hc97 => ?_) (fun hc97 => ?_)
          · exact absurd hc97 (by omega)
          refine R_aload_n dX10_settle_100 rfl ?_
          refine R_iload dX10_settle_101 rfl ?_
          refine R_iload_n dX10_settle_103 rfl ?_
          refine R_iload dX10_settle_104 rfl ?_
          refine R_callV (c_X10_widen (z := z2) hr (fun x hx => by rw [w2.at (by omega)]; exact hsp x hx) G T c (rv c) (by rw [← hGe, ← hTe]; exact GS_rv hs (n := c + 1) (by omega)) m ties (by omega) hTcl htie hw (fun S' hS' => h2 S' (by have := sub_le hS'; omega))) (mvX10_widen _) kiX10_widen kvX10_widen km10_88 rfl rfl (by decide) ⟨rfl, rfl, by decide, by decide⟩ (Nat.le_of_ble_eq_true rfl) dX10_settle_106 (fun v1 sh1 g3 z3 r1 hq => ?_)
          obtain ⟨⟨rfl, mo, nx, be, al, le, co, hAG, rfl, rfl⟩, rfl, rfl⟩ := hq
          refine R_iincN dX10_settle_109 rfl (by decide) rfl (by unfold inI; omega) [_, _, _, _, _, _] rfl ?_
          refine R_goto 95 dX10_settle_112 (by decide) ?_
          refine ih _ _ _ (by omega) (by omega) (w2.trans (WC.mk (fun c' _ a b d e => by rw [up2_ne e, up2_ne d, up2_ne b, up2_ne a]))) (fun c' a b => by rw [up2_ne b, up2_ne a]; exact hz2 c' a b) (fun q hq => by rw [up2_ne (by decide), up2_ne (by decide), up2_ne (by decide), up2_ne (by decide)]; exact hw q hq) (fun S hS hmS => ?_) (fun S hS => ?_)
          · by_cases hSm : S = m
            · subst hSm
              refine ⟨le, co, ?_, ?_, ?_⟩
              · simp [up2]
              · simp [up2]
              · simp [up2]; exact hAG
            · refine XI_cong ?_ ?_ ?_ ?_ ?_ ?_ (h1 S hS (by omega)) <;> simp [up2, hSm]
          · have hSm : S ≠ m := by omega
            refine XI_cong ?_ ?_ ?_ ?_ ?_ ?_ (h2 S (by omega)) <;> simp [up2, hSm]
      have fin1 : ∀ (g2 : GG), WC g g2 → (∀ q, q &&& ties = q → g2 42 q = wkS (G c q)) → (∀ S, S ≤ wh → XI g2 z1 G T (rv c) S) → RJ (mX10_settle (rmD 7 0 0)) 0 0 shW.length Q 0 0 shW 48 [some (vR (some 41)), some (vR (some 30)), some (vI ((wh : Int))), some (vI ((c : Int))), some (vI ((ties : Int))), some (vI (-1))] [] g2 z1 r := by
        intro g2 w2 hw hX2
        refine R_iload dX10_settle_48 rfl ?_
        refine R_if_lt 92 dX10_settle_50 (by decide) (fun hc50 => ?_) (fun hc50 => ?_)
        · refine R_iload_n dX10_settle_92 rfl ?_
          refine R_istore dX10_settle_93 (by decide) rfl [_, _, _, _, _, _] rfl ?_
          exact loop2 (wh + 1) _ g2 z1 (by omega) (by omega) w2 hz hw (fun S a b => by omega) (fun S hS => hX2 S (by omega))
        · exact absurd (by decide) hc50
      have loop1 : ∀ (n p : Nat) (g2 : GG), p < n → p &&& ties = p → WC g g2 → (∀ q, q &&& ties = q → p < q → g2 42 q = wkS (G c q)) → (∀ S, S ≤ wh → XI g2 z1 G T (rv c) S) → RJ (mX10_settle (rmD 7 0 0)) 0 0 shW.length Q 0 0 shW 48 [some (vR (some 41)), some (vR (some 30)), some (vI ((wh : Int))), some (vI ((c : Int))), some (vI ((ties : Int))), some (vI ((p : Int)))] [] g2 z1 r := by
        intro n
        induction n with
        | zero => intro p g2 hp; omega
        | succ n ih =>
          intro p g2 hp hpt w2 hw hX2
          have hp10 : p < 1024 := Nat.lt_of_le_of_lt (sub_le hpt) hTcl
          have hGp : G c p = (fam (vC g) c p).map (ptS (vC g) K (g 30 1) (g 30 2) (g 30 3) c) := by
            rw [← hGe]
            unfold GS
            rw [hTe, htie, if_pos hpt, if_neg (by omega)]
          refine R_iload dX10_settle_48 rfl ?_
          refine R_if_lt 92 dX10_settle_50 (by decide) (fun hc50 => ?_) (fun hc50 => ?_)
          · exact absurd hc50 (by omega)
          refine R_aload_n dX10_settle_53 rfl ?_
          refine R_getR _ (hr _ _ _ rfl) fd10_2 kf10_11 rfl dX10_settle_54 ?_
          refine R_iload dX10_settle_57 rfl ?_
          refine R_aload_n dX10_settle_59 rfl ?_
          refine R_getR _ (hr _ _ _ rfl) fd10_1 kf10_41 rfl dX10_settle_60 ?_
          refine R_iload_n dX10_settle_63 rfl ?_
          refine R_iload dX10_settle_64 rfl ?_
          refine R_aload_n dX10_settle_66 rfl ?_
          refine R_callV (c_X3_worth K (H.congW w2) c p (by rw [w2.at (by omega)]; omega) hp10 30 (Or.inl rfl)) (mvX3_worth _) kiX3_worth kvX3_worth km10_83 rfl rfl (by decide) ⟨rfl, rfl, by decide, by decide⟩ (Nat.le_of_ble_eq_true rfl) dX10_settle_67 (fun v1 sh1 g1 z1 r1 hq => ?_)
          obtain ⟨⟨s1, o3⟩, rfl, rfl, rfl⟩ := hq
          rw [w2.vC, w2.at (c := 30) (by omega)] at o3
          have hv : v1 = some (vI (wkS (G c p))) := by
            rw [hGp]
            rcases o3 with ⟨l, hfam, rfl, -⟩ | ⟨hfam, rfl⟩
            · rw [hfam]; rfl
            · rw [hfam]; rfl
          subst hv
          have w3 : WC g g1 := w2.trans s1.wc
          have hw3 : ∀ q, q &&& ties = q → p ≤ q → up2 g1 42 p (wkS (G c p)) 42 q = wkS (G c q) := by
            intro q hq hpq
            by_cases hqp : q = p
            · subst hqp; rw [up2_s]
            · rw [up2_k hqp, s1 42 (by unfold stc; omega) (by omega)]; exact hw q hq (by omega)
          have hX3 : ∀ S, S ≤ wh → XI (up2 g1 42 p (wkS (G c p))) z1 G T (rv c) S := by
            intro S hS
            refine XI_cong ?_ ?_ ?_ ?_ rfl rfl (hX2 S hS)
            · rw [up2_ne (by decide), s1 44 (by unfold stc; omega) (by omega)]
            · rw [up2_ne (by decide), s1 45 (by unfold stc; omega) (by omega)]
            · rw [up2_ne (by decide), s1 46 (by unfold stc; omega) (by omega)]
            · rw [up2_ne (by decide), s1 47 (by unfold stc; omega) (by omega)]
          have w4 : WC g (up2 g1 42 p (wkS (G c p))) := w3.trans (WC.mk (fun c' a _ _ _ _ => up2_ne a))
          refine R_iast rfl (by omega) (by omega) dX10_settle_70 ?_
          try rw [Int.toNat_natCast]
          generalize up2 g1 42 p (wkS (G c p)) = g4 at *
          refine R_iload dX10_settle_71 rfl ?_
          refine R_if_ne 80 dX10_settle_73 (by decide) (fun hc73 => ?_) (fun hc73 => ?_)
          · have hp0 : p ≠ 0 := by omega
            refine R_iload dX10_settle_80 rfl ?_
            refine R_iconst dX10_settle_82 rfl rfl ?_
            refine R_isubN dX10_settle_83 (by unfold inI; omega) ?_
            refine R_iload dX10_settle_84 rfl ?_
            refine R_iand dX10_settle_86 ?_
            rw [show (p : Int) - 1 = ((p - 1 : Nat) : Int) by omega, bAnd_n (by omega)]
            refine R_istore dX10_settle_87 (by decide) rfl [_, _, _, _, _, _] rfl ?_
            refine R_goto 48 dX10_settle_89 (by decide) ?_
            have hle : (p - 1) &&& ties ≤ p - 1 := Nat.and_le_left
            refine ih ((p - 1) &&& ties) _ (by omega) (by rw [Nat.and_assoc, Nat.and_self]) w4 (fun q hq hpq => hw3 q hq ?_) hX3
            by_cases h : q < p
            · have := sub_pred ties p q hpt hq h; omega
            · omega
          · have hp0 : p = 0 := by omega
            refine R_iconst dX10_settle_76 rfl rfl ?_
            refine R_goto 87 dX10_settle_77 (by decide) ?_
            refine R_istore dX10_settle_87 (by decide) rfl [_, _, _, _, _, _] rfl ?_
            refine R_goto 48 dX10_settle_89 (by decide) ?_
            exact fin1 _ w4 (fun q hq => hw3 q hq (by omega)) hX3
      refine R_istore dX10_settle_42 (by decide) rfl [_, _, _, _, _, _] rfl ?_
      refine R_iload dX10_settle_44 rfl ?_
      refine R_istore dX10_settle_46 (by decide) rfl [_, _, _, _, _, _] rfl ?_
      exact loop1 (ties + 1) ties g1 (by omega) (Nat.and_self _) w1 (fun q hq hlt => by have := sub_le hq; omega) hXI
  refine R_aload_n dX10_settle_0 rfl ?_
  refine R_getI fd10_10 kf10_49 rfl dX10_settle_1 ?_
  refine R_if_eq 8 dX10_settle_4 (by decide) (fun hc4 => ?_) (fun hc4 => ?_)
  · refine R_aload_n dX10_settle_8 rfl ?_
    refine R_callV (c_X10_whole hr hF) (mvX10_whole _) kiX10_whole kvX10_whole km10_65 rfl rfl (by decide) ⟨rfl, rfl, by decide, by decide⟩ (Nat.le_of_ble_eq_true rfl) dX10_settle_9 (fun v1 sh1 g1 z1 r1 hq => ?_)
    obtain ⟨rfl, rfl, rfl, rfl, rfl⟩ := hq
    rw [hwe]
    refine R_istore_n dX10_settle_12 (by decide) rfl [_, _, _, _, _, _] rfl ?_
    refine R_aload_n dX10_settle_13 rfl ?_
    refine R_iload_n dX10_settle_14 rfl ?_
    refine R_callV (c_X10_startEmpty hr G T wh hwh) (mvX10_startEmpty _) kiX10_startEmpty kvX10_startEmpty km10_69 rfl rfl (by decide) ⟨rfl, rfl, by decide, by decide⟩ (Nat.le_of_ble_eq_true rfl) dX10_settle_15 (fun v1 sh1 g1 z1 r1 hq => ?_)
    obtain ⟨⟨rfl, f1, f2, f3⟩, rfl, rfl⟩ := hq
    refine R_iconst dX10_settle_18 rfl rfl ?_
    refine R_istore_n dX10_settle_19 (by decide) rfl [_, _, _, _, _, _] rfl ?_
    exact loopC (g 5 5).toNat 0 _ _ (by omega) (WC.mk (fun c' _ a b d e => f1 c' a b d e)) f2 f3
  · rcases h0 with h0 | ⟨h0, hci⟩
    · exact absurd h0 hc4
    · refine R_return rfl (by decide) (by decide) dX10_settle_7 ?_
      rw [← hQ]
      refine ⟨⟨rfl, WC.rfl, fun _ _ _ => rfl, h0, ?_⟩, rfl, rfl⟩
      exact hci
end SETTLE
