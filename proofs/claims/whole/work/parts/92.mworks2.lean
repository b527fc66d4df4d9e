theorem GS_c {s : VW} {K : Nat → CUS} {a b Y : Int} (h : SBD s K a b Y) {c p : Nat} {w : Int} (hc : c ≠ 6) (hG : GS s K a b Y c p = some w) : -1000 ≤ w ∧ w ≤ 1000 := by
  unfold GS at hG
  split at hG
  · try rw [if_neg hc] at hG
    cases hf : fam s c p with
    | none => rw [hf] at hG; cases hG
    | some l =>
      rw [hf] at hG
      cases hG
      have h1 := fam_len hf
      have h2 := h.2.2.1
      exact h.2.2.2 c l (by omega)
  · cases hG
section MWORKS2
variable {g z : GG} {r : RR}
theorem m_works (K : Nat → CUS) (H : MP g r K) (hal : 0 ≤ g 74 9 ∧ g 74 9 ≤ 1000) (a b Y : Int) (Al : Nat → Nat) (hAl : ∀ i, i < 10 → g 115 i = (Al i : Int) ∧ Al i < 2 ^ 31) (hbr : ∀ c : Nat, (c : Int) < g 74 3 → ∀ S, S ≤ whS (vM g) → g 106 (1024 * c + S) = LOWN (GS (vM g) K a b Y c S)) : CT (mX12_works (rmD 3 0 0)) 0 0 shW [vR (some 74)] g z r (qZ shW r fun v g' z' => v = none ∧ WMg g g' ∧ WMz z z' ∧ XR g' z' (GR (vM g) K a b Y Al) (rv (g 74 3).toNat ++ [6]) (whS (vM g))) := by
  obtain ⟨hr, hB, hB2, hK⟩ := id H
  have hC := hB2.2.2.2.2.1
  have hF := hB2.2.2.2.2.2.1
  have hs := H.sbd hal a b Y
  refine CT.of 7 rfl rfl ?_
  generalize hQ : (qZ shW r fun v g' z' => v = none ∧ WMg g g' ∧ WMz z z' ∧ XR g' z' (GR (vM g) K a b Y Al) (rv (g 74 3).toNat ++ [6]) (whS (vM g))) = Q
  have hwh := whS_lt hs
  have hwi := wh_m hF
  have h6 : ∀ S, S ≤ whS (vM g) → AG4 (-100000000) (XW (GR (vM g) K a b Y Al) TT [6] S) (if S &&& brd Al (g 74 4).toNat 6 = 0 then -(g 74 9) * (popS S : Int) else -100000000) (-100000000) (if S &&& brd Al (g 74 4).toNat 6 = 0 then 1 else 0) (if S &&& brd Al (g 74 4).toNat 6 = 0 then 1 else 0) := fun S hS => XW_6 hs hS
  have hbrd : ∀ c, brd Al (g 74 4).toNat c < 1024 := fun c => by
    have h1 := bitU_lt (f := fun i => !(Al i).testBit c) (g 74 4).toNat
    have : (2 : Nat) ^ (g 74 4).toNat ≤ 2 ^ 10 := Nat.pow_le_pow_right (by decide) (by omega)
    unfold brd
    omega
  have hGR : ∀ c p, GR (vM g) K a b Y Al c p = if p &&& brd Al (g 74 4).toNat c = 0 then GS (vM g) K a b Y c p else none := fun c p => rfl
  have hGok : ∀ n, n ≤ 6 → XOK (GR (vM g) K a b Y Al) TT (rv n ++ [6]) := fun n hn => GR_ok hs hn
  have halb : ∀ S, -10000 ≤ -(g 74 9) * (popS S : Int) ∧ -(g 74 9) * (popS S : Int) ≤ 0 := fun S => alone_b (s := vM g) hal S
  generalize hGe : GR (vM g) K a b Y Al = G at *
  generalize hwe : whS (vM g) = wh at *
  have loopC : ∀ (n c : Nat) (g1 z1 : GG), (c : Int) + n = g 74 3 → WMg g g1 → WMz z z1 → (∀ S, S ≤ wh → XR g1 z1 G (rv c ++ [6]) S) → RJ (mX12_works (rmD 3 0 0)) 0 0 shW.length Q 0 0 shW 108 [some (vR (some 74)), some (vI ((wh : Int))), none, some (vI ((c : Int))), none, none, none, none] [] g1 z1 r := by
    intro n
    induction n with
    | zero =>
      intro c g1 z1 hc w1 y1 hX
      refine R_iload_n dX12_works_108 rfl ?_
      refine R_aload_n dX12_works_109 rfl ?_
      refine R_getI fd12_3 kf12_172 rfl dX12_works_110 ?_
      rw [w1 74 (by decide) (by decide) (by decide) (by decide)]
      refine R_icmp_ge 404 dX12_works_113 (by decide) (fun hc113 => ?_) (fun hc113 => ?_)
      · refine R_return rfl (by decide) (by decide) dX12_works_404 ?_
        rw [← hQ]
        exact ⟨⟨rfl, w1, y1, by rw [show (g 74 3).toNat = c by omega]; exact hX wh (Nat.le_refl _)⟩, rfl, rfl⟩
      · exact absurd (by omega) hc113
    | succ n ihC =>
      intro c g1 z1 hc w1 y1 hX
      have hout := hbrd c
      have hXc := hGok (c + 1) (by omega)
      have hrv : rv (c + 1) ++ [6] = c :: (rv c ++ [6]) := rfl
      rw [hrv] at hXc
      have copy : ∀ (m S : Nat) (g2 z2 : GG) (a5 a6 a7 : Option AV), S + m = wh + 1 → WMg g g2 → WMz z z2 → (∀ S', S' < S → XR g2 z2 G (c :: (rv c ++ [6])) S') → (∀ S', S' ≤ wh → XR2 g2 z2 G (c :: (rv c ++ [6])) S') → RJ (mX12_works (rmD 3 0 0)) 0 0 shW.length Q 0 0 shW 330 [some (vR (some 74)), some (vI (wh : Int)), some (vI (brd Al (g 74 4).toNat c : Nat)), some (vI (c : Int)), some (vI (S : Int)), a5, a6, a7] [] g2 z2 r := by
        intro m
        induction m with
        | zero =>
          intro S g2 z2 a5 a6 a7 hS w2 y2 h1 h2
          refine R_iload dX12_works_330 rfl ?_
          refine R_iload_n dX12_works_332 rfl ?_
          refine R_icmp_gt 398 dX12_works_333 (by decide) (fun hc333 => ?_) (fun hc333 => ?_)
          · refine RJ.msk [true, true, false, true, false, false, false, false] _ rfl ?_
            refine R_iincN dX12_works_398 rfl (by decide) rfl (by unfold inI; omega) [_, _, _, _, _, _, _, _] rfl ?_
            refine R_goto 108 dX12_works_401 (by decide) ?_
            exact ihC (c + 1) g2 z2 (by omega) w2 y2 (fun S' hS' => h1 S' (by omega))
          · exact absurd (by omega) hc333
        | succ m ih =>
          intro S g2 z2 a5 a6 a7 hS w2 y2 h1 h2
          have e2 := h2 S (by omega)
          refine R_iload dX12_works_330 rfl ?_
          refine R_iload_n dX12_works_332 rfl ?_
          refine R_icmp_gt 398 dX12_works_333 (by decide) (fun hc333 => ?_) (fun hc333 => ?_)
          · exact absurd hc333 (by omega)
          refine R_aload_n dX12_works_336 rfl ?_
          refine R_getR _ (hr _ _ _ rfl) fd12_53 kf12_124 rfl dX12_works_337 ?_
          refine R_iload dX12_works_340 rfl ?_
          refine R_aload_n dX12_works_342 rfl ?_
          refine R_getR _ (hr _ _ _ rfl) fd12_57 kf12_137 rfl dX12_works_343 ?_
          refine R_iload dX12_works_346 rfl ?_
          refine R_iald rfl (by omega) (by omega) dX12_works_348 ?_
          try rw [Int.toNat_natCast]
          refine R_iast rfl (by omega) (by omega) dX12_works_349 ?_
          try rw [Int.toNat_natCast]
          refine R_aload_n dX12_works_350 rfl ?_
          refine R_getR _ (hr _ _ _ rfl) fd12_54 kf12_127 rfl dX12_works_351 ?_
          try simp +decide only [up2_far, up2_s, up2_kk]
          refine R_iload dX12_works_354 rfl ?_
          refine R_aload_n dX12_works_356 rfl ?_
          refine R_getR _ (hr _ _ _ rfl) fd12_58 kf12_140 rfl dX12_works_357 ?_
          try simp +decide only [up2_far, up2_s, up2_kk]
          refine R_iload dX12_works_360 rfl ?_
          refine R_iald rfl (by omega) (by omega) dX12_works_362 ?_
          try rw [Int.toNat_natCast]
          try simp +decide only [up2_far, up2_s, up2_kk]
          refine R_iast rfl (by omega) (by omega) dX12_works_363 ?_
          try rw [Int.toNat_natCast]
          refine R_aload_n dX12_works_364 rfl ?_
          refine R_getR _ (hr _ _ _ rfl) fd12_55 kf12_130 rfl dX12_works_365 ?_
          try simp +decide only [up2_far, up2_s, up2_kk]
          refine R_iload dX12_works_368 rfl ?_
          refine R_aload_n dX12_works_370 rfl ?_
          refine R_getR _ (hr _ _ _ rfl) fd12_59 kf12_143 rfl dX12_works_371 ?_
          try simp +decide only [up2_far, up2_s, up2_kk]
          refine R_iload dX12_works_374 rfl ?_
          refine R_lald rfl (by omega) (by omega) dX12_works_376 ?_
          try rw [Int.toNat_natCast]
          try simp +decide only [up2_far, up2_s, up2_kk]
          refine R_last rfl (by omega) (by omega) dX12_works_377 ?_
          try rw [Int.toNat_natCast]
          refine R_aload_n dX12_works_378 rfl ?_
          refine R_getR _ (hr _ _ _ rfl) fd12_56 kf12_134 rfl dX12_works_379 ?_
          try simp +decide only [up2_far, up2_s, up2_kk]
          refine R_iload dX12_works_382 rfl ?_
          refine R_aload_n dX12_works_384 rfl ?_
          refine R_getR _ (hr _ _ _ rfl) fd12_60 kf12_146 rfl dX12_works_385 ?_
          try simp +decide only [up2_far, up2_s, up2_kk]
          refine R_iload dX12_works_388 rfl ?_
          refine R_lald rfl (by omega) (by omega) dX12_works_390 ?_
          try rw [Int.toNat_natCast]
          try simp +decide only [up2_far, up2_s, up2_kk]
          refine R_last rfl (by omega) (by omega) dX12_works_391 ?_
          try rw [Int.toNat_natCast]
          refine R_iincN dX12_works_392 rfl (by decide) rfl (by unfold inI; omega) [_, _, _, _, _, _, _, _] rfl ?_
          refine R_goto 330 dX12_works_395 (by decide) ?_
          refine ih (S + 1) _ _ _ _ _ (by omega) (w2.trans (fun c' a b d e => by rw [up2_ne b, up2_ne a])) (y2.trans (fun c' a b d e => by rw [up2_ne b, up2_ne a])) (fun S' hS' => ?_) (fun S' hS' => ?_)
          · unfold XR
            by_cases hSS : S' = S
            · subst hSS
              simp [up2]
              exact e2
            · have := h1 S' (by omega)
              simp [up2, hSS]
              exact this
          · have := h2 S' hS'
            unfold XR2
            simp [up2]
            exact this
      have loopS : ∀ (m S : Nat) (g2 z2 : GG) (a5 a6 a7 : Option AV), S + m = wh + 1 → (∀ c', c' ≠ 111 → c' ≠ 112 → g2 c' = g1 c') → (∀ c', c' ≠ 113 → c' ≠ 114 → z2 c' = z1 c') → (∀ S', S' < S → XR2 g2 z2 G (c :: (rv c ++ [6])) S') → RJ (mX12_works (rmD 3 0 0)) 0 0 shW.length Q 0 0 shW 125 [some (vR (some 74)), some (vI (wh : Int)), some (vI (brd Al (g 74 4).toNat c : Nat)), some (vI (c : Int)), some (vI (S : Int)), a5, a6, a7] [] g2 z2 r := by
        intro m
        induction m with
        | zero =>
          intro S g2 z2 a5 a6 a7 hS w2 y2 h2
          refine R_iload dX12_works_125 rfl ?_
          refine R_iload_n dX12_works_127 rfl ?_
          refine R_icmp_gt 327 dX12_works_128 (by decide) (fun hc128 => ?_) (fun hc128 => ?_)
          · refine R_iconst dX12_works_327 rfl rfl ?_
            refine R_istore dX12_works_328 (by decide) rfl [_, _, _, _, _, _, _, _] rfl ?_
            exact copy (wh + 1) 0 g2 z2 _ _ _ (by omega) (w1.trans (fun c' _ _ a b => w2 c' a b)) (y1.trans (fun c' _ _ a b => y2 c' a b)) (fun S' hS' => by omega) (fun S' hS' => h2 S' (by omega))
          · exact absurd (by omega) hc128
        | succ m ih =>
          intro S g2 z2 a5 a6 a7 hS w2 y2 h2
          refine R_iload dX12_works_125 rfl ?_
          refine R_iload_n dX12_works_127 rfl ?_
          refine R_icmp_gt 327 dX12_works_128 (by decide) (fun hc128 => ?_) (fun hc128 => ?_)
          · exact absurd hc128 (by omega)
          refine R_aload_n dX12_works_131 rfl ?_
          refine R_getR _ (hr _ _ _ rfl) fd12_57 kf12_137 rfl dX12_works_132 ?_
          refine R_iload dX12_works_135 rfl ?_
          refine R_ldc_wC (v := -100000000) kk12_404 (by decide +kernel) dX12_works_137 (by decide) ?_
          refine R_iast rfl (by omega) (by omega) dX12_works_140 ?_
          try rw [Int.toNat_natCast]
          refine R_aload_n dX12_works_141 rfl ?_
          refine R_getR _ (hr _ _ _ rfl) fd12_58 kf12_140 rfl dX12_works_142 ?_
          try simp +decide only [up2_far, up2_s, up2_kk]
          refine R_iload dX12_works_145 rfl ?_
          refine R_ldc_wC (v := -100000000) kk12_404 (by decide +kernel) dX12_works_147 (by decide) ?_
          refine R_iast rfl (by omega) (by omega) dX12_works_150 ?_
          try rw [Int.toNat_natCast]
          refine R_aload_n dX12_works_151 rfl ?_
          refine R_getR _ (hr _ _ _ rfl) fd12_59 kf12_143 rfl dX12_works_152 ?_
          try simp +decide only [up2_far, up2_s, up2_kk]
          refine R_iload dX12_works_155 rfl ?_
          refine R_lconst dX12_works_157 ?_
          refine R_last rfl (by omega) (by omega) dX12_works_158 ?_
          try rw [Int.toNat_natCast]
          refine R_aload_n dX12_works_159 rfl ?_
          refine R_getR _ (hr _ _ _ rfl) fd12_60 kf12_146 rfl dX12_works_160 ?_
          try simp +decide only [up2_far, up2_s, up2_kk]
          refine R_iload dX12_works_163 rfl ?_
          refine R_lconst dX12_works_165 ?_
          refine R_last rfl (by omega) (by omega) dX12_works_166 ?_
          try rw [Int.toNat_natCast]
          refine R_iload dX12_works_167 rfl ?_
          refine R_istore dX12_works_169 (by decide) rfl [_, _, _, _, _, _, _, _] rfl ?_
          have hXW : XW G TT (c :: (rv c ++ [6])) S = (sbF S (S + 1) S).flatMap (stF (G c) c (XW G TT (rv c ++ [6])) S) := by
            rw [XW_cons, show TT c = 1023 from rfl, lt_1023 (by omega)]
            rfl
          refine m_part hr G (brd Al (g 74 4).toNat c) c (by omega) hout (rv c ++ [6]) hXc wh S (by omega) (up2 (up2 g2 111 S (-100000000)) 112 S (-100000000)) (up2 (up2 z2 113 S (((0 : Fin 2) : Nat) : Int)) 114 S (((0 : Fin 2) : Nat) : Int)) (fun p hp => ?_) (fun p hp => ?_) (fun g4 z4 a6 a7 w4 x4 => ?_) (S + 1) S [] _ _ _ _ (by omega) (Nat.and_self _) (by rw [List.nil_append]; exact hXW.symm) ⟨fun _ _ _ => rfl, fun _ _ => ⟨rfl, rfl⟩, fun _ _ _ => rfl, fun _ _ => ⟨rfl, rfl⟩⟩ ?_
          · have hpl := sub_le hp
            refine ⟨GS (vM g) K a b Y c p, ?_, fun w hw => GS_c hs (by omega) hw, hGR c p⟩
            rw [up2_ne (by decide), up2_ne (by decide), w2 106 (by decide) (by decide), w1 106 (by decide) (by decide) (by decide) (by decide)]
            exact hbr c (by omega) p (by omega)
          · have hpl := sub_le hp
            have := hX p (by omega)
            unfold XR at this ⊢
            rw [up2_ne (by decide), up2_ne (by decide), up2_ne (by decide), up2_ne (by decide), up2_ne (by decide), up2_ne (by decide), up2_ne (by decide), up2_ne (by decide), w2 107 (by decide) (by decide), w2 108 (by decide) (by decide), y2 109 (by decide) (by decide), y2 110 (by decide) (by decide)]
            exact this
          · refine R_iincN dX12_works_321 rfl (by decide) rfl (by unfold inI; omega) [_, _, _, _, _, _, _, _] rfl ?_
            refine R_goto 125 dX12_works_324 (by decide) ?_
            refine ih (S + 1) g4 z4 _ _ _ (by omega) (fun c' a b => by rw [w4.1 c' a b, up2_ne b, up2_ne a]; exact w2 c' a b) (fun c' a b => by rw [w4.2.2.1 c' a b, up2_ne b, up2_ne a]; exact y2 c' a b) (fun S' hS' => ?_)
            by_cases hSS : S' = S
            · subst hSS; exact x4
            · have := h2 S' (by omega)
              unfold XR2 at this ⊢
              rw [(w4.2.1 S' hSS).1, (w4.2.1 S' hSS).2, (w4.2.2.2 S' hSS).1, (w4.2.2.2 S' hSS).2]
              simp [up2, hSS]
              exact this
          · simp [up2]
            exact AG4_nil
      refine R_iload_n dX12_works_108 rfl ?_
      refine R_aload_n dX12_works_109 rfl ?_
      refine R_getI fd12_3 kf12_172 rfl dX12_works_110 ?_
      rw [w1 74 (by decide) (by decide) (by decide) (by decide)]
      refine R_icmp_ge 404 dX12_works_113 (by decide) (fun hc113 => ?_) (fun hc113 => ?_)
      · exact absurd hc113 (by omega)
      refine R_aload_n dX12_works_116 rfl ?_
      refine R_iload_n dX12_works_117 rfl ?_
      refine R_callV (m_barred hr (by rw [w1 74 (by decide) (by decide) (by decide) (by decide)]; exact hF) Al (fun i hi => by rw [w1 115 (by decide) (by decide) (by decide) (by decide)]; exact hAl i hi) c (by omega)) (mvX12_barred _) kiX12_barred kvX12_barred km12_405 rfl rfl (by decide) ⟨rfl, rfl, by decide, by decide⟩ (Nat.le_of_ble_eq_true rfl) dX12_works_118 (fun v1 sh1 g1 z1 r1 hq => ?_)
      obtain ⟨rfl, rfl, rfl, rfl, rfl⟩ := hq
      rw [w1 74 (by decide) (by decide) (by decide) (by decide)]
      refine R_istore_n dX12_works_121 (by decide) rfl [_, _, _, _, _, _, _, _] rfl ?_
      refine R_iconst dX12_works_122 rfl rfl ?_
      refine R_istore dX12_works_123 (by decide) rfl [_, _, _, _, _, _, _, _] rfl ?_
      exact loopS (wh + 1) 0 g1 z1 _ _ _ (by omega) (fun _ _ _ => rfl) (fun _ _ _ => rfl) (fun S' hS' => by omega)
  have hout := hbrd 6
  have loop0 : ∀ (n i : Nat) (g1 z1 : GG), i + n = wh + 1 → WMg g g1 → WMz z z1 → (∀ S, S < i → XR g1 z1 G [6] S) → RJ (mX12_works (rmD 3 0 0)) 0 0 shW.length Q 0 0 shW 18 [some (vR (some 74)), some (vI ((wh : Int))), some (vI (((brd Al (g 74 4).toNat 6 : Nat) : Int))), some (vI ((i : Int))), none, none, none, none] [] g1 z1 r := by
    intro n
    induction n with
    | zero =>
      intro i g1 z1 hi w1 y1 hX
      refine R_iload_n dX12_works_18 rfl ?_
      refine R_iload_n dX12_works_19 rfl ?_
      refine R_icmp_gt 106 dX12_works_20 (by decide) (fun hc20 => ?_) (fun hc20 => ?_)
      · refine RJ.msk [true, true, false, false, false, false, false, false] _ rfl ?_
        refine R_iconst dX12_works_106 rfl rfl ?_
        refine R_istore_n dX12_works_107 (by decide) rfl [_, _, _, _, _, _, _, _] rfl ?_
        exact loopC (g 74 3).toNat 0 g1 z1 (by omega) w1 y1 (fun S hS => hX S (by omega))
      · exact absurd (by omega) hc20
    | succ n ih =>
      intro i g1 z1 hi w1 y1 hX
      have e6 := h6 i (by omega)
      have hai := halb i
      have e9 : g1 74 9 = g 74 9 := by rw [w1 74 (by decide) (by decide) (by decide) (by decide)]
      have fin : ∀ (v c1 : Int) (g2 z2 : GG), g2 = up2 (up2 g1 107 i v) 108 i (-100000000) → z2 = up2 (up2 z1 109 i c1) 110 i c1 → AG4 (-100000000) (XW G TT [6] i) v (-100000000) c1 c1 → ∀ S, S < i + 1 → XR g2 z2 G [6] S := by
        intro v c1 g2 z2 hg hz hA S hS
        subst hg hz
        unfold XR
        by_cases hSS : S = i
        · subst hSS; simp [up2]; exact hA
        · have := hX S (by omega)
          simp [up2, hSS]
          exact this
      refine R_iload_n dX12_works_18 rfl ?_
      refine R_iload_n dX12_works_19 rfl ?_
      refine R_icmp_gt 106 dX12_works_20 (by decide) (fun hc20 => ?_) (fun hc20 => ?_)
      · exact absurd hc20 (by omega)
      refine R_iload_n dX12_works_23 rfl ?_
      refine R_iload_n dX12_works_24 rfl ?_
      refine R_iand dX12_works_25 ?_
      rw [bAnd_n (by omega)]
      refine R_if_ne 33 dX12_works_26 (by decide) (fun hc26 => ?_) (fun hc26 => ?_)
      · have hz : ¬ i &&& brd Al (g 74 4).toNat 6 = 0 := by omega
        rw [if_neg hz, if_neg hz] at e6
        refine R_iconst dX12_works_33 rfl rfl ?_
        refine R_istore dX12_works_34 (by decide) rfl [_, _, _, _, _, _, _, _] rfl ?_
        refine R_aload_n dX12_works_36 rfl ?_
        refine R_getR _ (hr _ _ _ rfl) fd12_53 kf12_124 rfl dX12_works_37 ?_
        refine R_iload_n dX12_works_40 rfl ?_
        refine R_iload dX12_works_41 rfl ?_
        refine R_if_eq 59 dX12_works_43 (by decide) (fun hc43 => ?_) (fun hc43 => ?_)
        rotate_left
        · exact absurd rfl hc43
        refine R_ldc_wC (v := -100000000) kk12_404 (by decide +kernel) dX12_works_59 (by decide) ?_
        refine R_iast rfl (by omega) (by omega) dX12_works_62 ?_
        try rw [Int.toNat_natCast]
        refine R_aload_n dX12_works_63 rfl ?_
        refine R_getR _ (hr _ _ _ rfl) fd12_54 kf12_127 rfl dX12_works_64 ?_
        try simp +decide only [up2_far, up2_s, up2_kk]
        refine R_iload_n dX12_works_67 rfl ?_
        refine R_ldc_wC (v := -100000000) kk12_404 (by decide +kernel) dX12_works_68 (by decide) ?_
        refine R_iast rfl (by omega) (by omega) dX12_works_71 ?_
        try rw [Int.toNat_natCast]
        refine R_aload_n dX12_works_72 rfl ?_
        refine R_getR _ (hr _ _ _ rfl) fd12_55 kf12_130 rfl dX12_works_73 ?_
        try simp +decide only [up2_far, up2_s, up2_kk]
        refine R_iload_n dX12_works_76 rfl ?_
        refine R_iload dX12_works_77 rfl ?_
        refine R_if_eq 86 dX12_works_79 (by decide) (fun hc79 => ?_) (fun hc79 => ?_)
        rotate_left
        · exact absurd rfl hc79
        refine R_lconst dX12_works_86 ?_
        refine R_last rfl (by omega) (by omega) dX12_works_87 ?_
        try rw [Int.toNat_natCast]
        refine R_aload_n dX12_works_88 rfl ?_
        refine R_getR _ (hr _ _ _ rfl) fd12_56 kf12_134 rfl dX12_works_89 ?_
        try simp +decide only [up2_far, up2_s, up2_kk]
        refine R_iload_n dX12_works_92 rfl ?_
        refine R_aload_n dX12_works_93 rfl ?_
        refine R_getR _ (hr _ _ _ rfl) fd12_55 kf12_130 rfl dX12_works_94 ?_
        try simp +decide only [up2_far, up2_s, up2_kk]
        refine R_iload_n dX12_works_97 rfl ?_
        refine R_lald rfl (by omega) (by omega) dX12_works_98 ?_
        try rw [Int.toNat_natCast]
        try simp +decide only [up2_far, up2_s, up2_kk]
        refine R_last rfl (by omega) (by omega) dX12_works_99 ?_
        try rw [Int.toNat_natCast]
        refine RJ.msk [true, true, true, true, false, false, false, false] _ rfl ?_
        refine R_iincN dX12_works_100 rfl (by decide) rfl (by unfold inI; omega) [_, _, _, _, _, _, _, _] rfl ?_
        refine R_goto 18 dX12_works_103 (by decide) ?_
        exact ih (i + 1) _ _ (by omega) (w1.trans (fun c' a b d e => by rw [up2_ne b, up2_ne a])) (y1.trans (fun c' a b d e => by rw [up2_ne b, up2_ne a])) (fin _ _ _ _ rfl rfl e6)
      · have hz : i &&& brd Al (g 74 4).toNat 6 = 0 := by omega
        rw [if_pos hz, if_pos hz] at e6
        refine R_iconst dX12_works_29 rfl rfl ?_
        refine R_goto 34 dX12_works_30 (by decide) ?_
        refine R_istore dX12_works_34 (by decide) rfl [_, _, _, _, _, _, _, _] rfl ?_
        refine R_aload_n dX12_works_36 rfl ?_
        refine R_getR _ (hr _ _ _ rfl) fd12_53 kf12_124 rfl dX12_works_37 ?_
        refine R_iload_n dX12_works_40 rfl ?_
        refine R_iload dX12_works_41 rfl ?_
        refine R_if_eq 59 dX12_works_43 (by decide) (fun hc43 => ?_) (fun hc43 => ?_)
        · exact absurd hc43 (by decide)
        refine R_aload_n dX12_works_46 rfl ?_
        refine R_getI fd12_9 kf12_26 rfl dX12_works_47 ?_
        rw [e9]
        refine R_inegN dX12_works_50 (by unfold inI; omega) ?_
        refine R_iload_n dX12_works_51 rfl ?_
        refine R_callS (m_sizeOf i (by omega)) (mvX12_sizeOf _) ksX12_sizeOf km12_408 ⟨rfl, rfl, by decide, by decide⟩ (Nat.le_of_ble_eq_true rfl) dX12_works_52 (fun v1 sh1 g1 z1 r1 hq => ?_)
        obtain ⟨rfl, rfl, rfl, rfl, rfl⟩ := hq
        refine R_imulN dX12_works_55 (by unfold inI; omega) ?_
        refine R_goto 62 dX12_works_56 (by decide) ?_
        refine R_iast rfl (by omega) (by omega) dX12_works_62 ?_
        try rw [Int.toNat_natCast]
        refine R_aload_n dX12_works_63 rfl ?_
        refine R_getR _ (hr _ _ _ rfl) fd12_54 kf12_127 rfl dX12_works_64 ?_
        try simp +decide only [up2_far, up2_s, up2_kk]
        refine R_iload_n dX12_works_67 rfl ?_
        refine R_ldc_wC (v := -100000000) kk12_404 (by decide +kernel) dX12_works_68 (by decide) ?_
        refine R_iast rfl (by omega) (by omega) dX12_works_71 ?_
        try rw [Int.toNat_natCast]
        refine R_aload_n dX12_works_72 rfl ?_
        refine R_getR _ (hr _ _ _ rfl) fd12_55 kf12_130 rfl dX12_works_73 ?_
        try simp +decide only [up2_far, up2_s, up2_kk]
        refine R_iload_n dX12_works_76 rfl ?_
        refine R_iload dX12_works_77 rfl ?_
        refine R_if_eq 86 dX12_works_79 (by decide) (fun hc79 => ?_) (fun hc79 => ?_)
        · exact absurd hc79 (by decide)
        refine R_lconst dX12_works_82 ?_
        refine R_goto 87 dX12_works_83 (by decide) ?_
        refine R_last rfl (by omega) (by omega) dX12_works_87 ?_
        try rw [Int.toNat_natCast]
        refine R_aload_n dX12_works_88 rfl ?_
        refine R_getR _ (hr _ _ _ rfl) fd12_56 kf12_134 rfl dX12_works_89 ?_
        try simp +decide only [up2_far, up2_s, up2_kk]
        refine R_iload_n dX12_works_92 rfl ?_
        refine R_aload_n dX12_works_93 rfl ?_
        refine R_getR _ (hr _ _ _ rfl) fd12_55 kf12_130 rfl dX12_works_94 ?_
        try simp +decide only [up2_far, up2_s, up2_kk]
        refine R_iload_n dX12_works_97 rfl ?_
        refine R_lald rfl (by omega) (by omega) dX12_works_98 ?_
        try rw [Int.toNat_natCast]
        try simp +decide only [up2_far, up2_s, up2_kk]
        refine R_last rfl (by omega) (by omega) dX12_works_99 ?_
        try rw [Int.toNat_natCast]
        refine RJ.msk [true, true, true, true, false, false, false, false] _ rfl ?_
        refine R_iincN dX12_works_100 rfl (by decide) rfl (by unfold inI; omega) [_, _, _, _, _, _, _, _] rfl ?_
        refine R_goto 18 dX12_works_103 (by decide) ?_
        exact ih (i + 1) _ _ (by omega) (w1.trans (fun c' a b d e => by rw [up2_ne b, up2_ne a])) (y1.trans (fun c' a b d e => by rw [up2_ne b, up2_ne a])) (fin _ _ _ _ rfl rfl e6)
  refine R_iconst dX12_works_0 rfl rfl ?_
  refine R_aload_n dX12_works_1 rfl ?_
  refine R_getI fd12_4 kf12_175 rfl dX12_works_2 ?_
  refine R_ishl dX12_works_5 ?_
  rw [hwi]
  refine R_iconst dX12_works_6 rfl rfl ?_
  refine R_isubN dX12_works_7 (by unfold inI; omega) ?_
  refine R_istore_n dX12_works_8 (by decide) rfl [_, _, _, _, _, _, _, _] rfl ?_
  refine R_aload_n dX12_works_9 rfl ?_
  refine R_bipush dX12_works_10 rfl (by decide +kernel) ?_
  rw [show ((wh + 1 : Nat) : Int) - 1 = (wh : Int) by omega]
  refine R_callV (m_barred hr hF Al hAl 6 (by decide)) (mvX12_barred _) kiX12_barred kvX12_barred km12_405 rfl rfl (by decide) ⟨rfl, rfl, by decide, by decide⟩ (Nat.le_of_ble_eq_true rfl) dX12_works_12 (fun v1 sh1 g1 z1 r1 hq => ?_)
  obtain ⟨rfl, rfl, rfl, rfl, rfl⟩ := hq
  refine R_istore_n dX12_works_15 (by decide) rfl [_, _, _, _, _, _, _, _] rfl ?_
  refine R_iconst dX12_works_16 rfl rfl ?_
  refine R_istore_n dX12_works_17 (by decide) rfl [_, _, _, _, _, _, _, _] rfl ?_
  exact loop0 (wh + 1) 0 g z (by omega) (fun _ _ _ _ _ => rfl) (fun _ _ _ _ _ => rfl) (fun S hS => by omega)
theorem m_allows (hr : RS r) : CT (mX12_allows (rmD 0 0 0)) 0 0 shW [vR (some 74)] g z r (qG shW z r fun v g' => v = none ∧ (∀ c', c' ≠ 115 → g' c' = g c') ∧ ∀ i, i < 10 → g' 115 i = 127) := by
  refine CT.of 1 rfl rfl ?_
  generalize hQ : (qG shW z r fun v g' => v = none ∧ (∀ c', c' ≠ 115 → g' c' = g c') ∧ ∀ i, i < 10 → g' 115 i = 127) = Q
  have loop : ∀ (n i : Nat) (g1 : GG), i + n = 10 → (∀ c', c' ≠ 115 → g1 c' = g c') → (∀ j, j < i → g1 115 j = 127) → RJ (mX12_allows (rmD 0 0 0)) 0 0 shW.length Q 0 0 shW 2 [some (vR (some 74)), some (vI ((i : Int)))] [] g1 z r := by
    intro n
    induction n with
    | zero =>
      intro i g1 hi h1 h2
      refine R_iload_n dX12_allows_2 rfl ?_
      refine R_bipush dX12_allows_3 rfl (by decide +kernel) ?_
      refine R_icmp_ge 22 dX12_allows_5 (by decide) (fun hc5 => ?_) (fun hc5 => ?_)
      · refine R_return rfl (by decide) (by decide) dX12_allows_22 ?_
        rw [← hQ]
        exact ⟨⟨rfl, h1, fun j hj => h2 j (by omega)⟩, rfl, rfl, rfl⟩
      · exact absurd (by omega) hc5
    | succ n ih =>
      intro i g1 hi h1 h2
      refine R_iload_n dX12_allows_2 rfl ?_
      refine R_bipush dX12_allows_3 rfl (by decide +kernel) ?_
      refine R_icmp_ge 22 dX12_allows_5 (by decide) (fun hc5 => ?_) (fun hc5 => ?_)
      · exact absurd hc5 (by omega)
      refine R_aload_n dX12_allows_8 rfl ?_
      refine R_getR _ (hr _ _ _ rfl) fd12_61 kf12_149 rfl dX12_allows_9 ?_
      refine R_iload_n dX12_allows_12 rfl ?_
      refine R_bipush dX12_allows_13 rfl (by decide +kernel) ?_
      refine R_iast rfl (by omega) (by omega) dX12_allows_15 ?_
      try rw [Int.toNat_natCast]
      refine R_iincN dX12_allows_16 rfl (by decide) rfl (by unfold inI; omega) [_, _] rfl ?_
      refine R_goto 2 dX12_allows_19 (by decide) ?_
      refine ih (i + 1) _ (by omega) (fun c' a => by rw [up2_ne a]; exact h1 c' a) (fun j hj => ?_)
      by_cases hji : j = i
      · subst hji; rw [up2_s]
      · rw [up2_k hji]; exact h2 j (by omega)
  refine R_iconst dX12_allows_0 rfl rfl ?_
  refine R_istore_n dX12_allows_1 (by decide) rfl [_, _] rfl ?_
  exact loop 10 0 g (by omega) (fun _ _ => rfl) (fun j hj => by omega)
/-- as SM, with what families bring -/
def SM5 (g g' : GG) : Prop := (∀ c', c' ≠ 74 → c' ≤ 100 ∨ 107 ≤ c' → g' c' = g c') ∧ ∀ k, k ≠ 45 → k ≠ 46 → g' 74 k = g 74 k
theorem SM5.rfl {g : GG} : SM5 g g := ⟨fun _ _ _ => Eq.refl _, fun _ _ _ => Eq.refl _⟩
theorem SM5.trans {g g1 g2 : GG} (h1 : SM5 g g1) (h2 : SM5 g1 g2) : SM5 g g2 := ⟨fun c' a b => (h2.1 c' a b).trans (h1.1 c' a b), fun k a b => (h2.2 k a b).trans (h1.2 k a b)⟩
theorem SM.sm5 {g g' : GG} (h : SM g g') : SM5 g g' := ⟨fun c' a b => h.1 c' a (by omega), h.2⟩
/-- as SM, with all that finds changes -/
def FMd (g g' : GG) : Prop := (∀ c', c' ≠ 74 → c' ≤ 100 ∨ 117 ≤ c' → g' c' = g c') ∧ ∀ k, k ≠ 45 → k ≠ 46 → k ≠ 23 → k ≠ 62 → k ≠ 63 → g' 74 k = g 74 k
theorem FMd.rfl {g : GG} : FMd g g := ⟨fun _ _ _ => Eq.refl _, fun _ _ _ _ _ _ => Eq.refl _⟩
theorem FMd.trans {g g1 g2 : GG} (h1 : FMd g g1) (h2 : FMd g1 g2) : FMd g g2 := ⟨fun c' a b => (h2.1 c' a b).trans (h1.1 c' a b), fun k a b d e f => (h2.2 k a b d e f).trans (h1.2 k a b d e f)⟩
theorem SM5.fmd {g g' : GG} (h : SM5 g g') : FMd g g' := ⟨fun c' a b => h.1 c' a (by omega), fun k a b _ _ _ => h.2 k a b⟩
theorem SM.fmd {g g' : GG} (h : SM g g') : FMd g g' := h.sm5.fmd
theorem WMg.fmd {g g' : GG} (h : WMg g g') : FMd g g' := ⟨fun c' a b => h c' (by omega) (by omega) (by omega) (by omega), fun k _ _ _ _ _ => by rw [h 74 (by decide) (by decide) (by decide) (by decide)]⟩
theorem FMd.vM {g g' : GG} (h : FMd g g') : vM g' = vM g := vM_cong (fun c a b => h.1 c (by omega) (by omega)) (fun k a b => h.2 k (by omega) (by omega) (by omega) (by omega) (by omega))
theorem FMd.tM {g g' : GG} (h : FMd g g') : tM g' = tM g := by
  funext i
  show bAnd (g' 75 i) 255 = bAnd (g 75 i) 255
  rw [h.1 75 (by decide) (by decide)]
theorem FMd.MP {g g' : GG} {r : RR} {K : Nat → CUS} (h : FMd g g') (H : MP g r K) : MP g' r K := by
  obtain ⟨h1, h2, h3, h4⟩ := H
  refine ⟨h1, ?_, ?_, kmK_cong (fun c a b => h.1 c (by omega) (by omega)) h4⟩
  · show _ ∧ _
    rw [h.1 84 (by decide) (by decide), h.1 83 (by decide) (by decide), h.1 76 (by decide) (by decide), h.1 80 (by decide) (by decide), h.1 77 (by decide) (by decide), h.2 8 (by decide) (by decide) (by decide) (by decide) (by decide)]
    exact h2
  · show _ ∧ _
    rw [h.1 78 (by decide) (by decide), h.1 79 (by decide) (by decide), h.1 82 (by decide) (by decide), h.1 87 (by decide) (by decide), h.1 83 (by decide) (by decide), h.2 2 (by decide) (by decide) (by decide) (by decide) (by decide), h.2 3 (by decide) (by decide) (by decide) (by decide) (by decide), h.2 4 (by decide) (by decide) (by decide) (by decide) (by decide)]
    exact h3
theorem m_families (K : Nat → CUS) (H : MP g r K) (hal : 0 ≤ g 74 9 ∧ g 74 9 ≤ 1000) (hA : -1 ≤ g 74 5 ∧ g 74 5 < 4) (hA2 : -1 ≤ g 74 6 ∧ g 74 6 < 4) : CT (mX12_families (rmD 6 0 0)) 0 0 shW [vR (some 74)] g z r (qG shW z r fun v g' => v = none ∧ SM5 g g' ∧ ∀ c : Nat, (c : Int) < g 74 3 → ∀ S, S ≤ whS (vM g) → g' 106 (1024 * c + S) = LOWN (GS (vM g) K (g 74 5) (g 74 6) (g 74 7) c S)) := by
  obtain ⟨hr, hB, hB2, hK⟩ := id H
  have hC := hB2.2.2.2.2.1
  have hF := hB2.2.2.2.2.2.1
  have hs := H.sbd hal (g 74 5) (g 74 6) (g 74 7)
  refine CT.of 2 rfl rfl ?_
  generalize hQ : (qG shW z r fun v g' => v = none ∧ SM5 g g' ∧ ∀ c : Nat, (c : Int) < g 74 3 → ∀ S, S ≤ whS (vM g) → g' 106 (1024 * c + S) = LOWN (GS (vM g) K (g 74 5) (g 74 6) (g 74 7) c S)) = Q
  have hwh := whS_lt hs
  have hwi := wh_m hF
  have hGf : ∀ c S, c ≠ 6 → S ≤ whS (vM g) → GS (vM g) K (g 74 5) (g 74 6) (g 74 7) c S = (fam (vM g) c S).map (ptS (vM g) K (g 74 5) (g 74 6) (g 74 7) c) := fun c S hc hS => GS_fam hc hS
  generalize hGe : GS (vM g) K (g 74 5) (g 74 6) (g 74 7) = G at *
  generalize hwe : whS (vM g) = wh at *
  have loopC : ∀ (n c : Nat) (g1 : GG) (a2 : Option AV), (c : Int) + n = g 74 3 → SM5 g g1 → (∀ c' : Nat, c' < c → ∀ S, S ≤ wh → g1 106 (1024 * c' + S) = LOWN (G c' S)) → RJ (mX12_families (rmD 6 0 0)) 0 0 shW.length Q 0 0 shW 2 [some (vR (some 74)), some (vI (c : Int)), a2] [] g1 z r := by
    intro n
    induction n with
    | zero =>
      intro c g1 a2 hc s1 h1
      refine R_iload_n dX12_families_2 rfl ?_
      refine R_aload_n dX12_families_3 rfl ?_
      refine R_getI fd12_3 kf12_172 rfl dX12_families_4 ?_
      rw [s1.2 3 (by decide) (by decide)]
      refine R_icmp_ge 67 dX12_families_7 (by decide) (fun hc7 => ?_) (fun hc7 => ?_)
      · refine R_return rfl (by decide) (by decide) dX12_families_67 ?_
        rw [← hQ]
        exact ⟨⟨rfl, s1, fun c' hc' S hS => h1 c' (by omega) S hS⟩, rfl, rfl, rfl⟩
      · exact absurd (by omega) hc7
    | succ n ihC =>
      intro c g1 a2 hc s1 h1
      have hc6 : c < 6 := by omega
      have loopS : ∀ (m S : Nat) (g2 : GG), S + m = wh + 1 → SM5 g g2 → (∀ c' : Nat, c' < c → ∀ S, S ≤ wh → g2 106 (1024 * c' + S) = LOWN (G c' S)) → (∀ S', S' < S → g2 106 (1024 * c + S') = LOWN (G c S')) → RJ (mX12_families (rmD 6 0 0)) 0 0 shW.length Q 0 0 shW 12 [some (vR (some 74)), some (vI ((c : Int))), some (vI ((S : Int)))] [] g2 z r := by
        intro m
        induction m with
        | zero =>
          intro S g2 hS s2 h2 h3
          refine R_iload_n dX12_families_12 rfl ?_
          refine R_iconst dX12_families_13 rfl rfl ?_
          refine R_aload_n dX12_families_14 rfl ?_
          refine R_getI fd12_4 kf12_175 rfl dX12_families_15 ?_
          rw [s2.2 4 (by decide) (by decide)]
          refine R_ishl dX12_families_18 ?_
          rw [hwi]
          refine R_icmp_ge 61 dX12_families_19 (by decide) (fun hc19 => ?_) (fun hc19 => ?_)
          · refine R_iincN dX12_families_61 rfl (by decide) rfl (by unfold inI; omega) [_, _, _] rfl ?_
            refine R_goto 2 dX12_families_64 (by decide) ?_
            refine ihC (c + 1) g2 _ (by omega) s2 (fun c' hc' S' hS' => ?_)
            by_cases hcc : c' = c
            · subst hcc; exact h3 S' (by omega)
            · exact h2 c' (by omega) S' hS'
          · exact absurd (by omega) hc19
        | succ m ih =>
          intro S g2 hS s2 h2 h3
          have fin : ∀ (g3 : GG) (v : Int), SM5 g g3 → (∀ k, g3 106 k = g2 106 k) → v = LOWN (G c S) → RJ (mX12_families (rmD 6 0 0)) 0 0 shW.length Q 0 0 shW 54 [some (vR (some 74)), some (vI (c : Int)), some (vI (S : Int))] [vI v, vI (1024 * (c : Int) + (S : Int)), vR (some 106)] g3 z r := by
            intro g3 v s3 h106 hv
            refine R_iast rfl (by omega) (by omega) dX12_families_54 ?_
            rw [show ((1024 : Int) * (c : Int) + (S : Int)).toNat = 1024 * c + S by omega]
            refine R_iincN dX12_families_55 rfl (by decide) rfl (by unfold inI; omega) [_, _, _] rfl ?_
            refine R_goto 12 dX12_families_58 (by decide) ?_
            refine ih (S + 1) _ (by omega) ⟨fun c' a b => by rw [up2_ne (by omega)]; exact s3.1 c' a b, fun k a b => by rw [up2_ne (by decide)]; exact s3.2 k a b⟩ (fun c' hc' S' hS' => ?_) (fun S' hS' => ?_)
            · rw [up2_k (by omega), h106]; exact h2 c' hc' S' hS'
            · by_cases hSS : S' = S
              · subst hSS; rw [up2_s]; exact hv
              · rw [up2_k (by omega), h106]; exact h3 S' (by omega)
          have HS := s2.fmd.MP H
          refine R_iload_n dX12_families_12 rfl ?_
          refine R_iconst dX12_families_13 rfl rfl ?_
          refine R_aload_n dX12_families_14 rfl ?_
          refine R_getI fd12_4 kf12_175 rfl dX12_families_15 ?_
          rw [s2.2 4 (by decide) (by decide)]
          refine R_ishl dX12_families_18 ?_
          rw [hwi]
          refine R_icmp_ge 61 dX12_families_19 (by decide) (fun hc19 => ?_) (fun hc19 => ?_)
          · exact absurd hc19 (by omega)
          refine R_aload_n dX12_families_22 rfl ?_
          refine R_getR _ (hr _ _ _ rfl) fd12_52 kf12_121 rfl dX12_families_23 ?_
          refine R_sipush dX12_families_26 rfl (by decide +kernel) ?_
          refine R_iload_n dX12_families_29 rfl ?_
          refine R_imulN dX12_families_30 (by unfold inI; omega) ?_
          refine R_iload_n dX12_families_31 rfl ?_
          refine R_iaddN dX12_families_32 (by unfold inI; omega) ?_
          refine R_aload_n dX12_families_33 rfl ?_
          refine R_iload_n dX12_families_34 rfl ?_
          refine R_iload_n dX12_families_35 rfl ?_
          refine R_callV (m_canFamily hr HS.2.1 (by rw [s2.2 4 (by decide) (by decide)]; exact hF) c hc6 S (by omega)) (mvX12_canFamily _) kiX12_canFamily kvX12_canFamily km12_394 rfl rfl (by decide) ⟨rfl, rfl, by decide, by decide⟩ (Nat.le_of_ble_eq_true rfl) dX12_families_36 (fun v1 sh1 g3 z1 r1 hq => ?_)
          obtain ⟨⟨rfl, s3, o2, o3⟩, rfl, rfl, rfl⟩ := hq
          rw [s2.fmd.vM]
          have s23 := s2.trans s3.sm5
          have h106 : ∀ k, g3 106 k = g2 106 k := fun k => by rw [s3.1 106 (by decide) (by decide)]
          by_cases hf : (fam (vM g) c S).isSome = true
          · rw [bi_t hf]
            refine R_if_eq 51 dX12_families_39 (by decide) (fun hc39 => ?_) (fun hc39 => ?_)
            · exact absurd hc39 (by decide)
            refine R_aload_n dX12_families_42 rfl ?_
            refine R_iload_n dX12_families_43 rfl ?_
            refine R_iload_n dX12_families_44 rfl ?_
            refine R_callV (m_pointsOf K (s23.fmd.MP H) c hc6 S (by omega) (by rw [s23.2 5 (by decide) (by decide)]; exact hA) (by rw [s23.2 6 (by decide) (by decide)]; exact hA2)) (mvX12_pointsOf _) kiX12_pointsOf kvX12_pointsOf km12_397 rfl rfl (by decide) ⟨rfl, rfl, by decide, by decide⟩ (Nat.le_of_ble_eq_true rfl) dX12_families_45 (fun v1 sh1 g4 z1 r1 hq => ?_)
            obtain ⟨⟨s4, rfl⟩, rfl, rfl, rfl⟩ := hq
            have hfe : fam (vM g) c S = some (kM (g 84) S (g 74 4).toNat) := fam_m hf
            rw [s23.fmd.vM, s23.2 5 (by decide) (by decide), s23.2 6 (by decide) (by decide), s23.2 7 (by decide) (by decide), s23.2 4 (by decide) (by decide), s23.1 84 (by decide) (by decide)]
            refine R_goto 54 dX12_families_48 (by decide) ?_
            refine fin g4 _ (s23.trans s4.sm5) (fun k => by rw [s4.1 106 (by decide) (by decide)]; exact h106 k) ?_
            rw [hGf c S (by omega) (by omega), hfe]
            rfl
          · rw [bi_f hf]
            have hfe : fam (vM g) c S = none := by cases hx : fam (vM g) c S with | none => rfl | some l => rw [hx] at hf; exact absurd rfl hf
            refine R_if_eq 51 dX12_families_39 (by decide) (fun hc39 => ?_) (fun hc39 => ?_)
            · refine R_ldc_wC (v := -100000000) kk12_404 (by decide +kernel) dX12_families_51 (by decide) ?_
              refine fin g3 _ s23 h106 ?_
              rw [hGf c S (by omega) (by omega), hfe]
              rfl
            · exact absurd rfl hc39
      refine R_iload_n dX12_families_2 rfl ?_
      refine R_aload_n dX12_families_3 rfl ?_
      refine R_getI fd12_3 kf12_172 rfl dX12_families_4 ?_
      rw [s1.2 3 (by decide) (by decide)]
      refine R_icmp_ge 67 dX12_families_7 (by decide) (fun hc7 => ?_) (fun hc7 => ?_)
      · exact absurd hc7 (by omega)
      refine R_iconst dX12_families_10 rfl rfl ?_
      refine R_istore_n dX12_families_11 (by decide) rfl [_, _, _] rfl ?_
      exact loopS (wh + 1) 0 g1 (by omega) s1 h1 (fun S' hS' => by omega)
  refine R_iconst dX12_families_0 rfl rfl ?_
  refine R_istore_n dX12_families_1 (by decide) rfl [_, _, _] rfl ?_
  exact loopC (g 74 3).toNat 0 g _ (by omega) SM5.rfl (fun c' hc' => by omega)
end MWORKS2
