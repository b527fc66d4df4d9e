theorem fmS_lt' {s : VW} {le c : Nat} (h : 0 ≤ s 0 2 ∧ s 0 2 ≤ 10) : fmS s le c < 1024 := by
  have h1 := setR_lt (T := fun i => (fld le i : Int)) (c := (c : Int)) (s 0 2).toNat
  have hp : (2 : Nat) ^ (s 0 2).toNat ≤ 2 ^ 10 := Nat.pow_le_pow_right (by decide) (by omega)
  unfold fmS
  omega
section MWPUB2
variable {g z : GG} {r : RR}
theorem m_grand (K : Nat → CUS) (H : WQ g z r K) (c w : Int) : CT (mX12_grand (rmD 9 0 0)) 0 0 shW [vR (some 74), vI c, vI w] g z r (qZ shW r fun v g' z' => (¬ ((0 ≤ c ∧ c < g 74 3) ∧ 0 ≤ w ∧ w < 4) ∧ v = some (vI (-1)) ∧ g' = g ∧ z' = z) ∨ (((0 ≤ c ∧ c < g 74 3) ∧ 0 ≤ w ∧ w < 4) ∧ (vM g) 7 (c.toNat * 4 + w.toNat) ≠ -1 ∧ v = some (vI (bShl 1 ((vM g) 7 (c.toNat * 4 + w.toNat)))) ∧ g' = g ∧ z' = z) ∨ (((0 ≤ c ∧ c < g 74 3) ∧ 0 ≤ w ∧ w < 4) ∧ (vM g) 7 (c.toNat * 4 + w.toNat) = -1 ∧ FSt g z g' z' K ∧ ∃ le l, LeIs (WSm g K) le ∧ fam (vM g) c.toNat (fmS (vM g) le c.toNat) = some l ∧ v = some (vI (nfS (vM g) (ltS (vM g) K (g 74 5) (g 74 6) (g 74 7) c.toNat l) l w.toNat : Nat)))) := by
  have hr := H.1.1
  obtain ⟨HM, hal, ⟨hA, hA2⟩, -⟩ := id H
  have hK := HM.2.2.2
  have hF := H.1.2.2.1.2.2.2.2.2.1
  have hC := H.1.2.2.1.2.2.2.2.1
  have hs := H.sbd
  refine CT.of 0 rfl rfl ?_
  by_cases hc : 0 ≤ c ∧ c < g 74 3
  rotate_left
  · refine R_aload_n dX12_grand_0 rfl ?_
    refine R_iload_n dX12_grand_1 rfl ?_
    refine R_callV (m_isCouple hC c) (mvX12_isCouple _) kiX12_isCouple kvX12_isCouple km12_193 rfl rfl (by decide) ⟨rfl, rfl, by decide, by decide⟩ (Nat.le_of_ble_eq_true rfl) dX12_grand_2 (fun v1 sh1 g1 z1 r1 hq => ?_)
    obtain ⟨rfl, rfl, rfl, rfl, rfl⟩ := hq
    rw [b2i_f hc]
    refine R_if_eq 20 dX12_grand_5 (by decide) (fun hc5 => ?_) (fun hc5 => ?_)
    · refine R_iconst dX12_grand_20 rfl rfl ?_
      refine R_ireturn rfl (by first | rfl | exact nar_b2i | exact nar_bi) (by decide) (by decide) dX12_grand_21 ?_
      exact ⟨Or.inl ⟨fun q => hc q.1, rfl, rfl, rfl⟩, rfl, rfl⟩
    · exact absurd rfl hc5
  obtain ⟨cn, rfl⟩ : ∃ cn : Nat, c = (cn : Int) := ⟨c.toNat, by omega⟩
  refine R_aload_n dX12_grand_0 rfl ?_
  refine R_iload_n dX12_grand_1 rfl ?_
  refine R_callV (m_isCouple hC (cn : Int)) (mvX12_isCouple _) kiX12_isCouple kvX12_isCouple km12_193 rfl rfl (by decide) ⟨rfl, rfl, by decide, by decide⟩ (Nat.le_of_ble_eq_true rfl) dX12_grand_2 (fun v1 sh1 g1 z1 r1 hq => ?_)
  obtain ⟨rfl, rfl, rfl, rfl, rfl⟩ := hq
  rw [b2i_t hc]
  refine R_if_eq 20 dX12_grand_5 (by decide) (fun hc5 => ?_) (fun hc5 => ?_)
  · exact absurd hc5 (by decide)
  refine R_iload_n dX12_grand_8 rfl ?_
  refine R_i2l dX12_grand_9 ?_
  refine R_lconst dX12_grand_10 ?_
  refine R_ldc2_w (v := 3) kk12_196 dX12_grand_11 (by decide) ?_
  refine R_callS (m_lies w 0 3) (mvX12_lies _) ksX12_lies km12_164 ⟨rfl, rfl, by decide, by decide⟩ (Nat.le_of_ble_eq_true rfl) dX12_grand_14 (fun v1 sh1 g1 z1 r1 hq => ?_)
  obtain ⟨rfl, rfl, rfl, rfl, rfl⟩ := hq
  by_cases hw0 : 0 ≤ w ∧ w ≤ 3
  rotate_left
  · rw [b2i_f hw0]
    refine R_if_ne 22 dX12_grand_17 (by decide) (fun hc17 => ?_) (fun hc17 => ?_)
    · exact absurd rfl hc17
    · refine R_iconst dX12_grand_20 rfl rfl ?_
      refine R_ireturn rfl (by first | rfl | exact nar_b2i | exact nar_bi) (by decide) (by decide) dX12_grand_21 ?_
      exact ⟨Or.inl ⟨fun q => by omega, rfl, rfl, rfl⟩, rfl, rfl⟩
  rw [b2i_t hw0]
  obtain ⟨wn, rfl⟩ : ∃ wn : Nat, w = (wn : Int) := ⟨w.toNat, by omega⟩
  have hw : 0 ≤ (wn : Int) ∧ (wn : Int) < 4 := by omega
  have e7 : (vM g) 7 (cn * 4 + wn) = g 82 (cn * 4 + wn) := rfl
  have ei : ((4 : Int) * (cn : Int) + (wn : Int)).toNat = cn * 4 + wn := by omega
  simp only [Int.toNat_natCast]
  refine R_if_ne 22 dX12_grand_17 (by decide) (fun hc17 => ?_) (fun hc17 => ?_)
  rotate_left
  · exact absurd hc17 (by decide)
  refine R_aload_n dX12_grand_22 rfl ?_
  refine R_getR _ (hr _ _ _ rfl) fd12_16 kf12_48 rfl dX12_grand_23 ?_
  refine R_iconst dX12_grand_26 rfl rfl ?_
  refine R_iload_n dX12_grand_27 rfl ?_
  refine R_imulN dX12_grand_28 (by unfold inI; omega) ?_
  refine R_iload_n dX12_grand_29 rfl ?_
  refine R_iaddN dX12_grand_30 (by unfold inI; omega) ?_
  refine R_iald rfl (by omega) (by omega) dX12_grand_31 ?_
  rw [ei]
  refine R_iconst dX12_grand_32 rfl rfl ?_
  refine R_icmp_eq 49 dX12_grand_33 (by decide) (fun hc33 => ?_) (fun hc33 => ?_)
  rotate_left
  · refine R_iconst dX12_grand_36 rfl rfl ?_
    refine R_aload_n dX12_grand_37 rfl ?_
    refine R_getR _ (hr _ _ _ rfl) fd12_16 kf12_48 rfl dX12_grand_38 ?_
    refine R_iconst dX12_grand_41 rfl rfl ?_
    refine R_iload_n dX12_grand_42 rfl ?_
    refine R_imulN dX12_grand_43 (by unfold inI; omega) ?_
    refine R_iload_n dX12_grand_44 rfl ?_
    refine R_iaddN dX12_grand_45 (by unfold inI; omega) ?_
    refine R_iald rfl (by omega) (by omega) dX12_grand_46 ?_
    rw [ei]
    refine R_ishl dX12_grand_47 ?_
    refine R_ireturn rfl (by first | rfl | exact nar_b2i | exact nar_bi) (by decide) (by decide) dX12_grand_48 ?_
    exact ⟨Or.inr (Or.inl ⟨⟨hc, hw⟩, hc33, rfl, rfl, rfl⟩), rfl, rfl⟩
  refine R_aload_n dX12_grand_49 rfl ?_
  refine R_callV (m_finds K H) (mvX12_finds _) kiX12_finds kvX12_finds km12_437 rfl rfl (by decide) ⟨rfl, rfl, by decide, by decide⟩ (Nat.le_of_ble_eq_true rfl) dX12_grand_50 (fun v1 sh1 g1 z1 r1 hq => ?_)
  obtain ⟨⟨rfl, hst⟩, rfl, rfl⟩ := hq
  obtain ⟨f1, y1, k1, hag, hbr, h115, le, hL, hrow⟩ := id hst
  obtain ⟨l, hl⟩ := hL.fmly hs (c := cn) (show cn < (g 74 3).toNat by omega)
  have hfl := fmS_lt' (s := vM g) (le := le) (c := cn) hF
  have hkM : kM (g 84) (fmS (vM g) le cn) (g 74 4).toNat = l := by
    have := fam_m (g := g) (c := cn) (set := fmS (vM g) le cn) (by rw [hl]; rfl)
    rw [hl] at this
    exact (Option.some.inj this).symm
  have hlen := fam_len hl
  have hmem := fam_mem hl
  have e2 : (vM g) 0 2 = g 74 4 := rfl
  rw [e2] at hlen hmem
  have e4 : g1 74 4 = g 74 4 := f1.2 4 (by decide) (by decide) (by decide) (by decide) (by decide)
  refine R_aload_n dX12_grand_53 rfl ?_
  refine R_iload_n dX12_grand_54 rfl ?_
  refine R_aload_n dX12_grand_55 rfl ?_
  refine R_iload_n dX12_grand_56 rfl ?_
  refine R_callV (m_setOf hr (by rw [e4]; exact hF) le (by rw [e4]; exact hrow) cn) (mvX12_setOf _) kiX12_setOf kvX12_setOf km12_442 rfl rfl (by decide) ⟨rfl, rfl, by decide, by decide⟩ (Nat.le_of_ble_eq_true rfl) dX12_grand_57 (fun v1 sh1 g1 z1 r1 hq => ?_)
  obtain ⟨rfl, rfl, rfl, rfl, rfl⟩ := hq
  rw [f1.vM]
  refine R_callV (m_takes hr (by rw [e4]; exact hF) (cn : Int) (fmS (vM g) le cn) hfl) (mvX12_takes _) kiX12_takes kvX12_takes km12_382 rfl rfl (by decide) ⟨rfl, rfl, by decide, by decide⟩ (Nat.le_of_ble_eq_true rfl) dX12_grand_60 (fun v1 sh1 g2 z2 r1 hq => ?_)
  obtain ⟨⟨rfl, o1, o2, o3, o4⟩, rfl, rfl, rfl⟩ := hq
  rw [e4, f1.1 84 (by decide) (by decide), hkM] at o4
  have s2 : SM g1 g2 := ⟨fun c' a b => o1 c' a (by omega), o2⟩
  have f2 := f1.trans s2.fmd
  refine R_aload_n dX12_grand_63 rfl ?_
  refine R_callV (m_asks K (f2.MP HM) cn (by omega) o3 l o4 (fun a ha => by rw [o2 4 (by decide) (by decide), e4]; have := hmem a ha; omega) (by omega) (by rw [f2.2 5 (by decide) (by decide) (by decide) (by decide) (by decide)]; exact hA) (by rw [f2.2 6 (by decide) (by decide) (by decide) (by decide) (by decide)]; exact hA2)) (mvX12_asks _) kiX12_asks kvX12_asks km12_385 rfl rfl (by decide) ⟨rfl, rfl, by decide, by decide⟩ (Nat.le_of_ble_eq_true rfl) dX12_grand_64 (fun v1 sh1 g3 z3 r1 hq => ?_)
  obtain ⟨⟨rfl, p1, p2⟩, rfl, rfl, rfl⟩ := hq
  rw [f2.vM, f2.2 5 (by decide) (by decide) (by decide) (by decide) (by decide), f2.2 6 (by decide) (by decide) (by decide) (by decide) (by decide), f2.2 7 (by decide) (by decide) (by decide) (by decide) (by decide)] at p2
  have s3 : SM g1 g3 := ⟨fun c' a b => (p1 c' (by omega)).trans (s2.1 c' a b), fun k a b => by rw [p1 74 (by omega)]; exact s2.2 k a b⟩
  have f3 := f1.trans s3.fmd
  have hl3 : FamM g3 l := FamM_cong (by rw [p1 74 (by omega)]) (p1 101 (by omega)) o4
  have hL8 : ∀ j, -1 ≤ ltS (vM g) K (g 74 5) (g 74 6) (g 74 7) cn l j ∧ ltS (vM g) K (g 74 5) (g 74 6) (g 74 7) cn l j < 8 := fun j => ltS_lt (fun k hk => kmK_8 hK hk)
  have M3 := f3.MP HM
  refine R_aload_n dX12_grand_67 rfl ?_
  refine R_iload_n dX12_grand_68 rfl ?_
  refine R_callV (m_bestNames hr M3.2.1 M3.2.2.1 l hl3 (fun a ha => by have := hmem a ha; omega) (by omega) (ltS (vM g) K (g 74 5) (g 74 6) (g 74 7) cn l) (fun j hj => ⟨(p2 j hj).1, hL8 j⟩) wn (by omega)) (mvX12_bestNames _) kiX12_bestNames kvX12_bestNames km12_376 rfl rfl (by decide) ⟨rfl, rfl, by decide, by decide⟩ (Nat.le_of_ble_eq_true rfl) dX12_grand_69 (fun v1 sh1 g4 z4 r1 hq => ?_)
  obtain ⟨rfl, rfl, rfl, rfl, rfl⟩ := hq
  rw [f3.vM]
  refine R_ireturn rfl (by first | rfl | exact nar_b2i | exact nar_bi) (by decide) (by decide) dX12_grand_72 ?_
  exact ⟨Or.inr (Or.inr ⟨⟨hc, hw⟩, hc33, hst.sm s3, le, l, hL, hl, rfl⟩), rfl, rfl⟩
theorem m_little (K : Nat → CUS) (H : WQ g z r K) (m : Int) : CT (mX12_little (rmD 9 0 0)) 0 0 shW [vR (some 74), vI m] g z r (qZ shW r fun v g' z' => (¬ (0 ≤ m ∧ m ≤ 1000) ∧ v = some (vI (-1)) ∧ g' = g ∧ z' = z) ∨ ((0 ≤ m ∧ m ≤ 1000) ∧ FSt g z g' z' K ∧ ∃ le, LeIs (WSm g K) le ∧ v = some (vI (bitU (litS (vM g) K (g 74 5) (g 74 6) (g 74 7) le m) (g 74 4).toNat : Nat)))) := by
  have hr := H.1.1
  obtain ⟨HM, hal, ⟨hA, hA2⟩, -⟩ := id H
  have hF := H.1.2.2.1.2.2.2.2.2.1
  have hC := H.1.2.2.1.2.2.2.2.1
  have hs := H.sbd
  refine CT.of 4 rfl rfl ?_
  generalize hQ : (qZ shW r fun v g' z' => (¬ (0 ≤ m ∧ m ≤ 1000) ∧ v = some (vI (-1)) ∧ g' = g ∧ z' = z) ∨ ((0 ≤ m ∧ m ≤ 1000) ∧ FSt g z g' z' K ∧ ∃ le, LeIs (WSm g K) le ∧ v = some (vI (bitU (litS (vM g) K (g 74 5) (g 74 6) (g 74 7) le m) (g 74 4).toNat : Nat)))) = Q
  have e2 : (vM g) 0 2 = g 74 4 := rfl
  have e94 : (vM g) 0 4 = g 74 9 := rfl
  have loop : ∀ (le : Nat), LeIs (WSm g K) le → (0 ≤ m ∧ m ≤ 1000) → ∀ (n i : Nat) (g1 z1 : GG), (i : Int) + n = g 74 4 → FSt g z g1 z1 K → (∀ i, i < (g 74 4).toNat → g1 116 i = (fld le i : Int)) → RJ (mX12_little (rmD 9 0 0)) 0 0 shW.length Q 0 0 shW 22 [some (vR (some 74)), some (vI (m)), some (vI ((bitU (litS (vM g) K (g 74 5) (g 74 6) (g 74 7) le m) i : Nat))), some (vI ((i : Int))), none, none] [] g1 z1 r := by
    intro le hL hm n
    induction n with
    | zero =>
      intro i g1 z1 hi hst hrow
      refine R_iload_n dX12_little_22 rfl ?_
      refine R_aload_n dX12_little_23 rfl ?_
      refine R_getI fd12_4 kf12_175 rfl dX12_little_24 ?_
      rw [hst.at (by decide) (by decide) (by decide) (by decide) (by decide)]
      refine R_icmp_ge 112 dX12_little_27 (by decide) (fun hc27 => ?_) (fun hc27 => ?_)
      · refine R_iload_n dX12_little_112 rfl ?_
        refine R_ireturn rfl (by first | rfl | exact nar_b2i | exact nar_bi) (by decide) (by decide) dX12_little_113 ?_
        rw [← hQ]
        exact ⟨Or.inr ⟨hm, hst, le, hL, by rw [show (g 74 4).toNat = i by omega]⟩, rfl, rfl⟩
      · exact absurd (by omega) hc27
    | succ n ih =>
      intro i g1 z1 hi hst hrow
      have hn := fun g1 z1 => ih (i + 1) g1 z1 (by omega)
      rw [bitU] at hn
      have hcol := hL.col hs (i := i) (show i < (g 74 4).toNat by omega)
      have eC : ((vM g) 0 1).toNat = (g 74 3).toNat := rfl
      rw [eC] at hcol
      have hlt := bitU_lt (f := litS (vM g) K (g 74 5) (g 74 6) (g 74 7) le m) i
      have hp : 2 ^ i < 1024 := Nat.pow_lt_pow_right (n := 10) (by decide) (by omega)
      generalize hbe : bitU (litS (vM g) K (g 74 5) (g 74 6) (g 74 7) le m) i = bb at *
      refine R_iload_n dX12_little_22 rfl ?_
      refine R_aload_n dX12_little_23 rfl ?_
      refine R_getI fd12_4 kf12_175 rfl dX12_little_24 ?_
      rw [hst.at (by decide) (by decide) (by decide) (by decide) (by decide)]
      refine R_icmp_ge 112 dX12_little_27 (by decide) (fun hc27 => ?_) (fun hc27 => ?_)
      · exact absurd hc27 (by omega)
      refine R_aload_n dX12_little_30 rfl ?_
      refine R_getR _ (hr _ _ _ rfl) fd12_66 kf12_152 rfl dX12_little_31 ?_
      refine R_iload_n dX12_little_34 rfl ?_
      refine R_iald rfl (by omega) (by omega) dX12_little_35 ?_
      try rw [Int.toNat_natCast]
      rw [hrow i (by omega)]
      refine R_bipush dX12_little_36 rfl (by decide +kernel) ?_
      refine R_icmp_ne 44 dX12_little_38 (by decide) (fun hc38 => ?_) (fun hc38 => ?_)
      rotate_left
      · have hf6 : fld le i = 6 := by omega
        have hlit : litS (vM g) K (g 74 5) (g 74 6) (g 74 7) le m i = false := by unfold litS; rw [hf6]; rfl
        rw [hlit, if_neg (by decide)] at hn
        refine R_goto 106 dX12_little_41 (by decide) ?_
        refine R_iincN dX12_little_106 rfl (by decide) rfl (by unfold inI; omega) [_, _, _, _, _, _] rfl ?_
        refine R_goto 22 dX12_little_109 (by decide) ?_
        exact hn g1 z1 hst hrow
      have hf6 : fld le i ≠ 6 := fun e => hc38 (by omega)
      have hcc : fld le i < (g 74 3).toNat := by rcases hcol.2 with e | e; exact absurd e hf6; exact e
      obtain ⟨l, hl⟩ := hL.fmly hs (c := fld le i) hcc
      have hcc6 : fld le i < 6 := by omega
      have e4 : g1 74 4 = g 74 4 := hst.at (by decide) (by decide) (by decide) (by decide) (by decide)
      generalize hce : fld le i = c at *
      have hbit : (fmS (vM g) le c).testBit i = true := fmS_bit (show i < (g 74 4).toNat by omega) hce
      have hflt := fmS_lt' (s := vM g) (le := le) (c := c) hF
      have hlen := fam_len hl
      rw [e2] at hlen
      have hsub : 2 ^ i &&& fmS (vM g) le c = 2 ^ i := by
        rw [sub_bit]
        intro j hj
        rw [Nat.testBit_two_pow, decide_eq_true_eq] at hj
        rw [← hj]; exact hbit
      have hsub2 : (fmS (vM g) le c ^^^ 2 ^ i) &&& fmS (vM g) le c = fmS (vM g) le c ^^^ 2 ^ i := by
        rw [sub_bit]
        intro j hj
        rw [xor_sub hsub, Bool.and_eq_true] at hj
        exact hj.1
      obtain ⟨l2, hl2⟩ := fam_sub hsub2 hl
      have hlen2 := fam_len hl2
      rw [e2] at hlen2
      have hb1 := hs.2.2.2 c l (by omega)
      have hb2 := hs.2.2.2 c l2 (by omega)
      have hlit : litS (vM g) K (g 74 5) (g 74 6) (g 74 7) le m i = decide (ptS (vM g) K (g 74 5) (g 74 6) (g 74 7) c l - ptS (vM g) K (g 74 5) (g 74 6) (g 74 7) c l2 + g 74 9 < m) := by
        unfold litS ptF
        rw [hce, hl, hl2, decide_eq_true hf6, Bool.true_and]
        rfl
      have hkM : kM (g 84) (fmS (vM g) le c) (g 74 4).toNat = l := by
        have := fam_m (g := g) (c := c) (set := fmS (vM g) le c) (by rw [hl]; rfl)
        rw [hl] at this
        exact (Option.some.inj this).symm
      have hkM2 : kM (g 84) (fmS (vM g) le c ^^^ 2 ^ i) (g 74 4).toNat = l2 := by
        have := fam_m (g := g) (c := c) (set := fmS (vM g) le c ^^^ 2 ^ i) (by rw [hl2]; rfl)
        rw [hl2] at this
        exact (Option.some.inj this).symm
      have pts : ∀ (g2 z2 : GG) (S : Nat), FSt g z g2 z2 K → S < 1024 → CT (mX12_pointsOf (rmD 5 0 0)) 0 0 shW [vR (some 74), vI (c : Int), vI (S : Int)] g2 z2 r (qG shW z2 r fun v g' => FSt g z g' z2 K ∧ (∀ k, g' 116 k = g2 116 k) ∧ v = some (vI (ptS (vM g) K (g 74 5) (g 74 6) (g 74 7) c (kM (g 84) S (g 74 4).toNat)))) := by
        intro g2 z2 S h2 hS
        have f2 := h2.1
        refine (m_pointsOf K (f2.MP HM) c hcc6 S hS (by rw [f2.2 5 (by decide) (by decide) (by decide) (by decide) (by decide)]; exact hA) (by rw [f2.2 6 (by decide) (by decide) (by decide) (by decide) (by decide)]; exact hA2)).weaken ?_
        rintro v sh' g' z' r' ⟨⟨q1, q2⟩, q3⟩
        refine ⟨⟨h2.sm q1, fun k => by rw [q1.1 116 (by decide) (by decide)], ?_⟩, q3⟩
        rw [q2, f2.vM, f2.2 5 (by decide) (by decide) (by decide) (by decide) (by decide), f2.2 6 (by decide) (by decide) (by decide) (by decide) (by decide), f2.2 7 (by decide) (by decide) (by decide) (by decide) (by decide), f2.2 4 (by decide) (by decide) (by decide) (by decide) (by decide), f2.1 84 (by decide) (by decide)]
      refine R_aload_n dX12_little_44 rfl ?_
      refine R_getR _ (hr _ _ _ rfl) fd12_66 kf12_152 rfl dX12_little_45 ?_
      refine R_iload_n dX12_little_48 rfl ?_
      refine R_iald rfl (by omega) (by omega) dX12_little_49 ?_
      try rw [Int.toNat_natCast]
      rw [hrow i (by omega), hce]
      refine R_istore dX12_little_50 (by decide) rfl [_, _, _, _, _, _] rfl ?_
      refine R_aload_n dX12_little_52 rfl ?_
      refine R_iload dX12_little_53 rfl ?_
      refine R_aload_n dX12_little_55 rfl ?_
      refine R_iload dX12_little_56 rfl ?_
      refine R_callV (m_setOf hr (by rw [e4]; exact hF) le (by rw [e4]; exact hrow) c) (mvX12_setOf _) kiX12_setOf kvX12_setOf km12_442 rfl rfl (by decide) ⟨rfl, rfl, by decide, by decide⟩ (Nat.le_of_ble_eq_true rfl) dX12_little_58 (fun v1 sh1 g1 z1 r1 hq => ?_)
      obtain ⟨rfl, rfl, rfl, rfl, rfl⟩ := hq
      rw [hst.1.vM]
      refine R_callV (pts g1 z1 (fmS (vM g) le c) hst hflt) (mvX12_pointsOf _) kiX12_pointsOf kvX12_pointsOf km12_397 rfl rfl (by decide) ⟨rfl, rfl, by decide, by decide⟩ (Nat.le_of_ble_eq_true rfl) dX12_little_61 (fun v1 sh1 g2 z2 r1 hq => ?_)
      obtain ⟨⟨hst2, h116, rfl⟩, rfl, rfl, rfl⟩ := hq
      rw [hkM]
      have e4' : g2 74 4 = g 74 4 := hst2.at (by decide) (by decide) (by decide) (by decide) (by decide)
      have hrow2 : ∀ i, i < (g 74 4).toNat → g2 116 i = (fld le i : Int) := fun i hi => by rw [h116]; exact hrow i hi
      refine R_aload_n dX12_little_64 rfl ?_
      refine R_iload dX12_little_65 rfl ?_
      refine R_aload_n dX12_little_67 rfl ?_
      refine R_iload dX12_little_68 rfl ?_
      refine R_callV (m_setOf hr (by rw [e4']; exact hF) le (by rw [e4']; exact hrow2) c) (mvX12_setOf _) kiX12_setOf kvX12_setOf km12_442 rfl rfl (by decide) ⟨rfl, rfl, by decide, by decide⟩ (Nat.le_of_ble_eq_true rfl) dX12_little_70 (fun v1 sh1 g1 z1 r1 hq => ?_)
      obtain ⟨rfl, rfl, rfl, rfl, rfl⟩ := hq
      rw [hst2.1.vM]
      refine R_iconst dX12_little_73 rfl rfl ?_
      refine R_iload_n dX12_little_74 rfl ?_
      refine R_ishl dX12_little_75 ?_
      refine R_iconst dX12_little_76 rfl rfl ?_
      refine R_ixor dX12_little_77 ?_
      refine R_iand dX12_little_78 ?_
      rw [bShl_1 (by omega), and_not (by omega) hsub]
      refine R_callV (pts g2 z1 (fmS (vM g) le c ^^^ 2 ^ i) hst2 (Nat.lt_of_le_of_lt (sub_le hsub2) hflt)) (mvX12_pointsOf _) kiX12_pointsOf kvX12_pointsOf km12_397 rfl rfl (by decide) ⟨rfl, rfl, by decide, by decide⟩ (Nat.le_of_ble_eq_true rfl) dX12_little_79 (fun v1 sh1 g3 z3 r1 hq => ?_)
      obtain ⟨⟨hst3, h116', rfl⟩, rfl, rfl, rfl⟩ := hq
      rw [hkM2]
      have hrow3 : ∀ i, i < (g 74 4).toNat → g3 116 i = (fld le i : Int) := fun i hi => by rw [h116']; exact hrow2 i hi
      refine R_isubN dX12_little_82 (by unfold inI; omega) ?_
      refine R_aload_n dX12_little_83 rfl ?_
      refine R_getI fd12_9 kf12_26 rfl dX12_little_84 ?_
      rw [hst3.at (by decide) (by decide) (by decide) (by decide) (by decide)]
      refine R_iaddN dX12_little_87 (by unfold inI; omega) ?_
      refine R_istore dX12_little_88 (by decide) rfl [_, _, _, _, _, _] rfl ?_
      refine R_iload_n dX12_little_90 rfl ?_
      refine R_iload dX12_little_91 rfl ?_
      refine R_iload_n dX12_little_93 rfl ?_
      refine R_icmp_ge 103 dX12_little_94 (by decide) (fun hc94 => ?_) (fun hc94 => ?_)
      · rw [hlit, decide_eq_false (by omega), if_neg (by decide)] at hn
        refine R_iconst dX12_little_103 rfl rfl ?_
        refine R_ior dX12_little_104 ?_
        rw [show bOr (bb : Int) 0 = (bb : Int) by rw [show (0 : Int) = ((0 : Nat) : Int) from rfl, bOr_n (by omega) (by decide), Nat.or_zero]]
        refine RJ.msk [true, true, true, true, false, false] _ rfl ?_
        refine R_istore_n dX12_little_105 (by decide) rfl [_, _, _, _, _, _] rfl ?_
        refine R_iincN dX12_little_106 rfl (by decide) rfl (by unfold inI; omega) [_, _, _, _, _, _] rfl ?_
        refine R_goto 22 dX12_little_109 (by decide) ?_
        exact hn _ _ hst3 hrow3
      · rw [hlit, decide_eq_true (by omega), if_pos rfl] at hn
        refine R_iconst dX12_little_97 rfl rfl ?_
        refine R_iload_n dX12_little_98 rfl ?_
        refine R_ishl dX12_little_99 ?_
        refine R_goto 104 dX12_little_100 (by decide) ?_
        refine R_ior dX12_little_104 ?_
        rw [or_bit (by omega) (by omega)]
        refine RJ.msk [true, true, true, true, false, false] _ rfl ?_
        refine R_istore_n dX12_little_105 (by decide) rfl [_, _, _, _, _, _] rfl ?_
        refine R_iincN dX12_little_106 rfl (by decide) rfl (by unfold inI; omega) [_, _, _, _, _, _] rfl ?_
        refine R_goto 22 dX12_little_109 (by decide) ?_
        exact hn _ _ hst3 hrow3
  refine R_iload_n dX12_little_0 rfl ?_
  refine R_i2l dX12_little_1 ?_
  refine R_lconst dX12_little_2 ?_
  refine R_ldc2_w (v := 1000) kk12_201 dX12_little_3 (by decide) ?_
  refine R_callS (m_lies m 0 1000) (mvX12_lies _) ksX12_lies km12_164 ⟨rfl, rfl, by decide, by decide⟩ (Nat.le_of_ble_eq_true rfl) dX12_little_6 (fun v1 sh1 g1 z1 r1 hq => ?_)
  obtain ⟨rfl, rfl, rfl, rfl, rfl⟩ := hq
  by_cases hm : 0 ≤ m ∧ m ≤ 1000
  rotate_left
  · rw [b2i_f hm]
    refine R_if_ne 14 dX12_little_9 (by decide) (fun hc9 => ?_) (fun hc9 => ?_)
    · exact absurd rfl hc9
    · refine R_iconst dX12_little_12 rfl rfl ?_
      refine R_ireturn rfl (by first | rfl | exact nar_b2i | exact nar_bi) (by decide) (by decide) dX12_little_13 ?_
      rw [← hQ]
      exact ⟨Or.inl ⟨hm, rfl, rfl, rfl⟩, rfl, rfl⟩
  rw [b2i_t hm]
  refine R_if_ne 14 dX12_little_9 (by decide) (fun hc9 => ?_) (fun hc9 => ?_)
  rotate_left
  · exact absurd hc9 (by decide)
  refine R_aload_n dX12_little_14 rfl ?_
  refine R_callV (m_finds K H) (mvX12_finds _) kiX12_finds kvX12_finds km12_437 rfl rfl (by decide) ⟨rfl, rfl, by decide, by decide⟩ (Nat.le_of_ble_eq_true rfl) dX12_little_15 (fun v1 sh1 g1 z1 r1 hq => ?_)
  obtain ⟨⟨rfl, hst⟩, rfl, rfl⟩ := hq
  obtain ⟨le, hL, hrow⟩ := hst.2.2.2.2.2.2
  refine R_iconst dX12_little_18 rfl rfl ?_
  refine R_istore_n dX12_little_19 (by decide) rfl [_, _, _, _, _, _] rfl ?_
  refine R_iconst dX12_little_20 rfl rfl ?_
  refine R_istore_n dX12_little_21 (by decide) rfl [_, _, _, _, _, _] rfl ?_
  exact loop le hL hm (g 74 4).toNat 0 _ _ (by omega) hst hrow
theorem m_check (K : Nat → CUS) (H : WQ g z r K) : CT (mX12_check (rmD 9 0 0)) 0 0 shW [vR (some 74)] g z r (qZ shW r fun v g' z' => (g 74 1 < g 74 4 ∧ v = some (vI (-2)) ∧ g' = g ∧ z' = z) ∨ (¬ g 74 1 < g 74 4 ∧ FSt (up2 g 74 1 0) z g' z' K ∧ ∃ le, LeIs (WSm g K) le ∧ v = some (vI (chkS (tM g) le 0 (g 74 4).toNat)))) := by
  have hr := H.1.1
  obtain ⟨HM, hal, ⟨hA, hA2⟩, hk⟩ := id H
  have hF := H.1.2.2.1.2.2.2.2.2.1
  refine CT.of 1 rfl rfl ?_
  generalize hQ : (qZ shW r fun v g' z' => (g 74 1 < g 74 4 ∧ v = some (vI (-2)) ∧ g' = g ∧ z' = z) ∨ (¬ g 74 1 < g 74 4 ∧ FSt (up2 g 74 1 0) z g' z' K ∧ ∃ le, LeIs (WSm g K) le ∧ v = some (vI (chkS (tM g) le 0 (g 74 4).toNat)))) = Q
  have sT : SM2 g (up2 g 74 1 0) := ⟨fun c' a b => up2_ne a, fun k a b e => up2_k e⟩
  have H0 : WQ (up2 g 74 1 0) z r K := ⟨sT.MP HM, hal, ⟨hA, hA2⟩, by
    rw [up2_k (by decide)]
    rcases hk with q | ⟨q1, q2⟩
    · exact Or.inl q
    · refine Or.inr ⟨q1, ?_⟩
      rw [sT.vM]
      exact q2⟩
  have loop : ¬ g 74 1 < g 74 4 → ∀ (le : Nat), LeIs (WSm g K) le → ∀ (g1 z1 : GG), FSt (up2 g 74 1 0) z g1 z1 K → (∀ i, i < (g 74 4).toNat → g1 116 i = (fld le i : Int)) → ∀ (n i : Nat), (i : Int) + n = g 74 4 → chkS (tM g) le 0 (g 74 4).toNat = chkS (tM g) le i n → RJ (mX12_check (rmD 9 0 0)) 0 0 shW.length Q 0 0 shW 25 [some (vR (some 74)), some (vI ((i : Int)))] [] g1 z1 r := by
    intro hnt le hL g1 z1 hst hrow n
    have e4 : g1 74 4 = g 74 4 := by rw [hst.at (by decide) (by decide) (by decide) (by decide) (by decide)]; exact up2_k (by decide)
    have e75 : g1 75 = g 75 := by rw [hst.1.1 75 (by decide) (by decide)]; exact up2_ne (by decide)
    induction n with
    | zero =>
      intro i hi hx
      refine R_iload_n dX12_check_25 rfl ?_
      refine R_aload_n dX12_check_26 rfl ?_
      refine R_getI fd12_4 kf12_175 rfl dX12_check_27 ?_
      rw [e4]
      refine R_icmp_ge 60 dX12_check_30 (by decide) (fun hc30 => ?_) (fun hc30 => ?_)
      · refine R_iconst dX12_check_60 rfl rfl ?_
        refine R_ireturn rfl (by first | rfl | exact nar_b2i | exact nar_bi) (by decide) (by decide) dX12_check_61 ?_
        rw [← hQ]
        exact ⟨Or.inr ⟨hnt, hst, le, hL, by rw [hx]; rfl⟩, rfl, rfl⟩
      · exact absurd (by omega) hc30
    | succ n ih =>
      intro i hi hx
      have hck : chkS (tM g) le i (n + 1) = if tM g i ≠ (fld le i : Int) then (i : Int) else chkS (tM g) le (i + 1) n := by
        unfold chkS
        rw [List.range'_succ, List.find?_cons]
        by_cases h : tM g i ≠ (fld le i : Int)
        · rw [decide_eq_true h, if_pos h]
        · rw [decide_eq_false h, if_neg h]
      rw [hck] at hx
      refine R_iload_n dX12_check_25 rfl ?_
      refine R_aload_n dX12_check_26 rfl ?_
      refine R_getI fd12_4 kf12_175 rfl dX12_check_27 ?_
      rw [e4]
      refine R_icmp_ge 60 dX12_check_30 (by decide) (fun hc30 => ?_) (fun hc30 => ?_)
      · exact absurd hc30 (by omega)
      refine R_aload_n dX12_check_33 rfl ?_
      refine R_getR _ (hr _ _ _ rfl) fd12_0 kf12_7 rfl dX12_check_34 ?_
      refine R_iload_n dX12_check_37 rfl ?_
      refine R_bald rfl (by omega) (by omega) dX12_check_38 ?_
      try rw [Int.toNat_natCast]
      rw [e75]
      refine R_sipush dX12_check_39 rfl (by decide +kernel) ?_
      refine R_iand dX12_check_42 ?_
      refine R_aload_n dX12_check_43 rfl ?_
      refine R_getR _ (hr _ _ _ rfl) fd12_66 kf12_152 rfl dX12_check_44 ?_
      refine R_iload_n dX12_check_47 rfl ?_
      refine R_iald rfl (by omega) (by omega) dX12_check_48 ?_
      rw [Int.toNat_natCast, hrow i (by omega)]
      refine R_icmp_eq 54 dX12_check_49 (by decide) (fun hc49 => ?_) (fun hc49 => ?_)
      · rw [if_neg (fun q => q (show tM g i = (fld le i : Int) from hc49))] at hx
        refine R_iincN dX12_check_54 rfl (by decide) rfl (by unfold inI; omega) [_, _] rfl ?_
        refine R_goto 25 dX12_check_57 (by decide) ?_
        exact ih (i + 1) (by omega) hx
      · rw [if_pos (show tM g i ≠ (fld le i : Int) from hc49)] at hx
        refine R_iload_n dX12_check_52 rfl ?_
        refine R_ireturn rfl (by first | rfl | exact nar_b2i | exact nar_bi) (by decide) (by decide) dX12_check_53 ?_
        rw [← hQ]
        exact ⟨Or.inr ⟨hnt, hst, le, hL, by rw [hx]⟩, rfl, rfl⟩
  refine R_aload_n dX12_check_0 rfl ?_
  refine R_getI fd12_1 kf12_203 rfl dX12_check_1 ?_
  refine R_aload_n dX12_check_4 rfl ?_
  refine R_getI fd12_4 kf12_175 rfl dX12_check_5 ?_
  refine R_icmp_ge 14 dX12_check_8 (by decide) (fun hc8 => ?_) (fun hc8 => ?_)
  rotate_left
  · refine R_bipush dX12_check_11 rfl (by decide +kernel) ?_
    refine R_ireturn rfl (by first | rfl | exact nar_b2i | exact nar_bi) (by decide) (by decide) dX12_check_13 ?_
    rw [← hQ]
    exact ⟨Or.inl ⟨by omega, rfl, rfl, rfl⟩, rfl, rfl⟩
  refine R_aload_n dX12_check_14 rfl ?_
  refine R_iconst dX12_check_15 rfl rfl ?_
  refine R_putI fd12_1 rfl kf12_203 rfl dX12_check_16 ?_
  refine R_aload_n dX12_check_19 rfl ?_
  refine R_callV (m_finds K H0) (mvX12_finds _) kiX12_finds kvX12_finds km12_437 rfl rfl (by decide) ⟨rfl, rfl, by decide, by decide⟩ (Nat.le_of_ble_eq_true rfl) dX12_check_20 (fun v1 sh1 g1 z1 r1 hq => ?_)
  obtain ⟨⟨rfl, hst⟩, rfl, rfl⟩ := hq
  obtain ⟨le, hL, hrow⟩ := hst.2.2.2.2.2.2
  rw [sT.vM] at hL hrow
  refine R_iconst dX12_check_23 rfl rfl ?_
  refine R_istore_n dX12_check_24 (by decide) rfl [_, _] rfl ?_
  exact loop (by omega) le hL _ _ hst hrow (g 74 4).toNat 0 (by omega) rfl
end MWPUB2
