theorem fam_m {g : GG} {c set : Nat} (h : (fam (vM g) c set).isSome = true) : fam (vM g) c set = some (kM (g 84) set (g 74 4).toNat) := by
  have e := fam_kM (s := vM g) (c := c) (set := set)
  rw [e] at h
  by_cases hc : cbS (vM g) c [] (kM ((vM g) 9) set ((vM g) 0 2).toNat) = true
  · rw [e, if_pos hc]; rfl
  · rw [if_neg hc] at h; cases h
section MPUB
variable {g z : GG} {r : RR}
theorem m_points (K : Nat → CUS) (H : MP g r K) (hA : -1 ≤ g 74 5 ∧ g 74 5 < 4) (hA2 : -1 ≤ g 74 6 ∧ g 74 6 < 4) (c set : Int) : CT (mX12_points (rmD 8 0 0)) 0 0 shW [vR (some 74), vI c, vI set] g z r (qG shW z r fun v g' => SM g g' ∧ ((okCS (vM g) c set ∧ ∃ l, fam (vM g) c.toNat set.toNat = some l ∧ v = some (vI (ptS (vM g) K (g 74 5) (g 74 6) (g 74 7) c.toNat l))) ∨ (¬ (okCS (vM g) c set ∧ (fam (vM g) c.toNat set.toNat).isSome = true) ∧ v = some (vI (-1000000))))) := by
  obtain ⟨hr, hB, hB2, hK⟩ := id H
  have hC := hB2.2.2.2.2.1
  have hF := hB2.2.2.2.2.2.1
  refine CT.of 0 rfl rfl ?_
  refine R_aload_n dX12_points_0 rfl ?_
  refine R_iload_n dX12_points_1 rfl ?_
  refine R_callV (m_isCouple hC c) (mvX12_isCouple _) kiX12_isCouple kvX12_isCouple km12_193 rfl rfl (by decide) ⟨rfl, rfl, by decide, by decide⟩ (Nat.le_of_ble_eq_true rfl) dX12_points_2 (fun v1 sh1 g1 z1 r1 hq => ?_)
  obtain ⟨rfl, rfl, rfl, rfl, rfl⟩ := hq
  refine R_if_eq 34 dX12_points_5 (by decide) (fun hc5 => ?_) (fun hc5 => ?_)
  · try simp only [b2i_z, bi_z, ne_eq, Classical.not_not] at hc5
    refine R_ldc_wC (v := -1000000) kk12_400 (by decide +kernel) dX12_points_34 (by decide) ?_
    refine R_ireturn rfl (by first | rfl | exact nar_b2i | exact nar_bi) (by decide) (by decide) dX12_points_37 ?_
    exact ⟨⟨SM.rfl, Or.inr ⟨fun q => by first | exact hc5 ⟨q.1.1, q.1.2.1⟩ | exact hc13 ⟨q.1.2.2.1, q.1.2.2.2⟩, rfl⟩⟩, rfl, rfl, rfl⟩
  · try simp only [b2i_z, bi_z, ne_eq, Classical.not_not] at hc5
    refine R_aload_n dX12_points_8 rfl ?_
    refine R_iload_n dX12_points_9 rfl ?_
    refine R_callV (m_isSet hF set) (mvX12_isSet _) kiX12_isSet kvX12_isSet km12_391 rfl rfl (by decide) ⟨rfl, rfl, by decide, by decide⟩ (Nat.le_of_ble_eq_true rfl) dX12_points_10 (fun v1 sh1 g1 z1 r1 hq => ?_)
    obtain ⟨rfl, rfl, rfl, rfl, rfl⟩ := hq
    refine R_if_eq 34 dX12_points_13 (by decide) (fun hc13 => ?_) (fun hc13 => ?_)
    · try simp only [b2i_z, bi_z, ne_eq, Classical.not_not] at hc13
      refine R_ldc_wC (v := -1000000) kk12_400 (by decide +kernel) dX12_points_34 (by decide) ?_
      refine R_ireturn rfl (by first | rfl | exact nar_b2i | exact nar_bi) (by decide) (by decide) dX12_points_37 ?_
      exact ⟨⟨SM.rfl, Or.inr ⟨fun q => by first | exact hc5 ⟨q.1.1, q.1.2.1⟩ | exact hc13 ⟨q.1.2.2.1, q.1.2.2.2⟩, rfl⟩⟩, rfl, rfl, rfl⟩
    · try simp only [b2i_z, bi_z, ne_eq, Classical.not_not] at hc13
      have hok : okCS (vM g) c set := ⟨hc5.1, hc5.2, hc13.1, hc13.2⟩
      obtain ⟨cn, sn, rfl, rfl, h3, h4, h5⟩ := okCS_n (s := vM g) hF hok
      have h3' : (cn : Int) < g 74 3 := h3
      refine R_aload_n dX12_points_16 rfl ?_
      refine R_iload_n dX12_points_17 rfl ?_
      refine R_iload_n dX12_points_18 rfl ?_
      refine R_callV (m_canFamily hr hB hF cn (by omega) sn h5) (mvX12_canFamily _) kiX12_canFamily kvX12_canFamily km12_394 rfl rfl (by decide) ⟨rfl, rfl, by decide, by decide⟩ (Nat.le_of_ble_eq_true rfl) dX12_points_19 (fun v1 sh1 g1 z1 r1 hq => ?_)
      obtain ⟨⟨rfl, s1, o2, o3⟩, rfl, rfl, rfl⟩ := hq
      by_cases hs : (fam (vM g) cn sn).isSome = true
      · rw [bi_t hs]
        refine R_if_eq 34 dX12_points_22 (by decide) (fun hc22 => ?_) (fun hc22 => ?_)
        · exact absurd hc22 (by decide)
        refine R_aload_n dX12_points_25 rfl ?_
        refine R_iload_n dX12_points_26 rfl ?_
        refine R_iload_n dX12_points_27 rfl ?_
        refine R_callV (m_pointsOf K (s1.MP H) cn (by omega) sn h5 (by rw [s1.2 5 (by decide) (by decide)]; exact hA) (by rw [s1.2 6 (by decide) (by decide)]; exact hA2)) (mvX12_pointsOf _) kiX12_pointsOf kvX12_pointsOf km12_397 rfl rfl (by decide) ⟨rfl, rfl, by decide, by decide⟩ (Nat.le_of_ble_eq_true rfl) dX12_points_28 (fun v1 sh1 g2 z1 r1 hq => ?_)
        obtain ⟨⟨s2, rfl⟩, rfl, rfl, rfl⟩ := hq
        rw [s1.vM, s1.2 5 (by decide) (by decide), s1.2 6 (by decide) (by decide), s1.2 7 (by decide) (by decide), s1.2 4 (by decide) (by decide), s1.1 84 (by decide) (by decide)]
        refine R_goto 37 dX12_points_31 (by decide) ?_
        refine R_ireturn rfl (by first | rfl | exact nar_b2i | exact nar_bi) (by decide) (by decide) dX12_points_37 ?_
        exact ⟨⟨s1.trans s2, Or.inl ⟨hok, _, by rw [Int.toNat_natCast, Int.toNat_natCast]; exact fam_m hs, by rw [Int.toNat_natCast]⟩⟩, rfl, rfl, rfl⟩
      · rw [bi_f hs]
        refine R_if_eq 34 dX12_points_22 (by decide) (fun hc22 => ?_) (fun hc22 => ?_)
        · refine R_ldc_wC (v := -1000000) kk12_400 (by decide +kernel) dX12_points_34 (by decide) ?_
          refine R_ireturn rfl (by first | rfl | exact nar_b2i | exact nar_bi) (by decide) (by decide) dX12_points_37 ?_
          exact ⟨⟨s1, Or.inr ⟨fun q => hs (by have := q.2; rwa [Int.toNat_natCast, Int.toNat_natCast] at this), rfl⟩⟩, rfl, rfl, rfl⟩
        · exact absurd rfl hc22
theorem m_placeOf (K : Nat → CUS) (H : MP g r K) (hA : -1 ≤ g 74 5 ∧ g 74 5 < 4) (hA2 : -1 ≤ g 74 6 ∧ g 74 6 < 4) (c set i : Int) : CT (mX12_placeOf (rmD 6 0 0)) 0 0 shW [vR (some 74), vI c, vI set, vI i] g z r (qG shW z r fun v g' => SM g g' ∧ ((okCS (vM g) c set ∧ (0 ≤ i ∧ i < g 74 4) ∧ ∃ l, fam (vM g) c.toNat set.toNat = some l ∧ i.toNat ∈ l ∧ v = some (vI ((l.findIdx (· == i.toNat) : Nat) : Int)) ∧ AskM g' (vM g) (ltS (vM g) K (g 74 5) (g 74 6) (g 74 7) c.toNat l) c.toNat l) ∨ (¬ (okCS (vM g) c set ∧ (0 ≤ i ∧ i < g 74 4) ∧ ∃ l, fam (vM g) c.toNat set.toNat = some l ∧ i.toNat ∈ l) ∧ v = some (vI (-1))))) := by
  obtain ⟨hr, hB, hB2, hK⟩ := id H
  have hC := hB2.2.2.2.2.1
  have hF := hB2.2.2.2.2.2.1
  refine CT.of 1 rfl rfl ?_
  generalize hQ : (qG shW z r fun v g' => SM g g' ∧ ((okCS (vM g) c set ∧ (0 ≤ i ∧ i < g 74 4) ∧ ∃ l, fam (vM g) c.toNat set.toNat = some l ∧ i.toNat ∈ l ∧ v = some (vI ((l.findIdx (· == i.toNat) : Nat) : Int)) ∧ AskM g' (vM g) (ltS (vM g) K (g 74 5) (g 74 6) (g 74 7) c.toNat l) c.toNat l) ∨ (¬ (okCS (vM g) c set ∧ (0 ≤ i ∧ i < g 74 4) ∧ ∃ l, fam (vM g) c.toNat set.toNat = some l ∧ i.toNat ∈ l) ∧ v = some (vI (-1))))) = Q
  refine R_aload_n dX12_placeOf_0 rfl ?_
  refine R_iload_n dX12_placeOf_1 rfl ?_
  refine R_callV (m_isCouple hC c) (mvX12_isCouple _) kiX12_isCouple kvX12_isCouple km12_193 rfl rfl (by decide) ⟨rfl, rfl, by decide, by decide⟩ (Nat.le_of_ble_eq_true rfl) dX12_placeOf_2 (fun v1 sh1 g1 z1 r1 hq => ?_)
  obtain ⟨rfl, rfl, rfl, rfl, rfl⟩ := hq
  refine R_if_eq 41 dX12_placeOf_5 (by decide) (fun hc5 => ?_) (fun hc5 => ?_)
  · try simp only [b2i_z, bi_z, ne_eq, Classical.not_not] at hc5
    refine R_iconst dX12_placeOf_41 rfl rfl ?_
    refine R_ireturn rfl (by first | rfl | exact nar_b2i | exact nar_bi) (by decide) (by decide) dX12_placeOf_42 ?_
    rw [← hQ]; exact ⟨⟨SM.rfl, Or.inr ⟨fun q => by first | exact hc5 ⟨q.1.1, q.1.2.1⟩ | exact hc13 ⟨q.1.2.2.1, q.1.2.2.2⟩ | exact hc21 q.2.1, rfl⟩⟩, rfl, rfl, rfl⟩
  · try simp only [b2i_z, bi_z, ne_eq, Classical.not_not] at hc5
    refine R_aload_n dX12_placeOf_8 rfl ?_
    refine R_iload_n dX12_placeOf_9 rfl ?_
    refine R_callV (m_isSet hF set) (mvX12_isSet _) kiX12_isSet kvX12_isSet km12_391 rfl rfl (by decide) ⟨rfl, rfl, by decide, by decide⟩ (Nat.le_of_ble_eq_true rfl) dX12_placeOf_10 (fun v1 sh1 g1 z1 r1 hq => ?_)
    obtain ⟨rfl, rfl, rfl, rfl, rfl⟩ := hq
    refine R_if_eq 41 dX12_placeOf_13 (by decide) (fun hc13 => ?_) (fun hc13 => ?_)
    · try simp only [b2i_z, bi_z, ne_eq, Classical.not_not] at hc13
      refine R_iconst dX12_placeOf_41 rfl rfl ?_
      refine R_ireturn rfl (by first | rfl | exact nar_b2i | exact nar_bi) (by decide) (by decide) dX12_placeOf_42 ?_
      rw [← hQ]; exact ⟨⟨SM.rfl, Or.inr ⟨fun q => by first | exact hc5 ⟨q.1.1, q.1.2.1⟩ | exact hc13 ⟨q.1.2.2.1, q.1.2.2.2⟩ | exact hc21 q.2.1, rfl⟩⟩, rfl, rfl, rfl⟩
    · try simp only [b2i_z, bi_z, ne_eq, Classical.not_not] at hc13
      refine R_aload_n dX12_placeOf_16 rfl ?_
      refine R_iload_n dX12_placeOf_17 rfl ?_
      refine R_callV (m_isFont hF i) (mvX12_isFont _) kiX12_isFont kvX12_isFont km12_198 rfl rfl (by decide) ⟨rfl, rfl, by decide, by decide⟩ (Nat.le_of_ble_eq_true rfl) dX12_placeOf_18 (fun v1 sh1 g1 z1 r1 hq => ?_)
      obtain ⟨rfl, rfl, rfl, rfl, rfl⟩ := hq
      refine R_if_eq 41 dX12_placeOf_21 (by decide) (fun hc21 => ?_) (fun hc21 => ?_)
      · try simp only [b2i_z, bi_z, ne_eq, Classical.not_not] at hc21
        refine R_iconst dX12_placeOf_41 rfl rfl ?_
        refine R_ireturn rfl (by first | rfl | exact nar_b2i | exact nar_bi) (by decide) (by decide) dX12_placeOf_42 ?_
        rw [← hQ]; exact ⟨⟨SM.rfl, Or.inr ⟨fun q => by first | exact hc5 ⟨q.1.1, q.1.2.1⟩ | exact hc13 ⟨q.1.2.2.1, q.1.2.2.2⟩ | exact hc21 q.2.1, rfl⟩⟩, rfl, rfl, rfl⟩
      · try simp only [b2i_z, bi_z, ne_eq, Classical.not_not] at hc21
        have hok : okCS (vM g) c set := ⟨hc5.1, hc5.2, hc13.1, hc13.2⟩
        obtain ⟨cn, sn, rfl, rfl, h3, h4, h5⟩ := okCS_n (s := vM g) hF hok
        obtain ⟨i', rfl⟩ : ∃ i' : Nat, i = (i' : Int) := ⟨i.toNat, by omega⟩
        have h3' : (cn : Int) < g 74 3 := h3
        simp only [Int.toNat_natCast] at hQ
        refine R_iload_n dX12_placeOf_24 rfl ?_
        refine R_iload_n dX12_placeOf_25 rfl ?_
        refine R_callS (m_has sn i' (by omega) (by omega)) (mvX12_has _) ksX12_has km12_324 ⟨rfl, rfl, by decide, by decide⟩ (Nat.le_of_ble_eq_true rfl) dX12_placeOf_26 (fun v1 sh1 g1 z1 r1 hq => ?_)
        obtain ⟨rfl, rfl, rfl, rfl, rfl⟩ := hq
        by_cases hb : sn.testBit i' = true
        · rw [bi_t hb]
          refine R_if_eq 41 dX12_placeOf_29 (by decide) (fun hc29 => ?_) (fun hc29 => ?_)
          · exact absurd hc29 (by decide)
          refine R_aload_n dX12_placeOf_32 rfl ?_
          refine R_iload_n dX12_placeOf_33 rfl ?_
          refine R_iload_n dX12_placeOf_34 rfl ?_
          refine R_callV (m_canFamily hr hB hF cn (by omega) sn h5) (mvX12_canFamily _) kiX12_canFamily kvX12_canFamily km12_394 rfl rfl (by decide) ⟨rfl, rfl, by decide, by decide⟩ (Nat.le_of_ble_eq_true rfl) dX12_placeOf_35 (fun v1 sh1 g1 z1 r1 hq => ?_)
          obtain ⟨⟨rfl, s1, o2, o3⟩, rfl, rfl, rfl⟩ := hq
          by_cases hs : (fam (vM g) cn sn).isSome = true
          · rw [bi_t hs]
            have hfam := fam_m hs
            have hil : i' ∈ kM (g 84) sn (g 74 4).toNat := kM_mem.mpr ⟨by omega, hb⟩
            have hmem : ∀ a ∈ kM (g 84) sn (g 74 4).toNat, (a : Int) < g 74 4 := fun a ha => by have := (kM_mem.mp ha).1; omega
            have hlen : (kM (g 84) sn (g 74 4).toNat).length ≤ 10 := by have := kM_len (yr := g 84) (set := sn) (g 74 4).toNat; omega
            generalize hl' : kM (g 84) sn (g 74 4).toNat = l at *
            have hfi : l.findIdx (· == i') < l.length := List.findIdx_lt_length_of_exists ⟨i', hil, by simp⟩
            refine R_if_ne 43 dX12_placeOf_38 (by decide) (fun hc38 => ?_) (fun hc38 => ?_)
            · refine R_aload_n dX12_placeOf_43 rfl ?_
              refine R_callV (m_asks K (s1.MP H) cn (by omega) o2 l o3 (by rw [s1.2 4 (by decide) (by decide)]; exact hmem) hlen (by rw [s1.2 5 (by decide) (by decide)]; exact hA) (by rw [s1.2 6 (by decide) (by decide)]; exact hA2)) (mvX12_asks _) kiX12_asks kvX12_asks km12_385 rfl rfl (by decide) ⟨rfl, rfl, by decide, by decide⟩ (Nat.le_of_ble_eq_true rfl) dX12_placeOf_44 (fun v1 sh1 g2 z1 r1 hq => ?_)
              obtain ⟨⟨rfl, p1, p2⟩, rfl, rfl, rfl⟩ := hq
              rw [s1.vM, s1.2 5 (by decide) (by decide), s1.2 6 (by decide) (by decide), s1.2 7 (by decide) (by decide)] at p2
              have s2 : SM g g2 := ⟨fun c' a b => (p1 c' (by omega)).trans (s1.1 c' a b), fun k a b => by rw [p1 74 (by omega)]; exact s1.2 k a b⟩
              have hl2 : FamM g2 l := FamM_cong (by rw [p1 74 (by omega)]) (p1 101 (by omega)) o3
              have loop : ∀ (n k : Nat), k + n = l.findIdx (· == i') → RJ (mX12_placeOf (rmD 6 0 0)) 0 0 shW.length Q 0 0 shW 50 [some (vR (some 74)), some (vI ((cn : Int))), some (vI ((sn : Int))), some (vI ((i' : Int))), some (vI ((k : Int)))] [] g2 z r := by
                intro n
                induction n with
                | zero =>
                  intro k hk
                  have hg := famM_at hl2 hfi
                  have hgi : l.getD (l.findIdx (· == i')) 0 = i' := by
                    have := List.findIdx_getElem (w := hfi)
                    rw [List.getD_eq_getElem?_getD, List.getElem?_eq_getElem hfi]
                    simpa using this
                  obtain rfl : k = l.findIdx (· == i') := by omega
                  refine R_aload_n dX12_placeOf_50 rfl ?_
                  refine R_getR _ (hr _ _ _ rfl) fd12_47 kf12_105 rfl dX12_placeOf_51 ?_
                  refine R_iload dX12_placeOf_54 rfl ?_
                  refine R_iald rfl (by omega) (by omega) dX12_placeOf_56 ?_
                  rw [Int.toNat_natCast, hg, hgi]
                  refine R_iload_n dX12_placeOf_57 rfl ?_
                  refine R_icmp_eq 67 dX12_placeOf_58 (by decide) (fun hc58 => ?_) (fun hc58 => ?_)
                  · refine R_iload dX12_placeOf_67 rfl ?_
                    refine R_ireturn rfl (by first | rfl | exact nar_b2i | exact nar_bi) (by decide) (by decide) dX12_placeOf_69 ?_
                    rw [← hQ]
                    exact ⟨⟨s2, Or.inl ⟨hok, ⟨by omega, by omega⟩, l, hfam, hil, rfl, p2⟩⟩, rfl, rfl, rfl⟩
                  · exact absurd rfl hc58
                | succ n ih =>
                  intro k hk
                  have hkl : k < l.length := by omega
                  have hg := famM_at hl2 hkl
                  have hne : l.getD k 0 ≠ i' := by
                    have := List.not_of_lt_findIdx (p := (· == i')) (xs := l) (i := k) (by omega)
                    rw [List.getD_eq_getElem?_getD, List.getElem?_eq_getElem hkl]
                    simpa using this
                  refine R_aload_n dX12_placeOf_50 rfl ?_
                  refine R_getR _ (hr _ _ _ rfl) fd12_47 kf12_105 rfl dX12_placeOf_51 ?_
                  refine R_iload dX12_placeOf_54 rfl ?_
                  refine R_iald rfl (by omega) (by omega) dX12_placeOf_56 ?_
                  rw [Int.toNat_natCast, hg]
                  refine R_iload_n dX12_placeOf_57 rfl ?_
                  refine R_icmp_eq 67 dX12_placeOf_58 (by decide) (fun hc58 => ?_) (fun hc58 => ?_)
                  · exact absurd hc58 (by omega)
                  · refine R_iincN dX12_placeOf_61 rfl (by decide) rfl (by unfold inI; omega) [_, _, _, _, _] rfl ?_
                    refine R_goto 50 dX12_placeOf_64 (by decide) ?_
                    exact ih (k + 1) (by omega)
              refine R_iconst dX12_placeOf_47 rfl rfl ?_
              refine R_istore dX12_placeOf_48 (by decide) rfl [_, _, _, _, _] rfl ?_
              exact loop (l.findIdx (· == i')) 0 (by omega)
            · exact absurd hc38 (by decide)
          · rw [bi_f hs]
            refine R_if_ne 43 dX12_placeOf_38 (by decide) (fun hc38 => ?_) (fun hc38 => ?_)
            · exact absurd rfl hc38
            · refine R_iconst dX12_placeOf_41 rfl rfl ?_
              refine R_ireturn rfl (by first | rfl | exact nar_b2i | exact nar_bi) (by decide) (by decide) dX12_placeOf_42 ?_
              rw [← hQ]
              exact ⟨⟨s1, Or.inr ⟨fun q => by obtain ⟨q1, q2, l', q3, q4⟩ := q; rw [q3] at hs; exact hs rfl, rfl⟩⟩, rfl, rfl, rfl⟩
        · rw [bi_f hb]
          refine R_if_eq 41 dX12_placeOf_29 (by decide) (fun hc29 => ?_) (fun hc29 => ?_)
          · refine R_iconst dX12_placeOf_41 rfl rfl ?_
            refine R_ireturn rfl (by first | rfl | exact nar_b2i | exact nar_bi) (by decide) (by decide) dX12_placeOf_42 ?_
            rw [← hQ]
            refine ⟨⟨SM.rfl, Or.inr ⟨fun q => ?_, rfl⟩⟩, rfl, rfl, rfl⟩
            obtain ⟨q1, q2, l', q3, q4⟩ := q
            have := fam_m (g := g) (c := cn) (set := sn) (by rw [q3]; rfl)
            rw [q3] at this
            have e := Option.some.inj this
            rw [e] at q4
            exact hb (kM_mem.mp q4).2
          · exact absurd rfl hc29
theorem m_by (K : Nat → CUS) (H : MP g r K) (hA : -1 ≤ g 74 5 ∧ g 74 5 < 4) (hA2 : -1 ≤ g 74 6 ∧ g 74 6 < 4) (c set i : Int) : CT (mX12_by (rmD 8 0 0)) 0 0 shW [vR (some 74), vI c, vI set, vI i] g z r (qG shW z r fun v g' => SM g g' ∧ ((okCS (vM g) c set ∧ (0 ≤ i ∧ i < g 74 4) ∧ ∃ l, fam (vM g) c.toNat set.toNat = some l ∧ i.toNat ∈ l ∧ v = some (vI (chL (ltS (vM g) K (g 74 5) (g 74 6) (g 74 7) c.toNat l (l.findIdx (· == i.toNat)))))) ∨ (¬ (okCS (vM g) c set ∧ (0 ≤ i ∧ i < g 74 4) ∧ ∃ l, fam (vM g) c.toNat set.toNat = some l ∧ i.toNat ∈ l) ∧ v = some (vI (-1))))) := by
  have hr := H.1
  have hF := H.2.2.1.2.2.2.2.2.1
  refine CT.of 1 rfl rfl ?_
  refine R_aload_n dX12_by_0 rfl ?_
  refine R_iload_n dX12_by_1 rfl ?_
  refine R_iload_n dX12_by_2 rfl ?_
  refine R_iload_n dX12_by_3 rfl ?_
  refine R_callV (m_placeOf K H hA hA2 c set i) (mvX12_placeOf _) kiX12_placeOf kvX12_placeOf km12_401 rfl rfl (by decide) ⟨rfl, rfl, by decide, by decide⟩ (Nat.le_of_ble_eq_true rfl) dX12_by_4 (fun v1 sh1 g1 z1 r1 hq => ?_)
  obtain ⟨⟨s1, o3⟩, rfl, rfl, rfl⟩ := hq
  rcases o3 with ⟨hok, hi, l, hfam, hil, rfl, hl⟩ | ⟨hno, rfl⟩
  · have hll : l.length ≤ 10 := by have h1 := fam_len hfam; have h2 : (vM g) 0 2 = g 74 4 := rfl; rw [h2] at h1; omega
    have hfi : l.findIdx (· == i.toNat) < l.length := List.findIdx_lt_length_of_exists ⟨i.toNat, hil, by simp⟩
    refine R_istore dX12_by_7 (by decide) rfl [_, _, _, _, _] rfl ?_
    refine R_iload dX12_by_9 rfl ?_
    refine R_iconst dX12_by_11 rfl rfl ?_
    refine R_icmp_ne 19 dX12_by_12 (by decide) (fun hc12 => ?_) (fun hc12 => ?_)
    · refine R_aload_n dX12_by_19 rfl ?_
      refine R_getR _ (hr _ _ _ rfl) fd12_48 kf12_108 rfl dX12_by_20 ?_
      refine R_iload dX12_by_23 rfl ?_
      refine R_iald rfl (by omega) (by omega) dX12_by_25 ?_
      rw [Int.toNat_natCast, (hl _ hfi).1]
      refine R_ireturn rfl (by first | rfl | exact nar_b2i | exact nar_bi) (by decide) (by decide) dX12_by_26 ?_
      exact ⟨⟨s1, Or.inl ⟨hok, hi, l, hfam, hil, rfl⟩⟩, rfl, rfl, rfl⟩
    · exact absurd hc12 (by omega)
  · refine R_istore dX12_by_7 (by decide) rfl [_, _, _, _, _] rfl ?_
    refine R_iload dX12_by_9 rfl ?_
    refine R_iconst dX12_by_11 rfl rfl ?_
    refine R_icmp_ne 19 dX12_by_12 (by decide) (fun hc12 => ?_) (fun hc12 => ?_)
    · exact absurd rfl hc12
    · refine R_iconst dX12_by_15 rfl rfl ?_
      refine R_goto 26 dX12_by_16 (by decide) ?_
      refine R_ireturn rfl (by first | rfl | exact nar_b2i | exact nar_bi) (by decide) (by decide) dX12_by_26 ?_
      exact ⟨⟨s1, Or.inr ⟨hno, rfl⟩⟩, rfl, rfl, rfl⟩
theorem m_should (K : Nat → CUS) (H : MP g r K) (hA : -1 ≤ g 74 5 ∧ g 74 5 < 4) (hA2 : -1 ≤ g 74 6 ∧ g 74 6 < 4) (c set i : Int) : CT (mX12_should (rmD 8 0 0)) 0 0 shW [vR (some 74), vI c, vI set, vI i] g z r (qG shW z r fun v g' => SM g g' ∧ ((okCS (vM g) c set ∧ (0 ≤ i ∧ i < g 74 4) ∧ ∃ l, fam (vM g) c.toNat set.toNat = some l ∧ i.toNat ∈ l ∧ v = some (vI (duS (vM g) (ltS (vM g) K (g 74 5) (g 74 6) (g 74 7) c.toNat l) c.toNat l (l.findIdx (· == i.toNat))))) ∨ (¬ (okCS (vM g) c set ∧ (0 ≤ i ∧ i < g 74 4) ∧ ∃ l, fam (vM g) c.toNat set.toNat = some l ∧ i.toNat ∈ l) ∧ v = some (vI (-1))))) := by
  have hr := H.1
  have hF := H.2.2.1.2.2.2.2.2.1
  refine CT.of 1 rfl rfl ?_
  refine R_aload_n dX12_should_0 rfl ?_
  refine R_iload_n dX12_should_1 rfl ?_
  refine R_iload_n dX12_should_2 rfl ?_
  refine R_iload_n dX12_should_3 rfl ?_
  refine R_callV (m_placeOf K H hA hA2 c set i) (mvX12_placeOf _) kiX12_placeOf kvX12_placeOf km12_401 rfl rfl (by decide) ⟨rfl, rfl, by decide, by decide⟩ (Nat.le_of_ble_eq_true rfl) dX12_should_4 (fun v1 sh1 g1 z1 r1 hq => ?_)
  obtain ⟨⟨s1, o3⟩, rfl, rfl, rfl⟩ := hq
  rcases o3 with ⟨hok, hi, l, hfam, hil, rfl, hl⟩ | ⟨hno, rfl⟩
  · have hll : l.length ≤ 10 := by have h1 := fam_len hfam; have h2 : (vM g) 0 2 = g 74 4 := rfl; rw [h2] at h1; omega
    have hfi : l.findIdx (· == i.toNat) < l.length := List.findIdx_lt_length_of_exists ⟨i.toNat, hil, by simp⟩
    refine R_istore dX12_should_7 (by decide) rfl [_, _, _, _, _] rfl ?_
    refine R_iload dX12_should_9 rfl ?_
    refine R_iconst dX12_should_11 rfl rfl ?_
    refine R_icmp_ne 19 dX12_should_12 (by decide) (fun hc12 => ?_) (fun hc12 => ?_)
    · refine R_aload_n dX12_should_19 rfl ?_
      refine R_getR _ (hr _ _ _ rfl) fd12_49 kf12_111 rfl dX12_should_20 ?_
      refine R_iload dX12_should_23 rfl ?_
      refine R_iald rfl (by omega) (by omega) dX12_should_25 ?_
      rw [Int.toNat_natCast, (hl _ hfi).2]
      refine R_ireturn rfl (by first | rfl | exact nar_b2i | exact nar_bi) (by decide) (by decide) dX12_should_26 ?_
      exact ⟨⟨s1, Or.inl ⟨hok, hi, l, hfam, hil, rfl⟩⟩, rfl, rfl, rfl⟩
    · exact absurd hc12 (by omega)
  · refine R_istore dX12_should_7 (by decide) rfl [_, _, _, _, _] rfl ?_
    refine R_iload dX12_should_9 rfl ?_
    refine R_iconst dX12_should_11 rfl rfl ?_
    refine R_icmp_ne 19 dX12_should_12 (by decide) (fun hc12 => ?_) (fun hc12 => ?_)
    · exact absurd rfl hc12
    · refine R_iconst dX12_should_15 rfl rfl ?_
      refine R_goto 26 dX12_should_16 (by decide) ?_
      refine R_ireturn rfl (by first | rfl | exact nar_b2i | exact nar_bi) (by decide) (by decide) dX12_should_26 ?_
      exact ⟨⟨s1, Or.inr ⟨hno, rfl⟩⟩, rfl, rfl, rfl⟩
end MPUB
