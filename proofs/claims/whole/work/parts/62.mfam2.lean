section MFAM2
variable {g z : GG} {r : RR}
theorem m_canFamily (hr : RS r) (hB : BM g) (hF : 0 ≤ g 74 4 ∧ g 74 4 ≤ 10) (c : Nat) (hc6 : c < 6) (set : Nat) (hset : set < 1024) : CT (mX12_canFamily (rmD 3 0 0)) 0 0 shW [vR (some 74), vI (c : Int), vI (set : Int)] g z r (qG shW z r fun v g' => v = some (vI (bi (fam (vM g) c set).isSome)) ∧ SM g g' ∧ g' 74 45 = (c : Int) ∧ FamM g' (kM (g 84) set (g 74 4).toNat)) := by
  refine CT.of 0 rfl rfl ?_
  have hfk : (fam (vM g) c set).isSome = cbS (vM g) c [] (kM (g 84) set (g 74 4).toNat) := by
    rw [fam_kM]
    show (if cbS (vM g) c [] (kM (g 84) set (g 74 4).toNat) = true then some (kM (g 84) set (g 74 4).toNat) else none).isSome = _
    split
    · rename_i h; rw [h]; rfl
    · rename_i h; rw [Bool.eq_false_iff.mpr h]; rfl
  have hlen := kM_len (yr := g 84) (set := set) (g 74 4).toNat
  refine R_aload_n dX12_canFamily_0 rfl ?_
  refine R_iload_n dX12_canFamily_1 rfl ?_
  refine R_iload_n dX12_canFamily_2 rfl ?_
  refine R_callV (m_takes hr hF (c : Int) set hset) (mvX12_takes _) kiX12_takes kvX12_takes km12_382 rfl rfl (by decide) ⟨rfl, rfl, by decide, by decide⟩ (Nat.le_of_ble_eq_true rfl) dX12_canFamily_3 (fun v1 sh1 g1 z1 r1 hq => ?_)
  obtain ⟨⟨rfl, o1, o2, o3, o4⟩, rfl, rfl, rfl⟩ := hq
  have s1 : SM g g1 := ⟨fun c' a b => o1 c' a (by omega), o2⟩
  have e84 : g1 84 = g 84 := o1 84 (by decide) (by decide)
  refine R_aload_n dX12_canFamily_6 rfl ?_
  refine R_callV (m_canBe hr (s1.BM hB) c hc6 o3 _ o4 (fun a ha => by have := (kM_mem.mp ha).1; omega) (by omega) (by rw [e84]; exact kM_sorted _)) (mvX12_canBe _) kiX12_canBe kvX12_canBe km12_388 rfl rfl (by decide) ⟨rfl, rfl, by decide, by decide⟩ (Nat.le_of_ble_eq_true rfl) dX12_canFamily_7 (fun v1 sh1 g1 z1 r1 hq => ?_)
  obtain ⟨rfl, rfl, rfl, rfl, rfl⟩ := hq
  rw [s1.vM, ← hfk]
  refine R_ireturn rfl (by first | rfl | exact nar_b2i | exact nar_bi) (by decide) (by decide) dX12_canFamily_10 ?_
  exact ⟨⟨rfl, s1, o3, o4⟩, rfl, rfl, rfl⟩
theorem m_isSet (hF : 0 ≤ g 74 4 ∧ g 74 4 ≤ 10) (set : Int) : CT (mX12_isSet (rmD 1 0 0)) 0 0 shW [vR (some 74), vI set] g z r (qP shW g z r (some (vI (b2i (0 ≤ set ∧ set < 2 ^ (g 74 4).toNat))))) := by
  refine CT.of 0 rfl rfl ?_
  have hsh : bShl 1 (g 74 4) = ((2 ^ (g 74 4).toNat : Nat) : Int) := by
    have := bShl_1 (k := (g 74 4).toNat) (by omega)
    rw [toNat_cast hF.1] at this
    exact this
  have h2 : (((2 ^ (g 74 4).toNat : Nat)) : Int) = 2 ^ (g 74 4).toNat := by simp
  have hp : (2 : Nat) ^ (g 74 4).toNat ≤ 2 ^ 10 := Nat.pow_le_pow_right (by decide) (by omega)
  have hp0 : 0 < (2 : Nat) ^ (g 74 4).toNat := Nat.pow_pos (by decide)
  refine R_iload_n dX12_isSet_0 rfl ?_
  refine R_i2l dX12_isSet_1 ?_
  refine R_lconst dX12_isSet_2 ?_
  refine R_iconst dX12_isSet_3 rfl rfl ?_
  refine R_aload_n dX12_isSet_4 rfl ?_
  refine R_getI fd12_4 kf12_175 rfl dX12_isSet_5 ?_
  refine R_ishl dX12_isSet_8 ?_
  rw [hsh]
  refine R_iconst dX12_isSet_9 rfl rfl ?_
  refine R_isubN dX12_isSet_10 (by unfold inI; omega) ?_
  refine R_i2l dX12_isSet_11 ?_
  refine R_callS (m_lies _ _ _) (mvX12_lies _) ksX12_lies km12_164 ⟨rfl, rfl, by decide, by decide⟩ (Nat.le_of_ble_eq_true rfl) dX12_isSet_12 (fun v1 sh1 g1 z1 r1 hq => ?_)
  obtain ⟨rfl, rfl, rfl, rfl, rfl⟩ := hq
  refine R_ireturn rfl (by first | rfl | exact nar_b2i | exact nar_bi) (by decide) (by decide) dX12_isSet_15 ?_
  refine ⟨congrArg (fun x => some (vI x)) ?_, rfl, rfl, rfl, rfl⟩
  rw [← h2]
  unfold b2i
  congr 1
  rw [eq_iff_iff]
  constructor <;> intro h <;> simp at h ⊢ <;> omega
theorem m_family (hr : RS r) (hB : BM g) (hC : 0 ≤ g 74 3 ∧ g 74 3 ≤ 6) (hF : 0 ≤ g 74 4 ∧ g 74 4 ≤ 10) (c set : Int) : CT (mX12_family (rmD 8 0 0)) 0 0 shW [vR (some 74), vI c, vI set] g z r (qG shW z r fun v g' => SM g g' ∧ ((okCS (vM g) c set ∧ v = some (vI (bi (fam (vM g) c.toNat set.toNat).isSome))) ∨ (¬ okCS (vM g) c set ∧ v = some (vI (-1))))) := by
  refine CT.of 0 rfl rfl ?_
  refine R_aload_n dX12_family_0 rfl ?_
  refine R_iload_n dX12_family_1 rfl ?_
  refine R_callV (m_isCouple hC c) (mvX12_isCouple _) kiX12_isCouple kvX12_isCouple km12_193 rfl rfl (by decide) ⟨rfl, rfl, by decide, by decide⟩ (Nat.le_of_ble_eq_true rfl) dX12_family_2 (fun v1 sh1 g1 z1 r1 hq => ?_)
  obtain ⟨rfl, rfl, rfl, rfl, rfl⟩ := hq
  refine R_if_eq 33 dX12_family_5 (by decide) (fun hc5 => ?_) (fun hc5 => ?_)
  · try simp only [b2i_z, bi_z, ne_eq, Classical.not_not] at hc5
    refine R_iconst dX12_family_33 rfl rfl ?_
    refine R_ireturn rfl (by first | rfl | exact nar_b2i | exact nar_bi) (by decide) (by decide) dX12_family_34 ?_
    exact ⟨⟨SM.rfl, Or.inr ⟨fun q => by first | exact hc5 ⟨q.1, q.2.1⟩ | exact hc13 ⟨q.2.2.1, q.2.2.2⟩, rfl⟩⟩, rfl, rfl, rfl⟩
  · try simp only [b2i_z, bi_z, ne_eq, Classical.not_not] at hc5
    refine R_aload_n dX12_family_8 rfl ?_
    refine R_iload_n dX12_family_9 rfl ?_
    refine R_callV (m_isSet hF set) (mvX12_isSet _) kiX12_isSet kvX12_isSet km12_391 rfl rfl (by decide) ⟨rfl, rfl, by decide, by decide⟩ (Nat.le_of_ble_eq_true rfl) dX12_family_10 (fun v1 sh1 g1 z1 r1 hq => ?_)
    obtain ⟨rfl, rfl, rfl, rfl, rfl⟩ := hq
    refine R_if_eq 33 dX12_family_13 (by decide) (fun hc13 => ?_) (fun hc13 => ?_)
    · try simp only [b2i_z, bi_z, ne_eq, Classical.not_not] at hc13
      refine R_iconst dX12_family_33 rfl rfl ?_
      refine R_ireturn rfl (by first | rfl | exact nar_b2i | exact nar_bi) (by decide) (by decide) dX12_family_34 ?_
      exact ⟨⟨SM.rfl, Or.inr ⟨fun q => by first | exact hc5 ⟨q.1, q.2.1⟩ | exact hc13 ⟨q.2.2.1, q.2.2.2⟩, rfl⟩⟩, rfl, rfl, rfl⟩
    · try simp only [b2i_z, bi_z, ne_eq, Classical.not_not] at hc13
      have hok : okCS (vM g) c set := ⟨hc5.1, hc5.2, hc13.1, hc13.2⟩
      obtain ⟨cn, sn, rfl, rfl, h3, h4, h5⟩ := okCS_n (s := vM g) hF hok
      have h3' : (cn : Int) < g 74 3 := h3
      refine R_aload_n dX12_family_16 rfl ?_
      refine R_iload_n dX12_family_17 rfl ?_
      refine R_iload_n dX12_family_18 rfl ?_
      refine R_callV (m_canFamily hr hB hF cn (by omega) sn h5) (mvX12_canFamily _) kiX12_canFamily kvX12_canFamily km12_394 rfl rfl (by decide) ⟨rfl, rfl, by decide, by decide⟩ (Nat.le_of_ble_eq_true rfl) dX12_family_19 (fun v1 sh1 g1 z1 r1 hq => ?_)
      obtain ⟨⟨rfl, s1, o2, o3⟩, rfl, rfl, rfl⟩ := hq
      by_cases hs : (fam (vM g) cn sn).isSome = true
      · rw [bi_t hs]
        refine R_if_eq 29 dX12_family_22 (by decide) (fun hc22 => ?_) (fun hc22 => ?_)
        · exact absurd hc22 (by decide)
        refine R_iconst dX12_family_25 rfl rfl ?_
        refine R_goto 34 dX12_family_26 (by decide) ?_
        refine R_ireturn rfl (by first | rfl | exact nar_b2i | exact nar_bi) (by decide) (by decide) dX12_family_34 ?_
        exact ⟨⟨s1, Or.inl ⟨hok, by rw [Int.toNat_natCast, Int.toNat_natCast, bi_t hs]⟩⟩, rfl, rfl, rfl⟩
      · rw [bi_f hs]
        refine R_if_eq 29 dX12_family_22 (by decide) (fun hc22 => ?_) (fun hc22 => ?_)
        · refine R_iconst dX12_family_29 rfl rfl ?_
          refine R_goto 34 dX12_family_30 (by decide) ?_
          refine R_ireturn rfl (by first | rfl | exact nar_b2i | exact nar_bi) (by decide) (by decide) dX12_family_34 ?_
          exact ⟨⟨s1, Or.inl ⟨hok, by rw [Int.toNat_natCast, Int.toNat_natCast, bi_f hs]⟩⟩, rfl, rfl, rfl⟩
        · exact absurd rfl hc22
end MFAM2
