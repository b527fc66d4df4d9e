/-- the reference's tape, as bytes -/
def tM (g : GG) : Nat → Int := fun i => bAnd (g 75 i) 255
theorem wayF_le {s : VW} {T : Nat → Int} : wayF s T ≤ 0 := by
  unfold wayF
  split
  · omega
  · split <;> omega
theorem tM_byte {g : GG} (i : Nat) : ∃ n : Nat, n < 256 ∧ tM g i = (n : Int) := byte_of _
/-- as SM, but for the tape's size -/
def SM2 (g g' : GG) : Prop := (∀ c', c' ≠ 74 → c' ≤ 100 ∨ 106 ≤ c' → g' c' = g c') ∧ ∀ k, k ≠ 45 → k ≠ 46 → k ≠ 1 → g' 74 k = g 74 k
theorem SM.sm2 {g g' : GG} (h : SM g g') : SM2 g g' := ⟨h.1, fun k a b _ => h.2 k a b⟩
theorem SM2.rfl {g : GG} : SM2 g g := SM.rfl.sm2
theorem SM2.trans {g g1 g2 : GG} (h1 : SM2 g g1) (h2 : SM2 g1 g2) : SM2 g g2 := ⟨fun c' a b => (h2.1 c' a b).trans (h1.1 c' a b), fun k a b d => (h2.2 k a b d).trans (h1.2 k a b d)⟩
theorem SM2.vM {g g' : GG} (h : SM2 g g') : vM g' = vM g := vM_cong (fun c a b => h.1 c (by omega) (by omega)) (fun k a b => h.2 k (by omega) (by omega) (by omega))
theorem SM2.tM {g g' : GG} (h : SM2 g g') : tM g' = tM g := by
  funext i
  show bAnd (g' 75 i) 255 = bAnd (g 75 i) 255
  rw [h.1 75 (by decide) (by decide)]
theorem SM2.MP {g g' : GG} {r : RR} {K : Nat → CUS} (h : SM2 g g') (H : MP g r K) : MP g' r K := by
  obtain ⟨h1, h2, h3, h4⟩ := H
  refine ⟨h1, ?_, ?_, kmK_cong (fun c a b => h.1 c (by omega) (by omega)) h4⟩
  · show _ ∧ _
    rw [h.1 84 (by decide) (by decide), h.1 83 (by decide) (by decide), h.1 76 (by decide) (by decide), h.1 80 (by decide) (by decide), h.1 77 (by decide) (by decide), h.2 8 (by decide) (by decide) (by decide)]
    exact h2
  · show _ ∧ _
    rw [h.1 78 (by decide) (by decide), h.1 79 (by decide) (by decide), h.1 82 (by decide) (by decide), h.1 87 (by decide) (by decide), h.1 83 (by decide) (by decide), h.2 2 (by decide) (by decide) (by decide), h.2 3 (by decide) (by decide) (by decide), h.2 4 (by decide) (by decide) (by decide)]
    exact h3
section MWAY
variable {g z : GG} {r : RR}
theorem m_setBy (hr : RS r) (hF : 0 ≤ g 74 4 ∧ g 74 4 ≤ 10) (c : Int) : CT (mX12_setBy (rmD 0 0 0)) 0 0 shW [vR (some 74), vI c] g z r (qP shW g z r (some (vI (setR (tM g) c (g 74 4).toNat : Nat)))) := by
  refine CT.of 2 rfl rfl ?_
  generalize hQ : (qP shW g z r (some (vI (setR (tM g) c (g 74 4).toNat : Nat)))) = Q
  have loop : ∀ (n i : Nat), (i : Int) + n = g 74 4 → RJ (mX12_setBy (rmD 0 0 0)) 0 0 shW.length Q 0 0 shW 4 [some (vR (some 74)), some (vI (c)), some (vI ((setR (tM g) c i : Nat))), some (vI ((i : Int)))] [] g z r := by
    intro n
    induction n with
    | zero =>
      intro i hi
      refine R_iload_n dX12_setBy_4 rfl ?_
      refine R_aload_n dX12_setBy_5 rfl ?_
      refine R_getI fd12_4 kf12_175 rfl dX12_setBy_6 ?_
      refine R_icmp_ge 42 dX12_setBy_9 (by decide) (fun hc9 => ?_) (fun hc9 => ?_)
      · refine R_iload_n dX12_setBy_42 rfl ?_
        refine R_ireturn rfl (by first | rfl | exact nar_b2i | exact nar_bi) (by decide) (by decide) dX12_setBy_43 ?_
        rw [← hQ]
        exact ⟨by rw [show (g 74 4).toNat = i by omega], rfl, rfl, rfl, rfl⟩
      · exact absurd (by omega) hc9
    | succ n ih =>
      intro i hi
      have hn := ih (i + 1) (by omega)
      rw [setR] at hn
      have hlt := setR_lt (T := tM g) (c := c) i
      have hp : 2 ^ i < 1024 := Nat.pow_lt_pow_right (n := 10) (by decide) (by omega)
      have hT : tM g i = bAnd (g 75 i) 255 := rfl
      rw [hT] at hn
      refine R_iload_n dX12_setBy_4 rfl ?_
      refine R_aload_n dX12_setBy_5 rfl ?_
      refine R_getI fd12_4 kf12_175 rfl dX12_setBy_6 ?_
      refine R_icmp_ge 42 dX12_setBy_9 (by decide) (fun hc9 => ?_) (fun hc9 => ?_)
      · exact absurd hc9 (by omega)
      refine R_iload_n dX12_setBy_12 rfl ?_
      refine R_aload_n dX12_setBy_13 rfl ?_
      refine R_getR _ (hr _ _ _ rfl) fd12_0 kf12_7 rfl dX12_setBy_14 ?_
      refine R_iload_n dX12_setBy_17 rfl ?_
      refine R_bald rfl (by omega) (by omega) dX12_setBy_18 ?_
      rw [Int.toNat_natCast]
      refine R_sipush dX12_setBy_19 rfl (by decide +kernel) ?_
      refine R_iand dX12_setBy_22 ?_
      refine R_iload_n dX12_setBy_23 rfl ?_
      refine R_icmp_ne 33 dX12_setBy_24 (by decide) (fun hc24 => ?_) (fun hc24 => ?_)
      · refine R_iconst dX12_setBy_33 rfl rfl ?_
        refine R_ior dX12_setBy_34 ?_
        rw [if_neg hc24] at hn
        rw [show bOr ((setR (tM g) c i : Nat) : Int) 0 = ((setR (tM g) c i : Nat) : Int) by rw [show (0 : Int) = ((0 : Nat) : Int) from rfl, bOr_n (by omega) (by decide), Nat.or_zero]]
        refine R_istore_n dX12_setBy_35 (by decide) rfl [_, _, _, _] rfl ?_
        refine R_iincN dX12_setBy_36 rfl (by decide) rfl (by unfold inI; omega) [_, _, _, _] rfl ?_
        refine R_goto 4 dX12_setBy_39 (by decide) ?_
        exact hn
      · refine R_iconst dX12_setBy_27 rfl rfl ?_
        refine R_iload_n dX12_setBy_28 rfl ?_
        refine R_ishl dX12_setBy_29 ?_
        refine R_goto 34 dX12_setBy_30 (by decide) ?_
        refine R_ior dX12_setBy_34 ?_
        rw [if_pos hc24] at hn
        rw [or_bit (by omega) (by omega)]
        refine R_istore_n dX12_setBy_35 (by decide) rfl [_, _, _, _] rfl ?_
        refine R_iincN dX12_setBy_36 rfl (by decide) rfl (by unfold inI; omega) [_, _, _, _] rfl ?_
        refine R_goto 4 dX12_setBy_39 (by decide) ?_
        exact hn
  refine R_iconst dX12_setBy_0 rfl rfl ?_
  refine R_istore_n dX12_setBy_1 (by decide) rfl [_, _, _, _] rfl ?_
  refine R_iconst dX12_setBy_2 rfl rfl ?_
  refine R_istore_n dX12_setBy_3 (by decide) rfl [_, _, _, _] rfl ?_
  exact loop (g 74 4).toNat 0 (by omega)
theorem m_wayOf (K : Nat → CUS) (H : MP g r K) : CT (mX12_wayOf (rmD 5 0 0)) 0 0 shW [vR (some 74)] g z r (qG shW z r fun v g' => v = some (vI (wayF (vM g) (tM g))) ∧ SM g g') := by
  obtain ⟨hr, hB, hB2, hK⟩ := id H
  have hC := hB2.2.2.2.2.1
  have hF := hB2.2.2.2.2.2.1
  refine CT.of 2 rfl rfl ?_
  generalize hQ : (qG shW z r fun v g' => v = some (vI (wayF (vM g) (tM g))) ∧ SM g g') = Q
  have eF : ((vM g) 0 2).toNat = (g 74 4).toNat := rfl
  have eC : ((vM g) 0 1).toNat = (g 74 3).toNat := rfl
  have loop2 : strF (vM g) (tM g) ((vM g) 0 2).toNat = none → ∀ (n c : Nat) (g' : GG) (a2 : Option AV), (c : Int) + n = g 74 3 → SM g g' → (match brkF (vM g) (tM g) c n with | some c => -3000000 - (c : Int) | none => 0) = wayF (vM g) (tM g) → RJ (mX12_wayOf (rmD 5 0 0)) 0 0 shW.length Q 0 0 shW 58 [some (vR (some 74)), some (vI (c : Int)), a2] [] g' z r := by
    intro hno n
    induction n with
    | zero =>
      intro c g' a2 hc s1 hx
      refine R_iload_n dX12_wayOf_58 rfl ?_
      refine R_aload_n dX12_wayOf_59 rfl ?_
      refine R_getI fd12_3 kf12_172 rfl dX12_wayOf_60 ?_
      rw [s1.2 3 (by decide) (by decide)]
      refine R_icmp_ge 91 dX12_wayOf_63 (by decide) (fun hc63 => ?_) (fun hc63 => ?_)
      · refine R_iconst dX12_wayOf_91 rfl rfl ?_
        refine R_ireturn rfl (by first | rfl | exact nar_b2i | exact nar_bi) (by decide) (by decide) dX12_wayOf_92 ?_
        rw [← hQ]
        exact ⟨⟨by rw [← hx]; rfl, s1⟩, rfl, rfl, rfl⟩
      · exact absurd (by omega) hc63
    | succ n ih =>
      intro c g' a2 hc s1 hx
      have hsl := setR_lt (T := tM g) (c := (c : Int)) (g 74 4).toNat
      have hp : (2 : Nat) ^ (g 74 4).toNat ≤ 2 ^ 10 := Nat.pow_le_pow_right (by decide) (by omega)
      unfold brkF at hx
      rw [List.range'_succ, List.find?_cons, eF] at hx
      refine R_iload_n dX12_wayOf_58 rfl ?_
      refine R_aload_n dX12_wayOf_59 rfl ?_
      refine R_getI fd12_3 kf12_172 rfl dX12_wayOf_60 ?_
      rw [s1.2 3 (by decide) (by decide)]
      refine R_icmp_ge 91 dX12_wayOf_63 (by decide) (fun hc63 => ?_) (fun hc63 => ?_)
      · exact absurd hc63 (by omega)
      refine R_aload_n dX12_wayOf_66 rfl ?_
      refine R_iload_n dX12_wayOf_67 rfl ?_
      refine R_aload_n dX12_wayOf_68 rfl ?_
      refine R_iload_n dX12_wayOf_69 rfl ?_
      refine R_callV (m_setBy hr (by rw [s1.2 4 (by decide) (by decide)]; exact hF) (c : Int)) (mvX12_setBy _) kiX12_setBy kvX12_setBy km12_452 rfl rfl (by decide) ⟨rfl, rfl, by decide, by decide⟩ (Nat.le_of_ble_eq_true rfl) dX12_wayOf_70 (fun v1 sh1 g1 z1 r1 hq => ?_)
      obtain ⟨rfl, rfl, rfl, rfl, rfl⟩ := hq
      rw [s1.sm2.tM, s1.2 4 (by decide) (by decide)]
      refine R_callV (m_canFamily hr (s1.BM hB) (by rw [s1.2 4 (by decide) (by decide)]; exact hF) c (by omega) (setR (tM g) (c : Int) (g 74 4).toNat) (by omega)) (mvX12_canFamily _) kiX12_canFamily kvX12_canFamily km12_394 rfl rfl (by decide) ⟨rfl, rfl, by decide, by decide⟩ (Nat.le_of_ble_eq_true rfl) dX12_wayOf_73 (fun v1 sh1 g1 z1 r1 hq => ?_)
      obtain ⟨⟨rfl, s2, o2, o3⟩, rfl, rfl, rfl⟩ := hq
      rw [s1.vM]
      by_cases hs : (fam (vM g) c (setR (tM g) (c : Int) (g 74 4).toNat)).isSome = true
      · rw [bi_t hs]
        have hs' : (fam (vM g) c (setR (tM g) (c : Int) (g 74 4).toNat)).isNone = false := by rw [← Option.not_isSome, hs]; rfl
        rw [hs'] at hx
        refine R_if_ne 85 dX12_wayOf_76 (by decide) (fun hc76 => ?_) (fun hc76 => ?_)
        · refine R_iincN dX12_wayOf_85 rfl (by decide) rfl (by unfold inI; omega) [_, _, _] rfl ?_
          refine R_goto 58 dX12_wayOf_88 (by decide) ?_
          exact ih (c + 1) _ _ (by omega) (s1.trans s2) hx
        · exact absurd hc76 (by decide)
      · rw [bi_f hs]
        have hs' : (fam (vM g) c (setR (tM g) (c : Int) (g 74 4).toNat)).isNone = true := by rw [← Option.not_isSome, Bool.eq_false_iff.mpr hs]; rfl
        rw [hs'] at hx
        refine R_if_ne 85 dX12_wayOf_76 (by decide) (fun hc76 => ?_) (fun hc76 => ?_)
        · exact absurd rfl hc76
        · refine R_ldc_wC (v := -3000000) kk12_455 (by decide +kernel) dX12_wayOf_79 (by decide) ?_
          refine R_iload_n dX12_wayOf_82 rfl ?_
          refine R_isubN dX12_wayOf_83 (by unfold inI; omega) ?_
          refine R_ireturn rfl (by first | rfl | exact nar_b2i | exact nar_bi) (by decide) (by decide) dX12_wayOf_84 ?_
          rw [← hQ]
          exact ⟨⟨by rw [← hx], s1.trans s2⟩, rfl, rfl, rfl⟩
  have loop1 : ∀ (n i : Nat) (a2 : Option AV), (i : Int) + n = g 74 4 → (List.range' i n).find? (fun i => !canR (vM g) (tM g) i) = strF (vM g) (tM g) ((vM g) 0 2).toNat → RJ (mX12_wayOf (rmD 5 0 0)) 0 0 shW.length Q 0 0 shW 2 [some (vR (some 74)), some (vI (i : Int)), a2] [] g z r := by
    intro n
    induction n with
    | zero =>
      intro i a2 hi hx
      have hx : strF (vM g) (tM g) ((vM g) 0 2).toNat = none := by rw [← hx]; rfl
      refine R_iload_n dX12_wayOf_2 rfl ?_
      refine R_aload_n dX12_wayOf_3 rfl ?_
      refine R_getI fd12_4 kf12_175 rfl dX12_wayOf_4 ?_
      refine R_icmp_ge 56 dX12_wayOf_7 (by decide) (fun hc7 => ?_) (fun hc7 => ?_)
      · refine R_iconst dX12_wayOf_56 rfl rfl ?_
        refine R_istore_n dX12_wayOf_57 (by decide) rfl [_, _, _] rfl ?_
        refine loop2 hx (g 74 3).toNat 0 g _ (by omega) SM.rfl ?_
        unfold wayF
        rw [hx, eC]
        simp only
        rfl
      · exact absurd (by omega) hc7
    | succ n ih =>
      intro i a2 hi hx
      rw [List.range'_succ, List.find?_cons] at hx
      obtain ⟨t, ht, htT⟩ := tM_byte (g := g) i
      have hTT : bAnd (g 75 i) 255 = (t : Int) := htT
      have ecan : canR (vM g) (tM g) i = (decide ((t : Int) = 6) || (decide (0 ≤ (t : Int) ∧ (t : Int) < g 74 3) && canTie (vM g) i t)) := by unfold canR; rw [htT, Int.toNat_natCast]; rfl
      have next : canR (vM g) (tM g) i = true → ∀ a2, RJ (mX12_wayOf (rmD 5 0 0)) 0 0 shW.length Q 0 0 shW 50 [some (vR (some 74)), some (vI (i : Int)), a2] [] g z r := by
        intro hcan a2
        rw [hcan] at hx
        refine R_iincN dX12_wayOf_50 rfl (by decide) rfl (by unfold inI; omega) [_, _, _] rfl ?_
        refine R_goto 2 dX12_wayOf_53 (by decide) ?_
        exact ih (i + 1) _ (by omega) hx
      have stop : canR (vM g) (tM g) i = false → ∀ a2, RJ (mX12_wayOf (rmD 5 0 0)) 0 0 shW.length Q 0 0 shW 44 [some (vR (some 74)), some (vI (i : Int)), a2] [] g z r := by
        intro hcan a2
        rw [hcan] at hx
        have hx : strF (vM g) (tM g) ((vM g) 0 2).toNat = some i := by rw [← hx]; rfl
        have hw : wayF (vM g) (tM g) = -2000000 - (i : Int) := by unfold wayF; rw [hx]
        refine R_ldc_wC (v := -2000000) kk12_451 (by decide +kernel) dX12_wayOf_44 (by decide) ?_
        refine R_iload_n dX12_wayOf_47 rfl ?_
        refine R_isubN dX12_wayOf_48 (by unfold inI; omega) ?_
        refine R_ireturn rfl (by first | rfl | exact nar_b2i | exact nar_bi) (by decide) (by decide) dX12_wayOf_49 ?_
        rw [← hQ]
        exact ⟨⟨by rw [hw], SM.rfl⟩, rfl, rfl, rfl⟩
      refine R_iload_n dX12_wayOf_2 rfl ?_
      refine R_aload_n dX12_wayOf_3 rfl ?_
      refine R_getI fd12_4 kf12_175 rfl dX12_wayOf_4 ?_
      refine R_icmp_ge 56 dX12_wayOf_7 (by decide) (fun hc7 => ?_) (fun hc7 => ?_)
      · exact absurd hc7 (by omega)
      refine R_aload_n dX12_wayOf_10 rfl ?_
      refine R_getR _ (hr _ _ _ rfl) fd12_0 kf12_7 rfl dX12_wayOf_11 ?_
      refine R_iload_n dX12_wayOf_14 rfl ?_
      refine R_bald rfl (by omega) (by omega) dX12_wayOf_15 ?_
      rw [Int.toNat_natCast]
      refine R_sipush dX12_wayOf_16 rfl (by decide +kernel) ?_
      refine R_iand dX12_wayOf_19 ?_
      rw [hTT]
      refine R_istore_n dX12_wayOf_20 (by decide) rfl [_, _, _] rfl ?_
      refine R_iload_n dX12_wayOf_21 rfl ?_
      refine R_bipush dX12_wayOf_22 rfl (by decide +kernel) ?_
      refine R_icmp_eq 50 dX12_wayOf_24 (by decide) (fun hc24 => ?_) (fun hc24 => ?_)
      · exact next (by rw [ecan, decide_eq_true hc24]; rfl) _
      refine R_aload_n dX12_wayOf_27 rfl ?_
      refine R_iload_n dX12_wayOf_28 rfl ?_
      refine R_callV (m_isCouple hC (t : Int)) (mvX12_isCouple _) kiX12_isCouple kvX12_isCouple km12_193 rfl rfl (by decide) ⟨rfl, rfl, by decide, by decide⟩ (Nat.le_of_ble_eq_true rfl) dX12_wayOf_29 (fun v1 sh1 g1 z1 r1 hq => ?_)
      obtain ⟨rfl, rfl, rfl, rfl, rfl⟩ := hq
      by_cases hcp : 0 ≤ (t : Int) ∧ (t : Int) < g 74 3
      · rw [b2i_t hcp]
        refine R_if_eq 44 dX12_wayOf_32 (by decide) (fun hc32 => ?_) (fun hc32 => ?_)
        · exact absurd hc32 (by decide)
        refine R_aload_n dX12_wayOf_35 rfl ?_
        refine R_iload_n dX12_wayOf_36 rfl ?_
        refine R_iload_n dX12_wayOf_37 rfl ?_
        refine R_callV (m_canTie hr (i : Int) (t : Int) (by omega) (by omega)) (mvX12_canTie _) kiX12_canTie kvX12_canTie km12_330 rfl rfl (by decide) ⟨rfl, rfl, by decide, by decide⟩ (Nat.le_of_ble_eq_true rfl) dX12_wayOf_38 (fun v1 sh1 g1 z1 r1 hq => ?_)
        obtain ⟨rfl, rfl, rfl, rfl, rfl⟩ := hq
        rw [Int.toNat_natCast, Int.toNat_natCast]
        by_cases hct : canTie (vM g) i t = true
        · rw [bi_t hct]
          refine R_if_ne 50 dX12_wayOf_41 (by decide) (fun hc41 => ?_) (fun hc41 => ?_)
          · exact next (by rw [ecan, decide_eq_true hcp, hct]; simp) _
          · exact absurd hc41 (by decide)
        · rw [bi_f hct]
          refine R_if_ne 50 dX12_wayOf_41 (by decide) (fun hc41 => ?_) (fun hc41 => ?_)
          · exact absurd rfl hc41
          · exact stop (by rw [ecan, decide_eq_false hc24, Bool.eq_false_iff.mpr hct, Bool.and_false]; rfl) _
      · rw [b2i_f hcp]
        refine R_if_eq 44 dX12_wayOf_32 (by decide) (fun hc32 => ?_) (fun hc32 => ?_)
        · exact stop (by rw [ecan, decide_eq_false hc24, decide_eq_false hcp]; rfl) _
        · exact absurd rfl hc32
  refine R_iconst dX12_wayOf_0 rfl rfl ?_
  refine R_istore_n dX12_wayOf_1 (by decide) rfl [_, _, _] rfl ?_
  exact loop1 (g 74 4).toNat 0 _ (by omega) (by unfold strF; rw [eF, List.range_eq_range'])
theorem ptS_m {g : GG} (h : BM g) (K : Nat → CUS) (a b Y : Int) (c : Nat) (l : List Nat) (hl : l.length ≤ 10) : -1000 ≤ ptS (vM g) K a b Y c l ∧ ptS (vM g) K a b Y c l ≤ 1000 := by
  have := ptU_m h (ltS (vM g) K a b Y c l) c l l.length
  unfold ptS
  omega
theorem wpU_m {K : Nat → CUS} (H : MP g r K) (a b Y : Int) (S : Nat → Nat) : ∀ c, (∀ c', c' < c → ∃ l, fam (vM g) c' (S c') = some l) → -1000 * (c : Int) ≤ wpU (vM g) K a b Y S c ∧ wpU (vM g) K a b Y S c ≤ 1000 * (c : Int) := by
  intro c
  induction c with
  | zero => intro _; simp [wpU]
  | succ c ih =>
    intro h
    have h1 := ih (fun c' hc' => h c' (by omega))
    obtain ⟨l, hl⟩ := h c (by omega)
    have hll : l.length ≤ 10 := by have h1 := fam_len hl; have h2 : (vM g) 0 2 = g 74 4 := rfl; rw [h2] at h1; have := H.2.2.1.2.2.2.2.2.1; omega
    have h2 := ptS_m H.2.1 K a b Y c l hll
    unfold wpU
    rw [hl]
    simp only
    omega
theorem m_wayPoints (K : Nat → CUS) (H : MP g r K) (hA : -1 ≤ g 74 5 ∧ g 74 5 < 4) (hA2 : -1 ≤ g 74 6 ∧ g 74 6 < 4) (hal : 0 ≤ g 74 9 ∧ g 74 9 ≤ 1000) (hfam : ∀ c : Nat, (c : Int) < g 74 3 → ∃ l, fam (vM g) c (setsR (vM g) (tM g) c) = some l) : CT (mX12_wayPoints (rmD 6 0 0)) 0 0 shW [vR (some 74)] g z r (qG shW z r fun v g' => v = some (vI (wpS (vM g) K (g 74 5) (g 74 6) (g 74 7) (setsR (vM g) (tM g)))) ∧ SM g g') := by
  obtain ⟨hr, hB, hB2, hK⟩ := id H
  have hC := hB2.2.2.2.2.1
  have hF := hB2.2.2.2.2.2.1
  refine CT.of 2 rfl rfl ?_
  generalize hQ : (qG shW z r fun v g' => v = some (vI (wpS (vM g) K (g 74 5) (g 74 6) (g 74 7) (setsR (vM g) (tM g)))) ∧ SM g g') = Q
  have hS : ∀ c : Nat, setR (tM g) (c : Int) (g 74 4).toNat = setsR (vM g) (tM g) c := fun _ => rfl
  have hS2 : ∀ c : Nat, setsR (vM g) (tM g) c < 1024 := fun c => by
    have h1 := setR_lt (T := tM g) (c := (c : Int)) (g 74 4).toNat
    have hp : (2 : Nat) ^ (g 74 4).toNat ≤ 2 ^ 10 := Nat.pow_le_pow_right (by decide) (by omega)
    rw [hS] at h1
    omega
  generalize hSd : setsR (vM g) (tM g) = S at *
  have hp := popS_le (S 6)
  have hal2 : -10000 ≤ -(g 74 9) * (popS (S 6) : Int) ∧ -(g 74 9) * (popS (S 6) : Int) ≤ 0 := by
    have h1 : g 74 9 * (popS (S 6) : Int) ≤ 1000 * 10 := Int.mul_le_mul hal.2 (by omega) (by omega) (by omega)
    have h2 : 0 ≤ g 74 9 * (popS (S 6) : Int) := Int.mul_nonneg hal.1 (by omega)
    rw [Int.neg_mul]
    omega
  have loop : ∀ (n c : Nat) (g' : GG), (c : Int) + n = g 74 3 → SM g g' → RJ (mX12_wayPoints (rmD 6 0 0)) 0 0 shW.length Q 0 0 shW 18 [some (vR (some 74)), some (vI (-(g 74 9) * (popS (S 6) : Int) + wpU (vM g) K (g 74 5) (g 74 6) (g 74 7) S c)), some (vI ((c : Int)))] [] g' z r := by
    intro n
    induction n with
    | zero =>
      intro c g' hc s1
      refine R_iload_n dX12_wayPoints_18 rfl ?_
      refine R_aload_n dX12_wayPoints_19 rfl ?_
      refine R_getI fd12_3 kf12_172 rfl dX12_wayPoints_20 ?_
      rw [s1.2 3 (by decide) (by decide)]
      refine R_icmp_ge 45 dX12_wayPoints_23 (by decide) (fun hc23 => ?_) (fun hc23 => ?_)
      · refine R_iload_n dX12_wayPoints_45 rfl ?_
        refine R_ireturn rfl (by first | rfl | exact nar_b2i | exact nar_bi) (by decide) (by decide) dX12_wayPoints_46 ?_
        rw [← hQ]
        refine ⟨⟨?_, s1⟩, rfl, rfl, rfl⟩
        unfold wpS
        rw [show ((vM g) 0 1).toNat = c by show (g 74 3).toNat = c; omega]
        rfl
      · exact absurd (by omega) hc23
    | succ n ih =>
      intro c g' hc s1
      have hn := fun g' => ih (c + 1) g' (by omega)
      obtain ⟨l, hl⟩ := hfam c (by omega)
      rw [wpU, hl] at hn
      simp only at hn
      have hll : l.length ≤ 10 := by have h1 := fam_len hl; have h2 : (vM g) 0 2 = g 74 4 := rfl; rw [h2] at h1; omega
      have hb1 := ptS_m hB K (g 74 5) (g 74 6) (g 74 7) c l hll
      have hb2 := wpU_m H (g 74 5) (g 74 6) (g 74 7) S c (fun c' hc' => hfam c' (by omega))
      have hkM : kM (g 84) (S c) (g 74 4).toNat = l := by
        have := fam_m (g := g) (c := c) (set := S c) (by rw [hl]; rfl)
        rw [hl] at this
        exact (Option.some.inj this).symm
      refine R_iload_n dX12_wayPoints_18 rfl ?_
      refine R_aload_n dX12_wayPoints_19 rfl ?_
      refine R_getI fd12_3 kf12_172 rfl dX12_wayPoints_20 ?_
      rw [s1.2 3 (by decide) (by decide)]
      refine R_icmp_ge 45 dX12_wayPoints_23 (by decide) (fun hc23 => ?_) (fun hc23 => ?_)
      · exact absurd hc23 (by omega)
      refine R_iload_n dX12_wayPoints_26 rfl ?_
      refine R_aload_n dX12_wayPoints_27 rfl ?_
      refine R_iload_n dX12_wayPoints_28 rfl ?_
      refine R_aload_n dX12_wayPoints_29 rfl ?_
      refine R_iload_n dX12_wayPoints_30 rfl ?_
      refine R_callV (m_setBy hr (by rw [s1.2 4 (by decide) (by decide)]; exact hF) (c : Int)) (mvX12_setBy _) kiX12_setBy kvX12_setBy km12_452 rfl rfl (by decide) ⟨rfl, rfl, by decide, by decide⟩ (Nat.le_of_ble_eq_true rfl) dX12_wayPoints_31 (fun v1 sh1 g1 z1 r1 hq => ?_)
      obtain ⟨rfl, rfl, rfl, rfl, rfl⟩ := hq
      rw [s1.sm2.tM, s1.2 4 (by decide) (by decide), hS c]
      refine R_callV (m_pointsOf K (s1.MP H) c (by omega) (S c) (hS2 c) (by rw [s1.2 5 (by decide) (by decide)]; exact hA) (by rw [s1.2 6 (by decide) (by decide)]; exact hA2)) (mvX12_pointsOf _) kiX12_pointsOf kvX12_pointsOf km12_397 rfl rfl (by decide) ⟨rfl, rfl, by decide, by decide⟩ (Nat.le_of_ble_eq_true rfl) dX12_wayPoints_34 (fun v1 sh1 g2 z1 r1 hq => ?_)
      obtain ⟨⟨s2, rfl⟩, rfl, rfl, rfl⟩ := hq
      rw [s1.vM, s1.2 5 (by decide) (by decide), s1.2 6 (by decide) (by decide), s1.2 7 (by decide) (by decide), s1.2 4 (by decide) (by decide), s1.1 84 (by decide) (by decide), hkM]
      refine R_iaddN dX12_wayPoints_37 (by unfold inI; omega) ?_
      refine R_istore_n dX12_wayPoints_38 (by decide) rfl [_, _, _] rfl ?_
      refine R_iincN dX12_wayPoints_39 rfl (by decide) rfl (by unfold inI; omega) [_, _, _] rfl ?_
      refine R_goto 18 dX12_wayPoints_42 (by decide) ?_
      rw [Int.add_assoc]
      exact hn g2 (s1.trans s2)
  refine R_aload_n dX12_wayPoints_0 rfl ?_
  refine R_getI fd12_9 kf12_26 rfl dX12_wayPoints_1 ?_
  refine R_inegN dX12_wayPoints_4 (by unfold inI; omega) ?_
  refine R_aload_n dX12_wayPoints_5 rfl ?_
  refine R_bipush dX12_wayPoints_6 rfl (by decide +kernel) ?_
  refine R_callV (m_setBy hr hF 6) (mvX12_setBy _) kiX12_setBy kvX12_setBy km12_452 rfl rfl (by decide) ⟨rfl, rfl, by decide, by decide⟩ (Nat.le_of_ble_eq_true rfl) dX12_wayPoints_8 (fun v1 sh1 g1 z1 r1 hq => ?_)
  obtain ⟨rfl, rfl, rfl, rfl, rfl⟩ := hq
  rw [show setR (tM g) 6 (g 74 4).toNat = S 6 from hS 6]
  refine R_callS (m_sizeOf (S 6) (hS2 6)) (mvX12_sizeOf _) ksX12_sizeOf km12_408 ⟨rfl, rfl, by decide, by decide⟩ (Nat.le_of_ble_eq_true rfl) dX12_wayPoints_11 (fun v1 sh1 g1 z1 r1 hq => ?_)
  obtain ⟨rfl, rfl, rfl, rfl, rfl⟩ := hq
  refine R_imulN dX12_wayPoints_14 (by unfold inI; omega) ?_
  refine R_istore_n dX12_wayPoints_15 (by decide) rfl [_, _, _] rfl ?_
  refine R_iconst dX12_wayPoints_16 rfl rfl ?_
  refine R_istore_n dX12_wayPoints_17 (by decide) rfl [_, _, _] rfl ?_
  have := loop (g 74 3).toNat 0 g (by omega) SM.rfl
  rw [wpU, Int.add_zero] at this
  exact this
theorem m_judge (K : Nat → CUS) (H : MP g r K) (hA : -1 ≤ g 74 5 ∧ g 74 5 < 4) (hA2 : -1 ≤ g 74 6 ∧ g 74 6 < 4) (hal : 0 ≤ g 74 9 ∧ g 74 9 ≤ 1000) : CT (mX12_judge (rmD 9 0 0)) 0 0 shW [vR (some 74)] g z r (qG shW z r fun v g' => (g 74 1 < g 74 4 ∧ v = some (vI (-1000000)) ∧ g' = g) ∨ (g 74 4 ≤ g 74 1 ∧ wayF (vM g) (tM g) ≠ 0 ∧ v = some (vI (wayF (vM g) (tM g))) ∧ SM2 g g' ∧ g' 74 1 = 0) ∨ (g 74 4 ≤ g 74 1 ∧ wayF (vM g) (tM g) = 0 ∧ v = some (vI (wpS (vM g) K (g 74 5) (g 74 6) (g 74 7) (setsR (vM g) (tM g)))) ∧ SM2 g g' ∧ g' 74 1 = 0)) := by
  refine CT.of 1 rfl rfl ?_
  refine R_aload_n dX12_judge_0 rfl ?_
  refine R_getI fd12_1 kf12_203 rfl dX12_judge_1 ?_
  refine R_aload_n dX12_judge_4 rfl ?_
  refine R_getI fd12_4 kf12_175 rfl dX12_judge_5 ?_
  refine R_icmp_ge 15 dX12_judge_8 (by decide) (fun hc8 => ?_) (fun hc8 => ?_)
  · have sT : SM2 g (up2 g 74 1 0) := ⟨fun c' a b => up2_ne a, fun k a b e => up2_k e⟩
    have hm : MP (up2 g 74 1 0) r K := sT.MP H
    refine R_aload_n dX12_judge_15 rfl ?_
    refine R_iconst dX12_judge_16 rfl rfl ?_
    refine R_putI fd12_1 rfl kf12_203 rfl dX12_judge_17 ?_
    refine R_aload_n dX12_judge_20 rfl ?_
    refine R_callV (m_wayOf K hm) (mvX12_wayOf _) kiX12_wayOf kvX12_wayOf km12_456 rfl rfl (by decide) ⟨rfl, rfl, by decide, by decide⟩ (Nat.le_of_ble_eq_true rfl) dX12_judge_21 (fun v1 sh1 g1 z1 r1 hq => ?_)
    obtain ⟨⟨rfl, s1⟩, rfl, rfl, rfl⟩ := hq
    have etM : tM (up2 g 74 1 0) = tM g := by unfold tM; rw [up2_ne (by decide)]
    have s2 := sT.trans s1.sm2
    rw [sT.vM, etM]
    have h1 : g1 74 1 = 0 := by rw [s1.2 1 (by decide) (by decide), up2_s]
    have hw := wayF_le (s := vM g) (T := tM g)
    refine R_istore_n dX12_judge_24 (by decide) rfl [_, _] rfl ?_
    refine R_iload_n dX12_judge_25 rfl ?_
    refine R_if_ge 33 dX12_judge_26 (by decide) (fun hc26 => ?_) (fun hc26 => ?_)
    · have hw0 : wayF (vM g) (tM g) = 0 := by omega
      refine R_aload_n dX12_judge_33 rfl ?_
      refine R_callV (m_wayPoints K (s1.MP hm) (by rw [s2.2 5 (by decide) (by decide) (by decide)]; exact hA) (by rw [s2.2 6 (by decide) (by decide) (by decide)]; exact hA2) (by rw [s2.2 9 (by decide) (by decide) (by decide)]; exact hal) (fun c hc => by rw [s2.vM, s2.tM]; rw [s2.2 3 (by decide) (by decide) (by decide)] at hc; have := brk_none (way_ok hw0).2 c (by show c < (g 74 3).toNat; omega); exact this)) (mvX12_wayPoints _) kiX12_wayPoints kvX12_wayPoints km12_459 rfl rfl (by decide) ⟨rfl, rfl, by decide, by decide⟩ (Nat.le_of_ble_eq_true rfl) dX12_judge_34 (fun v1 sh1 g2 z1 r1 hq => ?_)
      obtain ⟨⟨rfl, s3⟩, rfl, rfl, rfl⟩ := hq
      rw [s2.vM, s2.tM, s2.2 5 (by decide) (by decide) (by decide), s2.2 6 (by decide) (by decide) (by decide), s2.2 7 (by decide) (by decide) (by decide)]
      refine R_ireturn rfl (by first | rfl | exact nar_b2i | exact nar_bi) (by decide) (by decide) dX12_judge_37 ?_
      exact ⟨Or.inr (Or.inr ⟨hc8, hw0, rfl, s2.trans s3.sm2, by rw [s3.2 1 (by decide) (by decide)]; exact h1⟩), rfl, rfl, rfl⟩
    · refine R_iload_n dX12_judge_29 rfl ?_
      refine R_goto 37 dX12_judge_30 (by decide) ?_
      refine R_ireturn rfl (by first | rfl | exact nar_b2i | exact nar_bi) (by decide) (by decide) dX12_judge_37 ?_
      exact ⟨Or.inr (Or.inl ⟨hc8, by omega, rfl, s2, h1⟩), rfl, rfl, rfl⟩
  · refine R_ldc_wC (v := -1000000) kk12_400 (by decide +kernel) dX12_judge_11 (by decide) ?_
    refine R_ireturn rfl (by first | rfl | exact nar_b2i | exact nar_bi) (by decide) (by decide) dX12_judge_14 ?_
    exact ⟨Or.inl ⟨by omega, rfl, rfl⟩, rfl, rfl, rfl⟩
end MWAY
