section MRD3
variable {g z : GG} {r : RR} {tp : Nat → Int} {N p o : Nat} {σ : List Int} {C : List (Int × Int)}
theorem m_opens (hr : RS r) (h : MT tp N g (p, σ, o, C)) (h37 : g 74 37 = 0) (hb : isBk (tX tp N p) = true) : CT (mX12_opens (rmD 1 0 0)) 0 0 shW [vR (some 74)] g z r (qG shW z r fun v g' => v = none ∧ FrM0 g g' ∧ ((o = 6 ∧ g' 74 37 = -5000 - (p : Int)) ∨ (o < 6 ∧ g' 74 37 = 0 ∧ MT tp N g' (p + 1, tX tp N p :: σ, o + 1, C)))) := by
  have h41 : g 74 41 = (σ.length : Int) := h.1.2.2.2.1.1
  have h40 : g 74 40 = (o : Int) := h.1.2.2.2.2.1
  have h35 : g 74 35 = (p : Int) := h.1.2.2.1
  have hN := h.1.2.1.2
  have h8 : o ≤ 6 := h.1.2.2.2.2.2.2.2
  have h7 : σ.length + C.length ≤ p ∧ p ≤ N := h.1.2.2.2.2.2.2.1
  have hlt : p < N := txt_lt (tX_ok (f := tp) (N := N)).1 (fun e => by rw [e] at hb; cases hb)
  refine CT.of 0 rfl rfl ?_
  refine R_aload_n dX12_opens_0 rfl ?_
  refine R_getI fd12_40 kf12_229 rfl dX12_opens_1 ?_
  rw [h40]
  refine R_bipush dX12_opens_4 rfl (by decide +kernel) ?_
  refine R_icmp_ne 18 dX12_opens_6 (by decide) (fun hc6 => ?_) (fun hc6 => ?_)
  · refine R_aload_n dX12_opens_18 rfl ?_
    refine R_dup dX12_opens_19 (fun _ h => by cases h) ?_
    refine R_getI fd12_40 kf12_229 rfl dX12_opens_20 ?_
    rw [h40]
    refine R_iconst dX12_opens_23 rfl rfl ?_
    refine R_iaddN dX12_opens_24 (by unfold inI; omega) ?_
    refine R_putI fd12_40 rfl kf12_229 rfl dX12_opens_25 ?_
    refine R_aload_n dX12_opens_28 rfl ?_
    refine R_aload_n dX12_opens_29 rfl ?_
    rw [show (o : Int) + 1 = ((o + 1 : Nat) : Int) by omega]
    have h1 := h.1.opn (o' := o + 1) (by omega)
    refine R_callV (h1.here hr) (mvX12_here _) kiX12_here kvX12_here km12_236 rfl rfl (by decide) ⟨rfl, rfl, by decide, by decide⟩ (Nat.le_of_ble_eq_true rfl) dX12_opens_30 (fun v1 sh1 g2 z1 r1 hq => ?_)
    obtain ⟨rfl, rfl, rfl, rfl, rfl⟩ := hq
    refine R_callV (m_puts hr σ.length p (by omega) (by omega) h1.2.2.2.1.1 h1.2.2.1 (tX tp N p)) (mvX12_puts _) kiX12_puts kvX12_puts km12_240 rfl rfl (by decide) ⟨rfl, rfl, by decide, by decide⟩ (Nat.le_of_ble_eq_true rfl) dX12_opens_33 (fun v1 sh1 g2 z1 r1 hq => ?_)
    obtain ⟨⟨rfl, rfl⟩, rfl, rfl, rfl⟩ := hq
    refine R_return rfl (by decide) (by decide) dX12_opens_36 ?_
    exact ⟨⟨rfl, (FrM0.up (by omega)).trans put_fr, Or.inr ⟨by omega, by rw [put_37, up2_k (by decide)]; exact h37, MS_put h1 (by omega), by show o + 1 = opN (tX tp N p :: σ); rw [opN_t hb]; have e : o = opN σ := h.2; omega⟩⟩, rfl, rfl, rfl⟩
  · have ho6 : o = 6 := by omega
    refine R_aload_n dX12_opens_9 rfl ?_
    refine R_iconst dX12_opens_10 rfl rfl ?_
    refine R_aload_n dX12_opens_11 rfl ?_
    refine R_getI fd12_35 kf12_210 rfl dX12_opens_12 ?_
    rw [h35]
    refine R_callV (m_wrongs 5 p (by decide) (by omega)) (mvX12_wrongs _) kiX12_wrongs kvX12_wrongs km12_232 rfl rfl (by decide) ⟨rfl, rfl, by decide, by decide⟩ (Nat.le_of_ble_eq_true rfl) dX12_opens_15 (fun v1 sh1 g2 z1 r1 hq => ?_)
    obtain ⟨⟨rfl, rfl⟩, rfl, rfl, rfl⟩ := hq
    rw [h37, if_neg (by decide)]
    have h1 := h.1.oth (k := 37) (v := -1000 * ((5 : Nat) : Int) - (p : Int)) (Or.inl rfl)
    have e37 : up2 g 74 37 (-1000 * ((5 : Nat) : Int) - (p : Int)) 74 37 = -5000 - (p : Int) := by rw [up2_s]; omega
    have f1 : FrM0 g (up2 g 74 37 (-1000 * ((5 : Nat) : Int) - (p : Int))) := FrM0.up (by omega)
    have e40 := h1.2.2.2.2.1
    generalize up2 g 74 37 (-1000 * ((5 : Nat) : Int) - (p : Int)) = g1 at *
    have e40 : g1 74 40 = (o : Int) := e40
    refine R_aload_n dX12_opens_18 rfl ?_
    refine R_dup dX12_opens_19 (fun _ h => by cases h) ?_
    refine R_getI fd12_40 kf12_229 rfl dX12_opens_20 ?_
    rw [e40]
    refine R_iconst dX12_opens_23 rfl rfl ?_
    refine R_iaddN dX12_opens_24 (by unfold inI; omega) ?_
    refine R_putI fd12_40 rfl kf12_229 rfl dX12_opens_25 ?_
    refine R_aload_n dX12_opens_28 rfl ?_
    refine R_aload_n dX12_opens_29 rfl ?_
    have e35 : up2 g1 74 40 ((o : Int) + 1) 74 35 = (p : Int) := by rw [up2_k (by decide)]; exact h1.2.2.1
    have e36 : up2 g1 74 40 ((o : Int) + 1) 74 36 = (N : Int) ∧ N ≤ 160 := ⟨by rw [up2_k (by decide)]; exact h1.2.1.1, hN⟩
    have e41 : up2 g1 74 40 ((o : Int) + 1) 74 41 = (σ.length : Int) := by rw [up2_k (by decide)]; exact h1.2.2.2.1.1
    refine R_callV (m_here hr e36 e35) (mvX12_here _) kiX12_here kvX12_here km12_236 rfl rfl (by decide) ⟨rfl, rfl, by decide, by decide⟩ (Nat.le_of_ble_eq_true rfl) dX12_opens_30 (fun v1 sh1 g2 z1 r1 hq => ?_)
    obtain ⟨rfl, rfl, rfl, rfl, rfl⟩ := hq
    refine R_callV (m_puts hr σ.length p (by omega) (by omega) e41 e35 _) (mvX12_puts _) kiX12_puts kvX12_puts km12_240 rfl rfl (by decide) ⟨rfl, rfl, by decide, by decide⟩ (Nat.le_of_ble_eq_true rfl) dX12_opens_33 (fun v1 sh1 g2 z1 r1 hq => ?_)
    obtain ⟨⟨rfl, rfl⟩, rfl, rfl, rfl⟩ := hq
    refine R_return rfl (by decide) (by decide) dX12_opens_36 ?_
    exact ⟨⟨rfl, (f1.trans (FrM0.up (by omega))).trans put_fr, Or.inl ⟨ho6, by rw [put_37, up2_k (by decide)]; exact e37⟩⟩, rfl, rfl, rfl⟩
theorem m_reads (hr : RS r) (h : MS tp N g (p, σ, o, C)) (h37 : g 74 37 = 0) (hd : dig (tX tp N p) = true) : CT (mX12_reads (rmD 2 0 0)) 0 0 shW [vR (some 74)] g z r (qG shW z r fun v g' => FrM0 g g' ∧ ∃ x, v = some (vI x) ∧ rstX (nmbP (tX tp N) p) (fun f => g' 74 37 = f) (fun p' b => g' 74 37 = 0 ∧ MS tp N g' (p', σ, o, C) ∧ b = bNum x)) := by
  have hT := tX_ok (f := tp) (N := N)
  have hN := h.2.1.2
  have h35 : g 74 35 = (p : Int) := h.2.2.1
  have hpN : p ≤ N := h.2.2.2.2.2.2.1.2
  generalize hTe : tX tp N = T at *
  refine CT.of 2 rfl rfl ?_
  generalize hQ : (qG shW z r fun v g' => FrM0 g g' ∧ ∃ x, v = some (vI x) ∧ rstX (nmbP T p) (fun f => g' 74 37 = f) (fun p' b => g' 74 37 = 0 ∧ MS tp N g' (p', σ, o, C) ∧ b = bNum x)) = Q
  have loop : ∀ (n k : Nat) (v : Int) (p1 : Nat) (g1 : GG), k + n = 5 → p1 = p + k → (0 ≤ v ∧ v < 10 ^ k) → FrM0 g g1 → MS tp N g1 (p1, σ, o, C) → g1 74 37 = 0 → numP T n p1 v = numP T 5 p 0 → RJ (mX12_reads (rmD 2 0 0)) 0 0 shW.length Q 0 0 shW 7 [some (vR (some 74)), some (vI ((p : Int))), some (vI (v))] [] g1 z r := by
    intro n
    induction n with
    | zero =>
      intro k v p1 g1 hk hp1 hv f1 h1 k1 hn
      have hk5 : k = 5 := by omega
      subst hk5
      have hn : (p1, v) = numP T 5 p 0 := hn
      have e35 : g1 74 35 = (p1 : Int) := h1.2.2.1
      have hp1N : p1 ≤ N := h1.2.2.2.2.2.2.1.2
      have hTb := hT.2 p1
      refine R_aload_n dX12_reads_7 rfl ?_
      refine R_callV (m_isGood) (mvX12_isGood _) kiX12_isGood kvX12_isGood km12_219 rfl rfl (by decide) ⟨rfl, rfl, by decide, by decide⟩ (Nat.le_of_ble_eq_true rfl) dX12_reads_8 (fun v1 sh1 g2 z1 r1 hq => ?_)
      obtain ⟨rfl, rfl, rfl, rfl, rfl⟩ := hq
      rw [b2i_t k1]
      refine R_if_eq 66 dX12_reads_11 (by decide) (fun hc11 => ?_) (fun hc11 => ?_)
      · exact absurd hc11 (by decide)
      have sd := m_seesDigit (z := z) h1 hr
      rw [hTe] at sd
      refine R_aload_n dX12_reads_14 rfl ?_
      refine R_callV (sd) (mvX12_seesDigit _) kiX12_seesDigit kvX12_seesDigit km12_247 rfl rfl (by decide) ⟨rfl, rfl, by decide, by decide⟩ (Nat.le_of_ble_eq_true rfl) dX12_reads_15 (fun v1 sh1 g2 z1 r1 hq => ?_)
      obtain ⟨rfl, rfl, rfl, rfl, rfl⟩ := hq
      by_cases hd1 : dig (T p1) = true
      · rw [bi_t hd1]
        refine R_if_eq 66 dX12_reads_18 (by decide) (fun hc18 => ?_) (fun hc18 => ?_)
        · exact absurd hc18 (by decide)
        refine R_aload_n dX12_reads_21 rfl ?_
        refine R_getI fd12_35 kf12_210 rfl dX12_reads_22 ?_
        rw [e35]
        refine R_iload_n dX12_reads_25 rfl ?_
        refine R_iconst dX12_reads_26 rfl rfl ?_
        refine R_iaddN dX12_reads_27 (by unfold inI; omega) ?_
        refine R_icmp_ne 40 dX12_reads_28 (by decide) (fun hc28 => ?_) (fun hc28 => ?_)
        · exact absurd (by omega) hc28
        refine R_aload_n dX12_reads_31 rfl ?_
        refine R_iconst dX12_reads_32 rfl rfl ?_
        refine R_aload_n dX12_reads_33 rfl ?_
        refine R_getI fd12_35 kf12_210 rfl dX12_reads_34 ?_
        rw [e35]
        refine R_callV (m_wrongs 2 p1 (by decide) (by omega)) (mvX12_wrongs _) kiX12_wrongs kvX12_wrongs km12_232 rfl rfl (by decide) ⟨rfl, rfl, by decide, by decide⟩ (Nat.le_of_ble_eq_true rfl) dX12_reads_37 (fun v1 sh1 g2 z1 r1 hq => ?_)
        obtain ⟨⟨rfl, rfl⟩, rfl, rfl, rfl⟩ := hq
        rw [k1, if_neg (by decide)]
        have h2 := h1.oth (k := 37) (v := -1000 * ((2 : Nat) : Int) - (p1 : Int)) (Or.inl rfl)
        have hh := h2.here (z := z) hr
        rw [hTe] at hh
        have hh : CT (mX12_here (rmD 0 0 0)) 0 0 shW [vR (some 74)] _ z r (qP shW _ z r (some (vI (T p1)))) := hh
        refine R_bipush dX12_reads_40 rfl (by decide +kernel) ?_
        refine R_iload_n dX12_reads_42 rfl ?_
        refine R_imulN dX12_reads_43 (by unfold inI; omega) ?_
        refine R_aload_n dX12_reads_44 rfl ?_
        refine R_callV (hh) (mvX12_here _) kiX12_here kvX12_here km12_236 rfl rfl (by decide) ⟨rfl, rfl, by decide, by decide⟩ (Nat.le_of_ble_eq_true rfl) dX12_reads_45 (fun v1 sh1 g2 z1 r1 hq => ?_)
        obtain ⟨rfl, rfl, rfl, rfl, rfl⟩ := hq
        have e35' : up2 g1 74 37 (-1000 * ((2 : Nat) : Int) - (p1 : Int)) 74 35 = (p1 : Int) := by rw [up2_k (by decide)]; exact e35
        refine R_iaddN dX12_reads_48 (by unfold inI; omega) ?_
        refine R_bipush dX12_reads_49 rfl (by decide +kernel) ?_
        refine R_isubN dX12_reads_51 (by unfold inI; omega) ?_
        refine R_istore_n dX12_reads_52 (by decide) rfl [_, _, _] rfl ?_
        refine R_aload_n dX12_reads_53 rfl ?_
        refine R_dup dX12_reads_54 (fun _ h => by cases h) ?_
        refine R_getI fd12_35 kf12_210 rfl dX12_reads_55 ?_
        rw [e35']
        refine R_iconst dX12_reads_58 rfl rfl ?_
        refine R_iaddN dX12_reads_59 (by unfold inI; omega) ?_
        refine R_putI fd12_35 rfl kf12_210 rfl dX12_reads_60 ?_
        refine R_goto 7 dX12_reads_63 (by decide) ?_
        refine R_aload_n dX12_reads_7 rfl ?_
        refine R_callV (m_isGood) (mvX12_isGood _) kiX12_isGood kvX12_isGood km12_219 rfl rfl (by decide) ⟨rfl, rfl, by decide, by decide⟩ (Nat.le_of_ble_eq_true rfl) dX12_reads_8 (fun v1 sh1 g2 z1 r1 hq => ?_)
        obtain ⟨rfl, rfl, rfl, rfl, rfl⟩ := hq
        rw [b2i_f (by rw [up2_k (by decide), up2_s]; omega)]
        refine R_if_eq 66 dX12_reads_11 (by decide) (fun hc11 => ?_) (fun hc11 => ?_)
        rotate_left
        · exact absurd rfl hc11
        refine R_iload_n dX12_reads_66 rfl ?_
        refine R_ireturn rfl (by first | rfl | exact nar_b2i | exact nar_bi) (by decide) (by decide) dX12_reads_67 ?_
        rw [← hQ]
        refine ⟨⟨(f1.trans (FrM0.up (by omega))).trans (FrM0.up (by omega)), _, rfl, ?_⟩, rfl, rfl, rfl⟩
        unfold nmbP
        rw [← hn, if_pos hd1]
        show up2 (up2 g1 74 37 (-1000 * ((2 : Nat) : Int) - (p1 : Int))) 74 35 _ 74 37 = -2000 - (p1 : Int)
        rw [up2_k (by decide), up2_s]; omega
      · rw [bi_f hd1]
        refine R_if_eq 66 dX12_reads_18 (by decide) (fun hc18 => ?_) (fun hc18 => ?_)
        rotate_left
        · exact absurd rfl hc18
        refine R_iload_n dX12_reads_66 rfl ?_
        refine R_ireturn rfl (by first | rfl | exact nar_b2i | exact nar_bi) (by decide) (by decide) dX12_reads_67 ?_
        rw [← hQ]
        refine ⟨⟨f1, _, rfl, ?_⟩, rfl, rfl, rfl⟩
        unfold nmbP
        rw [← hn, if_neg hd1]
        exact ⟨k1, h1, rfl⟩
    | succ n ih =>
      intro k v p1 g1 hk hp1 hv f1 h1 k1 hn
      have e35 : g1 74 35 = (p1 : Int) := h1.2.2.1
      have hp1N : p1 ≤ N := h1.2.2.2.2.2.2.1.2
      have hTb := hT.2 p1
      have h10 : (10 : Int) ^ k ≤ 10 ^ 4 := by
        have : k = 0 ∨ k = 1 ∨ k = 2 ∨ k = 3 ∨ k = 4 := by omega
        rcases this with rfl | rfl | rfl | rfl | rfl <;> decide
      have h10' : (10 : Int) ^ (k + 1) = 10 ^ k * 10 := Int.pow_succ _ _
      have h104 : (10 : Int) ^ 4 = 10000 := by decide
      rw [numP] at hn
      refine R_aload_n dX12_reads_7 rfl ?_
      refine R_callV (m_isGood) (mvX12_isGood _) kiX12_isGood kvX12_isGood km12_219 rfl rfl (by decide) ⟨rfl, rfl, by decide, by decide⟩ (Nat.le_of_ble_eq_true rfl) dX12_reads_8 (fun v1 sh1 g2 z1 r1 hq => ?_)
      obtain ⟨rfl, rfl, rfl, rfl, rfl⟩ := hq
      rw [b2i_t k1]
      refine R_if_eq 66 dX12_reads_11 (by decide) (fun hc11 => ?_) (fun hc11 => ?_)
      · exact absurd hc11 (by decide)
      have sd := m_seesDigit (z := z) h1 hr
      rw [hTe] at sd
      refine R_aload_n dX12_reads_14 rfl ?_
      refine R_callV (sd) (mvX12_seesDigit _) kiX12_seesDigit kvX12_seesDigit km12_247 rfl rfl (by decide) ⟨rfl, rfl, by decide, by decide⟩ (Nat.le_of_ble_eq_true rfl) dX12_reads_15 (fun v1 sh1 g2 z1 r1 hq => ?_)
      obtain ⟨rfl, rfl, rfl, rfl, rfl⟩ := hq
      by_cases hd1 : dig (T p1) = true
      · rw [bi_t hd1]
        rw [if_pos hd1] at hn
        have hlt : p1 < N := txt_lt hT.1 (fun e => by rw [e] at hd1; cases hd1)
        unfold dig at hd1
        rw [decide_eq_true_eq] at hd1
        refine R_if_eq 66 dX12_reads_18 (by decide) (fun hc18 => ?_) (fun hc18 => ?_)
        · exact absurd hc18 (by decide)
        refine R_aload_n dX12_reads_21 rfl ?_
        refine R_getI fd12_35 kf12_210 rfl dX12_reads_22 ?_
        rw [e35]
        refine R_iload_n dX12_reads_25 rfl ?_
        refine R_iconst dX12_reads_26 rfl rfl ?_
        refine R_iaddN dX12_reads_27 (by unfold inI; omega) ?_
        refine R_icmp_ne 40 dX12_reads_28 (by decide) (fun hc28 => ?_) (fun hc28 => ?_)
        rotate_left
        · exact absurd hc28 (by omega)
        have hh := h1.here (z := z) hr
        rw [hTe] at hh
        have hh : CT (mX12_here (rmD 0 0 0)) 0 0 shW [vR (some 74)] _ z r (qP shW _ z r (some (vI (T p1)))) := hh
        refine R_bipush dX12_reads_40 rfl (by decide +kernel) ?_
        refine R_iload_n dX12_reads_42 rfl ?_
        refine R_imulN dX12_reads_43 (by unfold inI; omega) ?_
        refine R_aload_n dX12_reads_44 rfl ?_
        refine R_callV (hh) (mvX12_here _) kiX12_here kvX12_here km12_236 rfl rfl (by decide) ⟨rfl, rfl, by decide, by decide⟩ (Nat.le_of_ble_eq_true rfl) dX12_reads_45 (fun v1 sh1 g2 z1 r1 hq => ?_)
        obtain ⟨rfl, rfl, rfl, rfl, rfl⟩ := hq
        refine R_iaddN dX12_reads_48 (by unfold inI; omega) ?_
        refine R_bipush dX12_reads_49 rfl (by decide +kernel) ?_
        refine R_isubN dX12_reads_51 (by unfold inI; omega) ?_
        refine R_istore_n dX12_reads_52 (by decide) rfl [_, _, _] rfl ?_
        refine R_aload_n dX12_reads_53 rfl ?_
        refine R_dup dX12_reads_54 (fun _ h => by cases h) ?_
        refine R_getI fd12_35 kf12_210 rfl dX12_reads_55 ?_
        rw [e35]
        refine R_iconst dX12_reads_58 rfl rfl ?_
        refine R_iaddN dX12_reads_59 (by unfold inI; omega) ?_
        refine R_putI fd12_35 rfl kf12_210 rfl dX12_reads_60 ?_
        refine R_goto 7 dX12_reads_63 (by decide) ?_
        exact ih (k + 1) (10 * v + T p1 - 48) (p1 + 1) _ (by omega) (by omega) (by omega) (f1.trans (FrM0.up (by omega))) (h1.plc (by omega)) (by rw [up2_k (by decide)]; exact k1) hn
      · rw [bi_f hd1]
        rw [if_neg hd1] at hn
        refine R_if_eq 66 dX12_reads_18 (by decide) (fun hc18 => ?_) (fun hc18 => ?_)
        rotate_left
        · exact absurd rfl hc18
        refine R_iload_n dX12_reads_66 rfl ?_
        refine R_ireturn rfl (by first | rfl | exact nar_b2i | exact nar_bi) (by decide) (by decide) dX12_reads_67 ?_
        rw [← hQ]
        refine ⟨⟨f1, _, rfl, ?_⟩, rfl, rfl, rfl⟩
        unfold nmbP
        rw [← hn, if_neg hd1]
        exact ⟨k1, h1, rfl⟩
  refine R_aload_n dX12_reads_0 rfl ?_
  refine R_getI fd12_35 kf12_210 rfl dX12_reads_1 ?_
  rw [h35]
  refine R_istore_n dX12_reads_4 (by decide) rfl [_, _, _] rfl ?_
  refine R_iconst dX12_reads_5 rfl rfl ?_
  refine R_istore_n dX12_reads_6 (by decide) rfl [_, _, _] rfl ?_
  exact loop 5 0 0 p g rfl rfl (by decide) FrM0.rfl h h37 rfl
theorem m_factor (hr : RS r) {s : QS} (h : MT tp N g s) (h37 : g 74 37 = 0) : CT (mX12_factor (rmD 3 0 0)) 0 0 shW [vR (some 74)] g z r (qG shW z r fun v g' => v = none ∧ FrM0 g g' ∧ rstY (fcF (tX tp N) (7 - s.2.2.1) s) (fun f => f < 0 ∧ g' 74 37 = f) (fun s' => g' 74 37 = 0 ∧ MT tp N g' s')) := by
  have hT := tX_ok (f := tp) (N := N)
  have hN := h.1.2.1.2
  have hTe : ∀ q, tX tp N q = tX tp N q := fun _ => rfl
  generalize hX : fcF (tX tp N) (7 - s.2.2.1) s = X
  refine CT.of 0 rfl rfl ?_
  generalize hQ : (qG shW z r fun v g' => v = none ∧ FrM0 g g' ∧ rstY X (fun f => f < 0 ∧ g' 74 37 = f) (fun s' => g' 74 37 = 0 ∧ MT tp N g' s')) = Q
  have hXb : ∀ (n : Nat) (s : QS), s.1 ≤ N → ∀ f, fcF (tX tp N) n s = .inl f → f < 0 := by
    intro n
    induction n with
    | zero =>
      intro s hs f hf
      unfold fcF fcB at hf
      split at hf
      · rename_i hd
        cases hx : nmbP (tX tp N) s.1 with
        | inl e => rw [hx] at hf; cases hf; exact ((nmb_PG (G := fun _ => True) hT.1 hN (fun _ => trivial) hs hd).1 _ hx).2
        | inr q => rw [hx] at hf; cases hf
      · split at hf
        · cases hf
        · cases hf; omega
    | succ n ih =>
      intro s hs f hf
      unfold fcF at hf
      split at hf
      · rename_i h91
        have := txt_lt hT.1 (p := s.1) (by omega)
        split at hf
        · cases hf; omega
        · exact ih _ (by show s.1 + 1 ≤ N; omega) f hf
      · unfold fcB at hf
        split at hf
        · rename_i hd
          cases hx : nmbP (tX tp N) s.1 with
          | inl e => rw [hx] at hf; cases hf; exact ((nmb_PG (G := fun _ => True) hT.1 hN (fun _ => trivial) hs hd).1 _ hx).2
          | inr q => rw [hx] at hf; cases hf
        · split at hf
          · cases hf
          · cases hf; omega
  have bad : ∀ (g1 : GG) (f : Int), FrM0 g g1 → g1 74 37 = f → f < 0 → X = .inl f → RJ (mX12_factor (rmD 3 0 0)) 0 0 shW.length Q 0 0 shW 23 [some (vR (some 74))] [] g1 z r := by
    intro g1 f f1 k1 hf hx
    refine R_aload_n dX12_factor_23 rfl ?_
    refine R_callV (m_isGood) (mvX12_isGood _) kiX12_isGood kvX12_isGood km12_219 rfl rfl (by decide) ⟨rfl, rfl, by decide, by decide⟩ (Nat.le_of_ble_eq_true rfl) dX12_factor_24 (fun v1 sh1 g2 z1 r1 hq => ?_)
    obtain ⟨rfl, rfl, rfl, rfl, rfl⟩ := hq
    rw [b2i_f (by omega)]
    refine R_if_ne 31 dX12_factor_27 (by decide) (fun hc27 => ?_) (fun hc27 => ?_)
    · exact absurd rfl hc27
    refine R_return rfl (by decide) (by decide) dX12_factor_30 ?_
    rw [← hQ, hx]
    exact ⟨⟨rfl, f1, hf, k1⟩, rfl, rfl, rfl⟩
  have base : ∀ (s1 : QS) (g1 : GG), MT tp N g1 s1 → g1 74 37 = 0 → FrM0 g g1 → fcB (tX tp N) s1 = X → RJ (mX12_factor (rmD 3 0 0)) 0 0 shW.length Q 0 0 shW 23 [some (vR (some 74))] [] g1 z r := by
    intro s1 g1 h1 k1 f1 hx
    obtain ⟨p, σ, o, C⟩ := s1
    unfold fcB at hx
    have h39 : g1 74 39 = (C.length : Int) := h1.1.2.2.2.2.2.1.1
    have h35 : g1 74 35 = (p : Int) := h1.1.2.2.1
    have h7 : σ.length + C.length ≤ p ∧ p ≤ N := h1.1.2.2.2.2.2.2.1
    have hop : o = opN σ := h1.2
    have hx : (if dig (tX tp N p) then (match nmbP (tX tp N) p with
      | .inl f => .inl f
      | .inr q => .inr (q.1, σ, o, C ++ q.2.2.1))
      else if isVl (tX tp N p) then .inr (p + 1, σ, o, C ++ [(1, tX tp N p)]) else .inl (-1000 - (p : Int))) = X := hx
    refine R_aload_n dX12_factor_23 rfl ?_
    refine R_callV (m_isGood) (mvX12_isGood _) kiX12_isGood kvX12_isGood km12_219 rfl rfl (by decide) ⟨rfl, rfl, by decide, by decide⟩ (Nat.le_of_ble_eq_true rfl) dX12_factor_24 (fun v1 sh1 g2 z1 r1 hq => ?_)
    obtain ⟨rfl, rfl, rfl, rfl, rfl⟩ := hq
    rw [b2i_t k1]
    refine R_if_ne 31 dX12_factor_27 (by decide) (fun hc27 => ?_) (fun hc27 => ?_)
    rotate_left
    · exact absurd hc27 (by decide)
    refine R_aload_n dX12_factor_31 rfl ?_
    refine R_callV (m_seesDigit h1.1 hr) (mvX12_seesDigit _) kiX12_seesDigit kvX12_seesDigit km12_247 rfl rfl (by decide) ⟨rfl, rfl, by decide, by decide⟩ (Nat.le_of_ble_eq_true rfl) dX12_factor_32 (fun v1 sh1 g2 z1 r1 hq => ?_)
    obtain ⟨rfl, rfl, rfl, rfl, rfl⟩ := hq
    by_cases hd : dig (tX tp N p) = true
    · rw [bi_t hd]
      rw [if_pos hd] at hx
      refine R_if_eq 50 dX12_factor_35 (by decide) (fun hc35 => ?_) (fun hc35 => ?_)
      · exact absurd hc35 (by decide)
      refine R_aload_n dX12_factor_38 rfl ?_
      refine R_iconst dX12_factor_39 rfl rfl ?_
      refine R_aload_n dX12_factor_40 rfl ?_
      refine R_callV (m_reads hr h1.1 k1 hd) (mvX12_reads _) kiX12_reads kvX12_reads km12_265 rfl rfl (by decide) ⟨rfl, rfl, by decide, by decide⟩ (Nat.le_of_ble_eq_true rfl) dX12_factor_41 (fun v1 sh1 g2 z1 r1 hq => ?_)
      obtain ⟨⟨f2, x, rfl, o2⟩, rfl, rfl, rfl⟩ := hq
      cases hn : nmbP (tX tp N) p with
      | inl f =>
        rw [hn] at o2 hx
        have o2 : g2 74 37 = f := o2
        have hf := ((nmb_PG (G := fun _ => True) hT.1 hN (fun _ => trivial) h7.2 hd).1 _ hn).2
        refine R_callV (m_emit_bad (by omega) 0 x) (mvX12_emit _) kiX12_emit kvX12_emit km12_259 rfl rfl (by decide) ⟨rfl, rfl, by decide, by decide⟩ (Nat.le_of_ble_eq_true rfl) dX12_factor_44 (fun v1 sh1 g3 z1 r1 hq => ?_)
        obtain ⟨rfl, rfl, rfl, rfl, rfl⟩ := hq
        refine R_goto 91 dX12_factor_47 (by decide) ?_
        refine R_return rfl (by decide) (by decide) dX12_factor_91 ?_
        rw [← hQ, ← hx]
        exact ⟨⟨rfl, f1.trans f2, hf, o2⟩, rfl, rfl, rfl⟩
      | inr q =>
        obtain ⟨p', b⟩ := q
        rw [hn] at o2 hx
        obtain ⟨k2, h2, hb⟩ := o2
        have hb : b = bNum x := hb
        subst hb
        obtain ⟨r1, r2, r3, -⟩ := (nmb_PG (G := fun _ => True) hT.1 hN (fun _ => trivial) h7.2 hd).2 _ _ hn
        have e39 : g2 74 39 = (C.length : Int) := h2.2.2.2.2.2.1.1
        refine R_callV (m_emit hr k2 C.length (by omega) e39 0 x) (mvX12_emit _) kiX12_emit kvX12_emit km12_259 rfl rfl (by decide) ⟨rfl, rfl, by decide, by decide⟩ (Nat.le_of_ble_eq_true rfl) dX12_factor_44 (fun v1 sh1 g3 z1 r1 hq => ?_)
        obtain ⟨⟨rfl, rfl⟩, rfl, rfl, rfl⟩ := hq
        refine R_goto 91 dX12_factor_47 (by decide) ?_
        refine R_return rfl (by decide) (by decide) dX12_factor_91 ?_
        rw [← hQ, ← hx]
        exact ⟨⟨rfl, (f1.trans f2).trans emi_fr, by rw [emi_37]; exact k2, MS_emi h2 (by omega), hop⟩, rfl, rfl, rfl⟩
    · rw [bi_f hd]
      rw [if_neg hd] at hx
      refine R_if_eq 50 dX12_factor_35 (by decide) (fun hc35 => ?_) (fun hc35 => ?_)
      rotate_left
      · exact absurd rfl hc35
      refine R_aload_n dX12_factor_50 rfl ?_
      refine R_callV (h1.1.here hr) (mvX12_here _) kiX12_here kvX12_here km12_236 rfl rfl (by decide) ⟨rfl, rfl, by decide, by decide⟩ (Nat.le_of_ble_eq_true rfl) dX12_factor_51 (fun v1 sh1 g2 z1 r1 hq => ?_)
      obtain ⟨rfl, rfl, rfl, rfl, rfl⟩ := hq
      refine R_callS (m_isValue (tX tp N p)) (mvX12_isValue _) ksX12_isValue km12_268 ⟨rfl, rfl, by decide, by decide⟩ (Nat.le_of_ble_eq_true rfl) dX12_factor_54 (fun v1 sh1 g2 z1 r1 hq => ?_)
      obtain ⟨rfl, rfl, rfl, rfl, rfl⟩ := hq
      by_cases hv : isVl (tX tp N p) = true
      · rw [bi_t hv]
        rw [if_pos hv] at hx
        have hlt : p < N := txt_lt hT.1 (fun e => by rw [e] at hv; cases hv)
        refine R_if_eq 82 dX12_factor_57 (by decide) (fun hc57 => ?_) (fun hc57 => ?_)
        · exact absurd hc57 (by decide)
        refine R_aload_n dX12_factor_60 rfl ?_
        refine R_iconst dX12_factor_61 rfl rfl ?_
        refine R_aload_n dX12_factor_62 rfl ?_
        refine R_callV (h1.1.here hr) (mvX12_here _) kiX12_here kvX12_here km12_236 rfl rfl (by decide) ⟨rfl, rfl, by decide, by decide⟩ (Nat.le_of_ble_eq_true rfl) dX12_factor_63 (fun v1 sh1 g2 z1 r1 hq => ?_)
        obtain ⟨rfl, rfl, rfl, rfl, rfl⟩ := hq
        refine R_callV (m_emit hr k1 C.length (by omega) h39 1 (tX tp N p)) (mvX12_emit _) kiX12_emit kvX12_emit km12_259 rfl rfl (by decide) ⟨rfl, rfl, by decide, by decide⟩ (Nat.le_of_ble_eq_true rfl) dX12_factor_66 (fun v1 sh1 g2 z1 r1 hq => ?_)
        obtain ⟨⟨rfl, rfl⟩, rfl, rfl, rfl⟩ := hq
        have e35 : emi g1 C.length 1 (tX tp N p) 74 35 = (p : Int) := by rw [← h35]; unfold emi; rw [up2_k (by decide), up2_ne (by decide), up2_ne (by decide)]
        refine R_aload_n dX12_factor_69 rfl ?_
        refine R_dup dX12_factor_70 (fun _ h => by cases h) ?_
        refine R_getI fd12_35 kf12_210 rfl dX12_factor_71 ?_
        rw [e35]
        refine R_iconst dX12_factor_74 rfl rfl ?_
        refine R_iaddN dX12_factor_75 (by unfold inI; omega) ?_
        refine R_putI fd12_35 rfl kf12_210 rfl dX12_factor_76 ?_
        refine R_goto 91 dX12_factor_79 (by decide) ?_
        refine R_return rfl (by decide) (by decide) dX12_factor_91 ?_
        rw [show (p : Int) + 1 = ((p + 1 : Nat) : Int) by omega]
        have h2 := MS_emi (c := 1) (a := tX tp N p) (h1.1.plc (by omega)) (by omega)
        have e : emi (up2 g1 74 35 ((p + 1 : Nat) : Int)) C.length 1 (tX tp N p) = up2 (emi g1 C.length 1 (tX tp N p)) 74 35 ((p + 1 : Nat) : Int) := by
          unfold emi
          rw [up2_comm (c := 74) (k := 35) (c' := 98) (Or.inl (by decide)), up2_comm (c := 74) (k := 35) (c' := 99) (Or.inl (by decide)), up2_comm (c := 74) (k := 35) (c' := 74) (k' := 39) (Or.inr (by decide))]
        rw [e] at h2
        rw [← hQ, ← hx]
        exact ⟨⟨rfl, (f1.trans emi_fr).trans (FrM0.up (by omega)), by rw [up2_k (by decide), emi_37]; exact k1, h2, hop⟩, rfl, rfl, rfl⟩
      · rw [bi_f hv]
        rw [if_neg hv] at hx
        refine R_if_eq 82 dX12_factor_57 (by decide) (fun hc57 => ?_) (fun hc57 => ?_)
        rotate_left
        · exact absurd rfl hc57
        refine R_aload_n dX12_factor_82 rfl ?_
        refine R_iconst dX12_factor_83 rfl rfl ?_
        refine R_aload_n dX12_factor_84 rfl ?_
        refine R_getI fd12_35 kf12_210 rfl dX12_factor_85 ?_
        rw [h35]
        refine R_callV (m_wrongs 1 p (by decide) (by omega)) (mvX12_wrongs _) kiX12_wrongs kvX12_wrongs km12_232 rfl rfl (by decide) ⟨rfl, rfl, by decide, by decide⟩ (Nat.le_of_ble_eq_true rfl) dX12_factor_88 (fun v1 sh1 g2 z1 r1 hq => ?_)
        obtain ⟨⟨rfl, rfl⟩, rfl, rfl, rfl⟩ := hq
        rw [k1, if_neg (by decide)]
        refine R_return rfl (by decide) (by decide) dX12_factor_91 ?_
        rw [← hQ, ← hx]
        exact ⟨⟨rfl, f1.trans (FrM0.up (by omega)), by omega, by show up2 g1 74 37 _ 74 37 = -1000 - (p : Int); rw [up2_s]; omega⟩, rfl, rfl, rfl⟩
  have loop : ∀ (n : Nat) (s1 : QS) (g1 : GG), n = 7 - s1.2.2.1 → MT tp N g1 s1 → g1 74 37 = 0 → FrM0 g g1 → fcF (tX tp N) n s1 = X → RJ (mX12_factor (rmD 3 0 0)) 0 0 shW.length Q 0 0 shW 0 [some (vR (some 74))] [] g1 z r := by
    intro n
    induction n with
    | zero =>
      intro s1 g1 hn h1
      have := h1.1.2.2.2.2.2.2.2
      omega
    | succ n ih =>
      intro s1 g1 hn h1 k1 f1 hx
      obtain ⟨p, σ, o, C⟩ := s1
      have ho6 : o ≤ 6 := h1.1.2.2.2.2.2.2.2
      have hn : n + 1 = 7 - o := hn
      have h7 : σ.length + C.length ≤ p ∧ p ≤ N := h1.1.2.2.2.2.2.2.1
      have hx0 := hx
      rw [fcF] at hx
      have hx : (if tX tp N p = 91 then (if o = 6 then .inl (-5000 - (p : Int)) else fcF (tX tp N) n (p + 1, 91 :: σ, o + 1, C)) else fcB (tX tp N) (p, σ, o, C)) = X := hx
      refine R_aload_n dX12_factor_0 rfl ?_
      refine R_callV (m_isGood) (mvX12_isGood _) kiX12_isGood kvX12_isGood km12_219 rfl rfl (by decide) ⟨rfl, rfl, by decide, by decide⟩ (Nat.le_of_ble_eq_true rfl) dX12_factor_1 (fun v1 sh1 g2 z1 r1 hq => ?_)
      obtain ⟨rfl, rfl, rfl, rfl, rfl⟩ := hq
      rw [b2i_t k1]
      refine R_if_eq 23 dX12_factor_4 (by decide) (fun hc4 => ?_) (fun hc4 => ?_)
      · exact absurd hc4 (by decide)
      refine R_aload_n dX12_factor_7 rfl ?_
      refine R_callV (h1.1.here hr) (mvX12_here _) kiX12_here kvX12_here km12_236 rfl rfl (by decide) ⟨rfl, rfl, by decide, by decide⟩ (Nat.le_of_ble_eq_true rfl) dX12_factor_8 (fun v1 sh1 g2 z1 r1 hq => ?_)
      obtain ⟨rfl, rfl, rfl, rfl, rfl⟩ := hq
      refine R_bipush dX12_factor_11 rfl (by decide +kernel) ?_
      refine R_icmp_ne 23 dX12_factor_13 (by decide) (fun hc13 => ?_) (fun hc13 => ?_)
      · have hc13 : ¬ tX tp N p = 91 := hc13
        rw [if_neg hc13] at hx
        exact base (p, σ, o, C) g1 h1 k1 f1 hx
      have h91 : tX tp N p = 91 := hc13
      rw [if_pos h91] at hx
      refine R_aload_n dX12_factor_16 rfl ?_
      refine R_callV (m_opens hr h1 k1 (by rw [h91]; rfl)) (mvX12_opens _) kiX12_opens kvX12_opens km12_262 rfl rfl (by decide) ⟨rfl, rfl, by decide, by decide⟩ (Nat.le_of_ble_eq_true rfl) dX12_factor_17 (fun v1 sh1 g2 z1 r1 hq => ?_)
      obtain ⟨⟨rfl, f2, o2⟩, rfl, rfl, rfl⟩ := hq
      refine R_goto 0 dX12_factor_20 (by decide) ?_
      rcases o2 with ⟨ho, k2⟩ | ⟨ho, k2, h2⟩
      · rw [if_pos ho] at hx
        refine R_aload_n dX12_factor_0 rfl ?_
        refine R_callV (m_isGood) (mvX12_isGood _) kiX12_isGood kvX12_isGood km12_219 rfl rfl (by decide) ⟨rfl, rfl, by decide, by decide⟩ (Nat.le_of_ble_eq_true rfl) dX12_factor_1 (fun v1 sh1 g3 z1 r1 hq => ?_)
        obtain ⟨rfl, rfl, rfl, rfl, rfl⟩ := hq
        rw [b2i_f (by omega)]
        refine R_if_eq 23 dX12_factor_4 (by decide) (fun hc4 => ?_) (fun hc4 => ?_)
        rotate_left
        · exact absurd rfl hc4
        exact bad _ _ (f1.trans f2) k2 (by omega) hx.symm
      · rw [if_neg (by omega)] at hx
        rw [h91] at h2
        exact ih (p + 1, 91 :: σ, o + 1, C) _ (by show n = 7 - (o + 1); omega) h2 k2 (f1.trans f2) hx
  exact loop (7 - s.2.2.1) s g rfl h h37 FrM0.rfl hX
end MRD3
