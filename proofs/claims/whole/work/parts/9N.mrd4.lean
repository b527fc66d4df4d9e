def FrM (g g' : GG) : Prop := (∀ c', c' ≠ 74 → c' ≠ 98 → c' ≠ 99 → c' ≠ 100 → g' c' = g c') ∧ ∀ k, k ≠ 35 → k ≠ 37 → k ≠ 39 → k ≠ 40 → k ≠ 41 → k ≠ 42 → k ≠ 43 → g' 74 k = g 74 k
theorem FrM0.m {g g' : GG} (h : FrM0 g g') : FrM g g' := ⟨h.1, fun k a b c d e _ _ => h.2 k a b c d e⟩
theorem FrM.trans {g g1 g2 : GG} (h1 : FrM g g1) (h2 : FrM g1 g2) : FrM g g2 := ⟨fun c' a b c d => (h2.1 c' a b c d).trans (h1.1 c' a b c d), fun k a b c d e f i => (h2.2 k a b c d e f i).trans (h1.2 k a b c d e f i)⟩
theorem FrM.up {g : GG} {k : Nat} {v : Int} (h : k = 42 ∨ k = 43) : FrM g (up2 g 74 k v) := ⟨fun c' a _ _ _ => up2_ne a, fun k' _ _ _ _ _ a b => up2_k (by omega)⟩
def FrG (g g' : GG) : Prop := (∀ c', c' ≠ 74 → c' ≠ 98 → c' ≠ 99 → c' ≠ 100 → g' c' = g c') ∧ ∀ k, k ≠ 35 → k ≠ 37 → k ≠ 39 → k ≠ 40 → k ≠ 41 → k ≠ 43 → g' 74 k = g 74 k
theorem FrM0.g {g g' : GG} (h : FrM0 g g') : FrG g g' := ⟨h.1, fun k a b c d e _ => h.2 k a b c d e⟩
theorem FrG.m {g g' : GG} (h : FrG g g') : FrM g g' := ⟨h.1, fun k a b c d e _ f => h.2 k a b c d e f⟩
theorem FrG.trans {g g1 g2 : GG} (h1 : FrG g g1) (h2 : FrG g1 g2) : FrG g g2 := ⟨fun c' a b c d => (h2.1 c' a b c d).trans (h1.1 c' a b c d), fun k a b c d e f => (h2.2 k a b c d e f).trans (h1.2 k a b c d e f)⟩
theorem FrG.up {g : GG} {v : Int} : FrG g (up2 g 74 43 v) := ⟨fun c' a _ _ _ => up2_ne a, fun k' _ _ _ _ _ a => up2_k a⟩
section MRD4
variable {g z : GG} {r : RR} {tp : Nat → Int} {N p o : Nat} {σ : List Int} {C : List (Int × Int)}
theorem m_goesOn (hr : RS r) {s : QS} (h : MT tp N g s) (h37 : g 74 37 = 0) : CT (mX12_goesOn (rmD 3 0 0)) 0 0 shW [vR (some 74)] g z r (qG shW z r fun v g' => FrG g g' ∧ rstY (goF (tX tp N) s) (fun f => f < 0 ∧ (∃ x, v = some (vI x) ∧ (x = 0 ∨ x = 1)) ∧ g' 74 37 = f) (fun q => g' 74 37 = 0 ∧ MT tp N g' q.2 ∧ v = some (vI (if q.1 = 0 then 0 else 1)) ∧ g' 74 43 = (if q.1 = 2 then 1 else g 74 43))) := by
  have hT := tX_ok (f := tp) (N := N)
  have hN := h.1.2.1.2
  obtain ⟨p, σ, o, C⟩ := s
  have h7 : σ.length + C.length ≤ p ∧ p ≤ N := h.1.2.2.2.2.2.2.1
  have ho6 : o ≤ 6 := h.1.2.2.2.2.2.2.2
  have hop : o = opN σ := h.2
  have hTb := hT.2 p
  refine CT.of 1 rfl rfl ?_
  generalize hX : goF (tX tp N) (p, σ, o, C) = X
  generalize hQ : (qG shW z r fun v g' => FrG g g' ∧ rstY X (fun f => f < 0 ∧ (∃ x, v = some (vI x) ∧ (x = 0 ∨ x = 1)) ∧ g' 74 37 = f) (fun q => g' 74 37 = 0 ∧ MT tp N g' q.2 ∧ v = some (vI (if q.1 = 0 then 0 else 1)) ∧ g' 74 43 = (if q.1 = 2 then 1 else g 74 43))) = Q
  have hX : (if okS 3 (tX tp N p) then .inr (1, p + 1, tX tp N p :: σ.dropWhile pTm, o, C ++ emO (σ.takeWhile pTm))
    else if okS 2 (tX tp N p) then .inr (1, p + 1, tX tp N p :: σ.dropWhile pTP, o, C ++ emO (σ.takeWhile pTP))
    else if tX tp N p = 93 then (if hd0 (σ.dropWhile pTP) = 91 then .inr (2, p + 1, (σ.dropWhile pTP).tail, o - 1, C ++ emO (σ.takeWhile pTP)) else .inl (-1000 - (p : Int)))
    else if isSg (tX tp N p) then (if hd0 (σ.dropWhile pTP) = 91 ∨ isSg (hd0 (σ.dropWhile pTP)) = true then .inl (-1000 - (p : Int)) else .inr (1, p + 1, tX tp N p :: σ.dropWhile pTP, o, C ++ emO (σ.takeWhile pTP)))
    else if isSg (hd0 (σ.dropWhile pTP)) = true then .inr (0, p, (σ.dropWhile pTP).tail, o, (C ++ emO (σ.takeWhile pTP)) ++ [(hd0 (σ.dropWhile pTP), 0)]) else .inl (-1000 - (p : Int))) = X := hX
  have hh := h.1.here (z := z) hr
  have hh : CT (mX12_here (rmD 0 0 0)) 0 0 shW [vR (some 74)] g z r (qP shW g z r (some (vI (tX tp N p)))) := hh
  generalize hTp : tX tp N p = c at *
  have hlt : c ≠ 0 → p < N := fun e => txt_lt hT.1 (by rw [hTp]; exact e)
  have at19 : ∀ b : Bool, okS 2 c = b → (okS 3 c = true ∨ okS 2 c = true) → RJ (mX12_goesOn (rmD 3 0 0)) 0 0 shW.length Q 0 0 shW 19 [some (vR (some 74)), some (vI (c))] [] g z r := by
    intro b hb hc
    have hcn : c ≠ 0 := fun e => by rw [e, okS0, okS0] at hc; rcases hc with q | q <;> cases q
    have hlp := hlt hcn
    refine R_aload_n dX12_goesOn_19 rfl ?_
    refine R_iload_n dX12_goesOn_20 rfl ?_
    refine R_callS (m_isPlus c) (mvX12_isPlus _) ksX12_isPlus km12_256 ⟨rfl, rfl, by decide, by decide⟩ (Nat.le_of_ble_eq_true rfl) dX12_goesOn_21 (fun v1 sh1 g1 z1 r1 hq => ?_)
    obtain ⟨rfl, rfl, rfl, rfl, rfl⟩ := hq
    rw [hb]
    refine R_callV (m_sums hr b h.1 h37) (mvX12_sums _) kiX12_sums kvX12_sums km12_271 rfl rfl (by decide) ⟨rfl, rfl, by decide, by decide⟩ (Nat.le_of_ble_eq_true rfl) dX12_goesOn_24 (fun v1 sh1 g1 z1 r1 hq => ?_)
    obtain ⟨⟨rfl, f1, k1, h1⟩, rfl, rfl, rfl⟩ := hq
    have e41 := h1.2.2.2.1.1
    have e35 := h1.2.2.1
    have e7 : (σ.dropWhile (if b then pTP else pTm)).length + (C ++ emO (σ.takeWhile (if b then pTP else pTm))).length ≤ p ∧ p ≤ N := h1.2.2.2.2.2.2.1
    have hdr : opN (σ.dropWhile (if b then pTP else pTm)) = opN σ := opN_drop (by cases b; exact pTm_bk; exact pTP_bk) σ
    refine R_aload_n dX12_goesOn_27 rfl ?_
    refine R_iload_n dX12_goesOn_28 rfl ?_
    refine R_callV (m_puts hr (σ.dropWhile (if b then pTP else pTm)).length p (by omega) (by omega) e41 e35 c) (mvX12_puts _) kiX12_puts kvX12_puts km12_240 rfl rfl (by decide) ⟨rfl, rfl, by decide, by decide⟩ (Nat.le_of_ble_eq_true rfl) dX12_goesOn_29 (fun v1 sh1 g2 z1 r1 hq => ?_)
    obtain ⟨⟨rfl, rfl⟩, rfl, rfl, rfl⟩ := hq
    refine R_iconst dX12_goesOn_32 rfl rfl ?_
    refine R_ireturn rfl (by first | rfl | exact nar_b2i | exact nar_bi) (by decide) (by decide) dX12_goesOn_33 ?_
    have hm := MS_put (c := c) h1 (by omega)
    have hbk : isBk c = false := by rcases hc with q | q; exact pTm_bk c q; exact pTP_bk c (by unfold pTP; rw [q]; exact Bool.or_true _)
    have hXx : X = .inr (1, p + 1, c :: σ.dropWhile (if b then pTP else pTm), o, C ++ emO (σ.takeWhile (if b then pTP else pTm))) := by
      rw [← hX]
      cases b with
      | true =>
        have h3 : okS 3 c = false := by rcases okS_2 hb with e | e <;> rw [e] <;> rfl
        rw [h3, hb, if_neg (by decide), if_pos rfl]
        rfl
      | false =>
        have h3 : okS 3 c = true := by rcases hc with q | q; exact q; rw [q] at hb; cases hb
        rw [h3, if_pos rfl]
        rfl
    rw [← hQ, hXx]
    exact ⟨⟨(f1.trans put_fr).g, by rw [put_37]; exact k1, ⟨hm, by show o = opN (c :: _); rw [opN_f hbk, hdr]; exact hop⟩, rfl, by rw [(f1.trans put_fr).2 43 (by decide) (by decide) (by decide) (by decide) (by decide)]; rfl⟩, rfl, rfl, rfl⟩
  refine R_aload_n dX12_goesOn_0 rfl ?_
  refine R_callV (hh) (mvX12_here _) kiX12_here kvX12_here km12_236 rfl rfl (by decide) ⟨rfl, rfl, by decide, by decide⟩ (Nat.le_of_ble_eq_true rfl) dX12_goesOn_1 (fun v1 sh1 g1 z1 r1 hq => ?_)
  obtain ⟨rfl, rfl, rfl, rfl, rfl⟩ := hq
  refine R_istore_n dX12_goesOn_4 (by decide) rfl [_, _] rfl ?_
  refine R_iload_n dX12_goesOn_5 rfl ?_
  refine R_callS (m_isTimes c) (mvX12_isTimes _) ksX12_isTimes km12_253 ⟨rfl, rfl, by decide, by decide⟩ (Nat.le_of_ble_eq_true rfl) dX12_goesOn_6 (fun v1 sh1 g1 z1 r1 hq => ?_)
  obtain ⟨rfl, rfl, rfl, rfl, rfl⟩ := hq
  by_cases h3 : okS 3 c = true
  · rw [bi_t h3]
    refine R_if_ne 19 dX12_goesOn_9 (by decide) (fun hc9 => ?_) (fun hc9 => ?_)
    · exact at19 _ rfl (Or.inl h3)
    · exact absurd hc9 (by decide)
  rw [bi_f h3]
  rw [if_neg h3] at hX
  refine R_if_ne 19 dX12_goesOn_9 (by decide) (fun hc9 => ?_) (fun hc9 => ?_)
  · exact absurd rfl hc9
  refine R_iload_n dX12_goesOn_12 rfl ?_
  refine R_callS (m_isPlus c) (mvX12_isPlus _) ksX12_isPlus km12_256 ⟨rfl, rfl, by decide, by decide⟩ (Nat.le_of_ble_eq_true rfl) dX12_goesOn_13 (fun v1 sh1 g1 z1 r1 hq => ?_)
  obtain ⟨rfl, rfl, rfl, rfl, rfl⟩ := hq
  by_cases h2 : okS 2 c = true
  · rw [bi_t h2]
    refine R_if_eq 34 dX12_goesOn_16 (by decide) (fun hc16 => ?_) (fun hc16 => ?_)
    · exact absurd hc16 (by decide)
    · exact at19 _ rfl (Or.inr h2)
  rw [bi_f h2]
  rw [if_neg h2] at hX
  refine R_if_eq 34 dX12_goesOn_16 (by decide) (fun hc16 => ?_) (fun hc16 => ?_)
  rotate_left
  · exact absurd rfl hc16
  refine R_aload_n dX12_goesOn_34 rfl ?_
  refine R_iconst dX12_goesOn_35 rfl rfl ?_
  refine R_callV (m_sums hr true h.1 h37) (mvX12_sums _) kiX12_sums kvX12_sums km12_271 rfl rfl (by decide) ⟨rfl, rfl, by decide, by decide⟩ (Nat.le_of_ble_eq_true rfl) dX12_goesOn_36 (fun v1 sh1 g1 z1 r1 hq => ?_)
  obtain ⟨⟨rfl, f1, k1, h1⟩, rfl, rfl, rfl⟩ := hq
  have h1 : MS tp N g1 (p, σ.dropWhile pTP, o, C ++ emO (σ.takeWhile pTP)) := h1
  have hdr : opN (σ.dropWhile pTP) = opN σ := opN_drop pTP_bk σ
  have e43 : g1 74 43 = g 74 43 := f1.2 43 (by decide) (by decide) (by decide) (by decide) (by decide)
  generalize σ.dropWhile pTP = τ at *
  generalize C ++ emO (σ.takeWhile pTP) = D at *
  have e41 : g1 74 41 = (τ.length : Int) := h1.2.2.2.1.1
  have e40 : g1 74 40 = (o : Int) := h1.2.2.2.2.1
  have e39 : g1 74 39 = (D.length : Int) := h1.2.2.2.2.2.1.1
  have e35 : g1 74 35 = (p : Int) := h1.2.2.1
  have e7 : τ.length + D.length ≤ p ∧ p ≤ N := h1.2.2.2.2.2.2.1
  have htop := h1.top (z := z) hr
  have htop : CT (mX12_top (rmD 0 0 0)) 0 0 shW [vR (some 74)] g1 z r (qP shW g1 z r (some (vI (hd0 τ)))) := htop
  refine R_iload_n dX12_goesOn_39 rfl ?_
  refine R_bipush dX12_goesOn_40 rfl (by decide +kernel) ?_
  refine R_icmp_ne 102 dX12_goesOn_42 (by decide) (fun hc42 => ?_) (fun hc42 => ?_)
  rotate_left
  · have hc93 : c = 93 := hc42
    rw [if_pos hc93] at hX
    have hlp := hlt (by omega)
    refine R_aload_n dX12_goesOn_45 rfl ?_
    refine R_callV (htop) (mvX12_top _) kiX12_top kvX12_top km12_250 rfl rfl (by decide) ⟨rfl, rfl, by decide, by decide⟩ (Nat.le_of_ble_eq_true rfl) dX12_goesOn_46 (fun v1 sh1 g2 z1 r1 hq => ?_)
    obtain ⟨rfl, rfl, rfl, rfl, rfl⟩ := hq
    refine R_bipush dX12_goesOn_49 rfl (by decide +kernel) ?_
    refine R_icmp_eq 65 dX12_goesOn_51 (by decide) (fun hc51 => ?_) (fun hc51 => ?_)
    · rw [if_pos hc51] at hX
      cases τ with
      | nil => exact absurd hc51 (by decide)
      | cons d t =>
        have hd91 : d = 91 := hc51
        subst hd91
        rw [List.length_cons] at e41 e7
        rw [opN_t rfl] at hdr
        obtain ⟨o', rfl⟩ : ∃ o', o = o' + 1 := ⟨o - 1, by omega⟩
        have h2 := h1.pop
        refine R_aload_n dX12_goesOn_65 rfl ?_
        refine R_dup dX12_goesOn_66 (fun _ h => by cases h) ?_
        refine R_getI fd12_41 kf12_226 rfl dX12_goesOn_67 ?_
        rw [e41]
        refine R_iconst dX12_goesOn_70 rfl rfl ?_
        refine R_isubN dX12_goesOn_71 (by unfold inI; omega) ?_
        refine R_putI fd12_41 rfl kf12_226 rfl dX12_goesOn_72 ?_
        refine R_aload_n dX12_goesOn_75 rfl ?_
        refine R_dup dX12_goesOn_76 (fun _ h => by cases h) ?_
        refine R_getI fd12_40 kf12_229 rfl dX12_goesOn_77 ?_
        try simp +decide only [up2_far, up2_s, up2_kk]
        rw [e40]
        refine R_iconst dX12_goesOn_80 rfl rfl ?_
        refine R_isubN dX12_goesOn_81 (by unfold inI; omega) ?_
        refine R_putI fd12_40 rfl kf12_229 rfl dX12_goesOn_82 ?_
        refine R_aload_n dX12_goesOn_85 rfl ?_
        refine R_dup dX12_goesOn_86 (fun _ h => by cases h) ?_
        refine R_getI fd12_35 kf12_210 rfl dX12_goesOn_87 ?_
        try simp +decide only [up2_far, up2_s, up2_kk]
        rw [e35]
        refine R_iconst dX12_goesOn_90 rfl rfl ?_
        refine R_iaddN dX12_goesOn_91 (by unfold inI; omega) ?_
        refine R_putI fd12_35 rfl kf12_210 rfl dX12_goesOn_92 ?_
        refine R_aload_n dX12_goesOn_95 rfl ?_
        refine R_iconst dX12_goesOn_96 rfl rfl ?_
        refine R_putZ (by first | exact Or.inl rfl | exact Or.inr rfl | omega) fd12_43 rfl kf12_275 rfl dX12_goesOn_97 ?_
        refine R_iconst dX12_goesOn_100 rfl rfl ?_
        refine R_ireturn rfl (by first | rfl | exact nar_b2i | exact nar_bi) (by decide) (by decide) dX12_goesOn_101 ?_
        rw [show ((t.length + 1 : Nat) : Int) - 1 = (t.length : Int) by omega, show ((o' + 1 : Nat) : Int) - 1 = (o' : Int) by omega, show (p : Int) + 1 = ((p + 1 : Nat) : Int) by omega]
        have h3 := (((h2.opn (o' := o') (by omega)).plc (by omega)).oth (k := 43) (v := 1) (Or.inr (Or.inr rfl)))
        rw [← hQ, ← hX]
        exact ⟨⟨((((f1.trans (FrM0.up (by omega))).trans (FrM0.up (by omega))).trans (FrM0.up (by omega))).g).trans FrG.up, by rw [up2_k (by decide), up2_k (by decide), up2_k (by decide), up2_k (by decide)]; exact k1, ⟨h3, by show o' + 1 - 1 = opN t; omega⟩, rfl, up2_s⟩, rfl, rfl, rfl⟩
    · rw [if_neg hc51] at hX
      refine R_aload_n dX12_goesOn_54 rfl ?_
      refine R_iconst dX12_goesOn_55 rfl rfl ?_
      refine R_aload_n dX12_goesOn_56 rfl ?_
      refine R_getI fd12_35 kf12_210 rfl dX12_goesOn_57 ?_
      rw [e35]
      refine R_callV (m_wrongs 1 p (by decide) (by omega)) (mvX12_wrongs _) kiX12_wrongs kvX12_wrongs km12_232 rfl rfl (by decide) ⟨rfl, rfl, by decide, by decide⟩ (Nat.le_of_ble_eq_true rfl) dX12_goesOn_60 (fun v1 sh1 g2 z1 r1 hq => ?_)
      obtain ⟨⟨rfl, rfl⟩, rfl, rfl, rfl⟩ := hq
      rw [k1, if_neg (by decide)]
      refine R_iconst dX12_goesOn_63 rfl rfl ?_
      refine R_ireturn rfl (by first | rfl | exact nar_b2i | exact nar_bi) (by decide) (by decide) dX12_goesOn_64 ?_
      rw [← hQ, ← hX]
      exact ⟨⟨(f1.trans (FrM0.up (by omega))).g, by omega, ⟨_, rfl, Or.inl rfl⟩, by rw [up2_s]; omega⟩, rfl, rfl, rfl⟩
  have hc93 : c ≠ 93 := hc42
  rw [if_neg hc93] at hX
  refine R_iload_n dX12_goesOn_102 rfl ?_
  refine R_callS (m_isSign c) (mvX12_isSign _) ksX12_isSign km12_278 ⟨rfl, rfl, by decide, by decide⟩ (Nat.le_of_ble_eq_true rfl) dX12_goesOn_103 (fun v1 sh1 g2 z1 r1 hq => ?_)
  obtain ⟨rfl, rfl, rfl, rfl, rfl⟩ := hq
  by_cases hs : isSg c = true
  · rw [bi_t hs]
    rw [if_pos hs] at hX
    have hlp := hlt (fun e => by rw [e] at hs; cases hs)
    have hbk : isBk c = false := by rcases isSg_c hs with e | e | e <;> rw [e] <;> rfl
    refine R_if_eq 144 dX12_goesOn_106 (by decide) (fun hc106 => ?_) (fun hc106 => ?_)
    · exact absurd hc106 (by decide)
    have at128 : (hd0 τ = 91 ∨ isSg (hd0 τ) = true) → RJ (mX12_goesOn (rmD 3 0 0)) 0 0 shW.length Q 0 0 shW 128 [some (vR (some 74)), some (vI (c))] [] g1 z r := by
      intro hb
      rw [if_pos hb] at hX
      refine R_aload_n dX12_goesOn_128 rfl ?_
      refine R_iconst dX12_goesOn_129 rfl rfl ?_
      refine R_aload_n dX12_goesOn_130 rfl ?_
      refine R_getI fd12_35 kf12_210 rfl dX12_goesOn_131 ?_
      rw [e35]
      refine R_callV (m_wrongs 1 p (by decide) (by omega)) (mvX12_wrongs _) kiX12_wrongs kvX12_wrongs km12_232 rfl rfl (by decide) ⟨rfl, rfl, by decide, by decide⟩ (Nat.le_of_ble_eq_true rfl) dX12_goesOn_134 (fun v1 sh1 g2 z1 r1 hq => ?_)
      obtain ⟨⟨rfl, rfl⟩, rfl, rfl, rfl⟩ := hq
      rw [k1, if_neg (by decide)]
      refine R_aload_n dX12_goesOn_137 rfl ?_
      refine R_iload_n dX12_goesOn_138 rfl ?_
      refine R_callV (m_puts hr τ.length p (by omega) (by omega) (by rw [up2_k (by decide)]; exact e41) (by rw [up2_k (by decide)]; exact e35) c) (mvX12_puts _) kiX12_puts kvX12_puts km12_240 rfl rfl (by decide) ⟨rfl, rfl, by decide, by decide⟩ (Nat.le_of_ble_eq_true rfl) dX12_goesOn_139 (fun v1 sh1 g2 z1 r1 hq => ?_)
      obtain ⟨⟨rfl, rfl⟩, rfl, rfl, rfl⟩ := hq
      refine R_iconst dX12_goesOn_142 rfl rfl ?_
      refine R_ireturn rfl (by first | rfl | exact nar_b2i | exact nar_bi) (by decide) (by decide) dX12_goesOn_143 ?_
      rw [← hQ, ← hX]
      exact ⟨⟨((f1.trans (FrM0.up (by omega))).trans put_fr).g, by omega, ⟨_, rfl, Or.inr rfl⟩, by rw [put_37, up2_s]; omega⟩, rfl, rfl, rfl⟩
    refine R_aload_n dX12_goesOn_109 rfl ?_
    refine R_callV (htop) (mvX12_top _) kiX12_top kvX12_top km12_250 rfl rfl (by decide) ⟨rfl, rfl, by decide, by decide⟩ (Nat.le_of_ble_eq_true rfl) dX12_goesOn_110 (fun v1 sh1 g2 z1 r1 hq => ?_)
    obtain ⟨rfl, rfl, rfl, rfl, rfl⟩ := hq
    refine R_bipush dX12_goesOn_113 rfl (by decide +kernel) ?_
    refine R_icmp_eq 128 dX12_goesOn_115 (by decide) (fun hc115 => ?_) (fun hc115 => ?_)
    · exact at128 (Or.inl hc115)
    refine R_aload_n dX12_goesOn_118 rfl ?_
    refine R_callV (htop) (mvX12_top _) kiX12_top kvX12_top km12_250 rfl rfl (by decide) ⟨rfl, rfl, by decide, by decide⟩ (Nat.le_of_ble_eq_true rfl) dX12_goesOn_119 (fun v1 sh1 g2 z1 r1 hq => ?_)
    obtain ⟨rfl, rfl, rfl, rfl, rfl⟩ := hq
    refine R_callS (m_isSign (hd0 τ)) (mvX12_isSign _) ksX12_isSign km12_278 ⟨rfl, rfl, by decide, by decide⟩ (Nat.le_of_ble_eq_true rfl) dX12_goesOn_122 (fun v1 sh1 g2 z1 r1 hq => ?_)
    obtain ⟨rfl, rfl, rfl, rfl, rfl⟩ := hq
    by_cases hst : isSg (hd0 τ) = true
    · rw [bi_t hst]
      refine R_if_eq 137 dX12_goesOn_125 (by decide) (fun hc125 => ?_) (fun hc125 => ?_)
      · exact absurd hc125 (by decide)
      · exact at128 (Or.inr hst)
    rw [bi_f hst]
    rw [if_neg (by rintro (q | q); exact hc115 q; exact hst q)] at hX
    refine R_if_eq 137 dX12_goesOn_125 (by decide) (fun hc125 => ?_) (fun hc125 => ?_)
    rotate_left
    · exact absurd rfl hc125
    refine R_aload_n dX12_goesOn_137 rfl ?_
    refine R_iload_n dX12_goesOn_138 rfl ?_
    refine R_callV (m_puts hr τ.length p (by omega) (by omega) e41 e35 c) (mvX12_puts _) kiX12_puts kvX12_puts km12_240 rfl rfl (by decide) ⟨rfl, rfl, by decide, by decide⟩ (Nat.le_of_ble_eq_true rfl) dX12_goesOn_139 (fun v1 sh1 g2 z1 r1 hq => ?_)
    obtain ⟨⟨rfl, rfl⟩, rfl, rfl, rfl⟩ := hq
    refine R_iconst dX12_goesOn_142 rfl rfl ?_
    refine R_ireturn rfl (by first | rfl | exact nar_b2i | exact nar_bi) (by decide) (by decide) dX12_goesOn_143 ?_
    rw [← hQ, ← hX]
    exact ⟨⟨(f1.trans put_fr).g, by rw [put_37]; exact k1, ⟨MS_put h1 (by omega), by show o = opN (c :: τ); rw [opN_f hbk]; omega⟩, rfl, by rw [put_fr.2 43 (by decide) (by decide) (by decide) (by decide) (by decide)]; exact e43⟩, rfl, rfl, rfl⟩
  rw [bi_f hs]
  rw [if_neg hs] at hX
  refine R_if_eq 144 dX12_goesOn_106 (by decide) (fun hc106 => ?_) (fun hc106 => ?_)
  rotate_left
  · exact absurd rfl hc106
  refine R_aload_n dX12_goesOn_144 rfl ?_
  refine R_callV (htop) (mvX12_top _) kiX12_top kvX12_top km12_250 rfl rfl (by decide) ⟨rfl, rfl, by decide, by decide⟩ (Nat.le_of_ble_eq_true rfl) dX12_goesOn_145 (fun v1 sh1 g2 z1 r1 hq => ?_)
  obtain ⟨rfl, rfl, rfl, rfl, rfl⟩ := hq
  refine R_callS (m_isSign (hd0 τ)) (mvX12_isSign _) ksX12_isSign km12_278 ⟨rfl, rfl, by decide, by decide⟩ (Nat.le_of_ble_eq_true rfl) dX12_goesOn_148 (fun v1 sh1 g2 z1 r1 hq => ?_)
  obtain ⟨rfl, rfl, rfl, rfl, rfl⟩ := hq
  by_cases hst : isSg (hd0 τ) = true
  · rw [bi_t hst]
    rw [if_pos hst] at hX
    cases τ with
    | nil => cases hst
    | cons d t =>
      rw [List.length_cons] at e41 e7
      have hbk : isBk d = false := by rcases isSg_c (show isSg d = true from hst) with e | e | e <;> rw [e] <;> rfl
      rw [opN_f hbk] at hdr
      refine R_if_eq 176 dX12_goesOn_151 (by decide) (fun hc151 => ?_) (fun hc151 => ?_)
      · exact absurd hc151 (by decide)
      refine R_aload_n dX12_goesOn_154 rfl ?_
      refine R_aload_n dX12_goesOn_155 rfl ?_
      refine R_callV (htop) (mvX12_top _) kiX12_top kvX12_top km12_250 rfl rfl (by decide) ⟨rfl, rfl, by decide, by decide⟩ (Nat.le_of_ble_eq_true rfl) dX12_goesOn_156 (fun v1 sh1 g2 z1 r1 hq => ?_)
      obtain ⟨rfl, rfl, rfl, rfl, rfl⟩ := hq
      refine R_iconst dX12_goesOn_159 rfl rfl ?_
      refine R_callV (m_emit hr k1 D.length (by omega) e39 d 0) (mvX12_emit _) kiX12_emit kvX12_emit km12_259 rfl rfl (by decide) ⟨rfl, rfl, by decide, by decide⟩ (Nat.le_of_ble_eq_true rfl) dX12_goesOn_160 (fun v1 sh1 g2 z1 r1 hq => ?_)
      obtain ⟨⟨rfl, rfl⟩, rfl, rfl, rfl⟩ := hq
      have e41' : emi g1 D.length d 0 74 41 = ((t.length + 1 : Nat) : Int) := by rw [← e41]; unfold emi; rw [up2_k (by decide), up2_ne (by decide), up2_ne (by decide)]
      refine R_aload_n dX12_goesOn_163 rfl ?_
      refine R_dup dX12_goesOn_164 (fun _ h => by cases h) ?_
      refine R_getI fd12_41 kf12_226 rfl dX12_goesOn_165 ?_
      rw [e41']
      refine R_iconst dX12_goesOn_168 rfl rfl ?_
      refine R_isubN dX12_goesOn_169 (by unfold inI; omega) ?_
      refine R_putI fd12_41 rfl kf12_226 rfl dX12_goesOn_170 ?_
      refine R_goto 185 dX12_goesOn_173 (by decide) ?_
      refine R_iconst dX12_goesOn_185 rfl rfl ?_
      refine R_ireturn rfl (by first | rfl | exact nar_b2i | exact nar_bi) (by decide) (by decide) dX12_goesOn_186 ?_
      rw [show ((t.length + 1 : Nat) : Int) - 1 = (t.length : Int) by omega]
      rw [← hQ, ← hX]
      exact ⟨⟨((f1.trans emi_fr).trans (FrM0.up (by omega))).g, by rw [up2_k (by decide), emi_37]; exact k1, ⟨h1.popemi, by show o = opN t; omega⟩, rfl, by rw [((emi_fr (g := g1) (m := D.length) (c := d) (a := 0)).trans (FrM0.up (by omega))).2 43 (by decide) (by decide) (by decide) (by decide) (by decide)]; exact e43⟩, rfl, rfl, rfl⟩
  · rw [bi_f hst]
    rw [if_neg hst] at hX
    refine R_if_eq 176 dX12_goesOn_151 (by decide) (fun hc151 => ?_) (fun hc151 => ?_)
    rotate_left
    · exact absurd rfl hc151
    refine R_aload_n dX12_goesOn_176 rfl ?_
    refine R_iconst dX12_goesOn_177 rfl rfl ?_
    refine R_aload_n dX12_goesOn_178 rfl ?_
    refine R_getI fd12_35 kf12_210 rfl dX12_goesOn_179 ?_
    rw [e35]
    refine R_callV (m_wrongs 1 p (by decide) (by omega)) (mvX12_wrongs _) kiX12_wrongs kvX12_wrongs km12_232 rfl rfl (by decide) ⟨rfl, rfl, by decide, by decide⟩ (Nat.le_of_ble_eq_true rfl) dX12_goesOn_182 (fun v1 sh1 g2 z1 r1 hq => ?_)
    obtain ⟨⟨rfl, rfl⟩, rfl, rfl, rfl⟩ := hq
    rw [k1, if_neg (by decide)]
    refine R_iconst dX12_goesOn_185 rfl rfl ?_
    refine R_ireturn rfl (by first | rfl | exact nar_b2i | exact nar_bi) (by decide) (by decide) dX12_goesOn_186 ?_
    rw [← hQ, ← hX]
    exact ⟨⟨(f1.trans (FrM0.up (by omega))).g, by omega, ⟨_, rfl, Or.inl rfl⟩, by rw [up2_s]; omega⟩, rfl, rfl, rfl⟩
theorem m_goesBehind (hr : RS r) {s : QS} (h : MT tp N g s) (h37 : g 74 37 = 0) (hbot : hd0 (s.2.1.dropWhile pAO) = 40) : CT (mX12_goesBehind (rmD 3 0 0)) 0 0 shW [vR (some 74)] g z r (qG shW z r fun v g' => FrM g g' ∧ rstY (gbF (tX tp N) s) (fun f => f < 0 ∧ v = some (vI 0) ∧ g' 74 37 = f) (fun q => g' 74 37 = 0 ∧ MT tp N g' q.2 ∧ v = some (vI (if q.1 = 1 then 1 else 0)) ∧ g' 74 42 = (if q.1 = 2 then 1 else if q.1 = 1 then g 74 42 else 0))) := by
  have hT := tX_ok (f := tp) (N := N)
  have hN := h.1.2.1.2
  obtain ⟨p, σ, o, C⟩ := s
  have hbot : hd0 (σ.dropWhile pAO) = 40 := hbot
  have h7 : σ.length + C.length ≤ p ∧ p ≤ N := h.1.2.2.2.2.2.2.1
  have ho6 : o ≤ 6 := h.1.2.2.2.2.2.2.2
  have hop : o = opN σ := h.2
  refine CT.of 1 rfl rfl ?_
  generalize hX : gbF (tX tp N) (p, σ, o, C) = X
  generalize hQ : (qG shW z r fun v g' => FrM g g' ∧ rstY X (fun f => f < 0 ∧ v = some (vI 0) ∧ g' 74 37 = f) (fun q => g' 74 37 = 0 ∧ MT tp N g' q.2 ∧ v = some (vI (if q.1 = 1 then 1 else 0)) ∧ g' 74 42 = (if q.1 = 2 then 1 else if q.1 = 1 then g 74 42 else 0))) = Q
  have hX : (if okS 1 (tX tp N p) then .inr (1, p + 1, tX tp N p :: σ.dropWhile pAn, o, C ++ emO (σ.takeWhile pAn))
    else if okS 0 (tX tp N p) then .inr (1, p + 1, tX tp N p :: σ.dropWhile pAO, o, C ++ emO (σ.takeWhile pAO))
    else if tX tp N p = 41 then (if (σ.dropWhile pAO).tail = [] then .inr (2, p + 1, [], o - 1, C ++ emO (σ.takeWhile pAO)) else .inr (0, endF (p + 1, (σ.dropWhile pAO).tail, o - 1, C ++ emO (σ.takeWhile pAO))))
    else .inl (-1000 - (p : Int))) = X := hX
  have hh := h.1.here (z := z) hr
  have hh : CT (mX12_here (rmD 0 0 0)) 0 0 shW [vR (some 74)] g z r (qP shW g z r (some (vI (tX tp N p)))) := hh
  generalize hTp : tX tp N p = c at *
  have hlt : c ≠ 0 → p < N := fun e => txt_lt hT.1 (by rw [hTp]; exact e)
  have k38 : okS 1 c = decide (c = 38) := rfl
  have k124 : okS 0 c = decide (c = 124) := rfl
  have at29 : ∀ b : Bool, ((b = false ∧ c = 38) ∨ (b = true ∧ c = 124)) → RJ (mX12_goesBehind (rmD 3 0 0)) 0 0 shW.length Q 0 0 shW 29 [some (vR (some 74)), some (vI c)] [vI (bi b), vR (some 74)] g z r := by
    intro b hc
    have hlp := hlt (by omega)
    refine R_callV (m_joins hr b h.1 h37) (mvX12_joins _) kiX12_joins kvX12_joins km12_290 rfl rfl (by decide) ⟨rfl, rfl, by decide, by decide⟩ (Nat.le_of_ble_eq_true rfl) dX12_goesBehind_29 (fun v1 sh1 g1 z1 r1 hq => ?_)
    obtain ⟨⟨rfl, f1, k1, h1⟩, rfl, rfl, rfl⟩ := hq
    have e41 := h1.2.2.2.1.1
    have e35 := h1.2.2.1
    have e7 : (σ.dropWhile (if b then pAO else pAn)).length + (C ++ emO (σ.takeWhile (if b then pAO else pAn))).length ≤ p ∧ p ≤ N := h1.2.2.2.2.2.2.1
    have hdr : opN (σ.dropWhile (if b then pAO else pAn)) = opN σ := opN_drop (by cases b; exact pAn_bk; exact pAO_bk) σ
    refine R_aload_n dX12_goesBehind_32 rfl ?_
    refine R_iload_n dX12_goesBehind_33 rfl ?_
    refine R_callV (m_puts hr (σ.dropWhile (if b then pAO else pAn)).length p (by omega) (by omega) e41 e35 c) (mvX12_puts _) kiX12_puts kvX12_puts km12_240 rfl rfl (by decide) ⟨rfl, rfl, by decide, by decide⟩ (Nat.le_of_ble_eq_true rfl) dX12_goesBehind_34 (fun v1 sh1 g2 z1 r1 hq => ?_)
    obtain ⟨⟨rfl, rfl⟩, rfl, rfl, rfl⟩ := hq
    refine R_iconst dX12_goesBehind_37 rfl rfl ?_
    refine R_ireturn rfl (by first | rfl | exact nar_b2i | exact nar_bi) (by decide) (by decide) dX12_goesBehind_38 ?_
    have hm := MS_put (c := c) h1 (by omega)
    have hbk : isBk c = false := by unfold isBk; rw [decide_eq_false_iff_not]; omega
    have hXx : X = .inr (1, p + 1, c :: σ.dropWhile (if b then pAO else pAn), o, C ++ emO (σ.takeWhile (if b then pAO else pAn))) := by
      rw [← hX, k38, k124]
      rcases hc with ⟨rfl, e⟩ | ⟨rfl, e⟩
      · rw [decide_eq_true e, if_pos rfl]; rfl
      · rw [decide_eq_false (show ¬ c = 38 by omega), decide_eq_true e, if_neg (by decide), if_pos rfl]; rfl
    rw [← hQ, hXx]
    exact ⟨⟨(f1.trans put_fr).m, by rw [put_37]; exact k1, ⟨hm, by show o = opN (c :: _); rw [opN_f hbk, hdr]; exact hop⟩, rfl, by rw [(f1.trans put_fr).2 42 (by decide) (by decide) (by decide) (by decide) (by decide)]; rfl⟩, rfl, rfl, rfl⟩
  refine R_aload_n dX12_goesBehind_0 rfl ?_
  refine R_callV (hh) (mvX12_here _) kiX12_here kvX12_here km12_236 rfl rfl (by decide) ⟨rfl, rfl, by decide, by decide⟩ (Nat.le_of_ble_eq_true rfl) dX12_goesBehind_1 (fun v1 sh1 g1 z1 r1 hq => ?_)
  obtain ⟨rfl, rfl, rfl, rfl, rfl⟩ := hq
  refine R_istore_n dX12_goesBehind_4 (by decide) rfl [_, _] rfl ?_
  refine R_iload_n dX12_goesBehind_5 rfl ?_
  refine R_bipush dX12_goesBehind_6 rfl (by decide +kernel) ?_
  refine R_icmp_eq 17 dX12_goesBehind_8 (by decide) (fun hc8 => ?_) (fun hc8 => ?_)
  · refine R_aload_n dX12_goesBehind_17 rfl ?_
    refine R_iload_n dX12_goesBehind_18 rfl ?_
    refine R_bipush dX12_goesBehind_19 rfl (by decide +kernel) ?_
    refine R_icmp_ne 28 dX12_goesBehind_21 (by decide) (fun hc21 => ?_) (fun hc21 => ?_)
    · refine R_iconst dX12_goesBehind_28 rfl rfl ?_
      exact at29 false (Or.inl ⟨rfl, hc8⟩)
    · exact absurd hc21 (by omega)
  refine R_iload_n dX12_goesBehind_11 rfl ?_
  refine R_bipush dX12_goesBehind_12 rfl (by decide +kernel) ?_
  refine R_icmp_ne 39 dX12_goesBehind_14 (by decide) (fun hc14 => ?_) (fun hc14 => ?_)
  rotate_left
  · refine R_aload_n dX12_goesBehind_17 rfl ?_
    refine R_iload_n dX12_goesBehind_18 rfl ?_
    refine R_bipush dX12_goesBehind_19 rfl (by decide +kernel) ?_
    refine R_icmp_ne 28 dX12_goesBehind_21 (by decide) (fun hc21 => ?_) (fun hc21 => ?_)
    · exact absurd hc14 hc21
    · refine R_iconst dX12_goesBehind_24 rfl rfl ?_
      refine R_goto 29 dX12_goesBehind_25 (by decide) ?_
      exact at29 true (Or.inr ⟨rfl, hc14⟩)
  rw [k38, k124, decide_eq_false hc8, decide_eq_false hc14, if_neg (by decide), if_neg (by decide)] at hX
  have e35 : g 74 35 = (p : Int) := h.1.2.2.1
  refine R_iload_n dX12_goesBehind_39 rfl ?_
  refine R_bipush dX12_goesBehind_40 rfl (by decide +kernel) ?_
  refine R_icmp_eq 56 dX12_goesBehind_42 (by decide) (fun hc42 => ?_) (fun hc42 => ?_)
  rotate_left
  · rw [if_neg hc42] at hX
    refine R_aload_n dX12_goesBehind_45 rfl ?_
    refine R_iconst dX12_goesBehind_46 rfl rfl ?_
    refine R_aload_n dX12_goesBehind_47 rfl ?_
    refine R_getI fd12_35 kf12_210 rfl dX12_goesBehind_48 ?_
    rw [e35]
    refine R_callV (m_wrongs 1 p (by decide) (by omega)) (mvX12_wrongs _) kiX12_wrongs kvX12_wrongs km12_232 rfl rfl (by decide) ⟨rfl, rfl, by decide, by decide⟩ (Nat.le_of_ble_eq_true rfl) dX12_goesBehind_51 (fun v1 sh1 g2 z1 r1 hq => ?_)
    obtain ⟨⟨rfl, rfl⟩, rfl, rfl, rfl⟩ := hq
    rw [h37, if_neg (by decide)]
    refine R_iconst dX12_goesBehind_54 rfl rfl ?_
    refine R_ireturn rfl (by first | rfl | exact nar_b2i | exact nar_bi) (by decide) (by decide) dX12_goesBehind_55 ?_
    rw [← hQ, ← hX]
    exact ⟨⟨(FrM0.up (by omega)).m, by omega, rfl, by rw [up2_s]; omega⟩, rfl, rfl, rfl⟩
  rw [if_pos hc42] at hX
  have hlp := hlt (by omega)
  refine R_aload_n dX12_goesBehind_56 rfl ?_
  refine R_iconst dX12_goesBehind_57 rfl rfl ?_
  refine R_callV (m_joins hr true h.1 h37) (mvX12_joins _) kiX12_joins kvX12_joins km12_290 rfl rfl (by decide) ⟨rfl, rfl, by decide, by decide⟩ (Nat.le_of_ble_eq_true rfl) dX12_goesBehind_58 (fun v1 sh1 g1 z1 r1 hq => ?_)
  obtain ⟨⟨rfl, f1, k1, h1⟩, rfl, rfl, rfl⟩ := hq
  have h1 : MS tp N g1 (p, σ.dropWhile pAO, o, C ++ emO (σ.takeWhile pAO)) := h1
  have hdr : opN (σ.dropWhile pAO) = opN σ := opN_drop pAO_bk σ
  generalize σ.dropWhile pAO = τ at *
  generalize C ++ emO (σ.takeWhile pAO) = D at *
  cases τ with
  | nil => exact absurd hbot (by decide)
  | cons d t =>
    have hd40 : d = 40 := hbot
    subst hd40
    rw [List.tail_cons] at hX
    rw [opN_t rfl] at hdr
    obtain ⟨o', rfl⟩ : ∃ o', o = o' + 1 := ⟨o - 1, by omega⟩
    have e41 : g1 74 41 = ((t.length + 1 : Nat) : Int) := h1.2.2.2.1.1
    have e40 : g1 74 40 = ((o' + 1 : Nat) : Int) := h1.2.2.2.2.1
    have e35' : g1 74 35 = (p : Int) := h1.2.2.1
    have e7 : t.length + 1 + D.length ≤ p ∧ p ≤ N := h1.2.2.2.2.2.2.1
    have h2 := ((h1.pop).opn (o' := o') (by omega)).plc (by omega)
    have f2 := ((f1.trans (FrM0.up (k := 41) (v := (t.length : Int)) (by omega))).trans (FrM0.up (k := 40) (v := (o' : Int)) (by omega))).trans (FrM0.up (k := 35) (v := ((p + 1 : Nat) : Int)) (by omega))
    have k2 : up2 (up2 (up2 g1 74 41 (t.length : Int)) 74 40 (o' : Int)) 74 35 ((p + 1 : Nat) : Int) 74 37 = 0 := by rw [up2_k (by decide), up2_k (by decide), up2_k (by decide)]; exact k1
    refine R_aload_n dX12_goesBehind_61 rfl ?_
    refine R_dup dX12_goesBehind_62 (fun _ h => by cases h) ?_
    refine R_getI fd12_41 kf12_226 rfl dX12_goesBehind_63 ?_
    rw [e41]
    refine R_iconst dX12_goesBehind_66 rfl rfl ?_
    refine R_isubN dX12_goesBehind_67 (by unfold inI; omega) ?_
    refine R_putI fd12_41 rfl kf12_226 rfl dX12_goesBehind_68 ?_
    refine R_aload_n dX12_goesBehind_71 rfl ?_
    refine R_dup dX12_goesBehind_72 (fun _ h => by cases h) ?_
    refine R_getI fd12_40 kf12_229 rfl dX12_goesBehind_73 ?_
    try simp +decide only [up2_far, up2_s, up2_kk]
    rw [e40]
    refine R_iconst dX12_goesBehind_76 rfl rfl ?_
    refine R_isubN dX12_goesBehind_77 (by unfold inI; omega) ?_
    refine R_putI fd12_40 rfl kf12_229 rfl dX12_goesBehind_78 ?_
    refine R_aload_n dX12_goesBehind_81 rfl ?_
    refine R_dup dX12_goesBehind_82 (fun _ h => by cases h) ?_
    refine R_getI fd12_35 kf12_210 rfl dX12_goesBehind_83 ?_
    try simp +decide only [up2_far, up2_s, up2_kk]
    rw [e35']
    refine R_iconst dX12_goesBehind_86 rfl rfl ?_
    refine R_iaddN dX12_goesBehind_87 (by unfold inI; omega) ?_
    refine R_putI fd12_35 rfl kf12_210 rfl dX12_goesBehind_88 ?_
    rw [show ((t.length + 1 : Nat) : Int) - 1 = (t.length : Int) by omega, show ((o' + 1 : Nat) : Int) - 1 = (o' : Int) by omega, show (p : Int) + 1 = ((p + 1 : Nat) : Int) by omega]
    generalize up2 (up2 (up2 g1 74 41 (t.length : Int)) 74 40 (o' : Int)) 74 35 ((p + 1 : Nat) : Int) = g2 at *
    have e41' : g2 74 41 = (t.length : Int) := h2.2.2.2.1.1
    refine R_aload_n dX12_goesBehind_91 rfl ?_
    refine R_aload_n dX12_goesBehind_92 rfl ?_
    refine R_getI fd12_41 kf12_226 rfl dX12_goesBehind_93 ?_
    rw [e41']
    refine R_if_ne 103 dX12_goesBehind_96 (by decide) (fun hc96 => ?_) (fun hc96 => ?_)
    · have hne : t ≠ [] := fun e => hc96 (by rw [e]; rfl)
      rw [if_neg hne] at hX
      refine R_iconst dX12_goesBehind_103 rfl rfl ?_
      refine R_putZ (by first | exact Or.inl rfl | exact Or.inr rfl | omega) fd12_42 rfl kf12_293 rfl dX12_goesBehind_104 ?_
      refine R_aload_n dX12_goesBehind_107 rfl ?_
      refine R_getI fd12_42 kf12_293 rfl dX12_goesBehind_108 ?_
      try simp +decide only [up2_far, up2_s, up2_kk]
      refine R_if_ne 118 dX12_goesBehind_111 (by decide) (fun hc111 => ?_) (fun hc111 => ?_)
      · exact absurd rfl hc111
      have h3 := h2.oth (k := 42) (v := 0) (Or.inr (Or.inl rfl))
      refine R_aload_n dX12_goesBehind_114 rfl ?_
      refine R_callV (m_ends hr ⟨h3, by show o' = opN t; omega⟩ (by rw [up2_k (by decide)]; exact k2)) (mvX12_ends _) kiX12_ends kvX12_ends km12_287 rfl rfl (by decide) ⟨rfl, rfl, by decide, by decide⟩ (Nat.le_of_ble_eq_true rfl) dX12_goesBehind_115 (fun v1 sh1 g3 z1 r1 hq => ?_)
      obtain ⟨⟨rfl, f3, k3, h4⟩, rfl, rfl, rfl⟩ := hq
      refine R_iconst dX12_goesBehind_118 rfl rfl ?_
      refine R_ireturn rfl (by first | rfl | exact nar_b2i | exact nar_bi) (by decide) (by decide) dX12_goesBehind_119 ?_
      rw [← hQ, ← hX]
      exact ⟨⟨(f2.m.trans (FrM.up (Or.inl rfl))).trans f3.m, k3, h4, rfl, by rw [f3.2 42 (by decide) (by decide) (by decide) (by decide) (by decide), up2_s]; rfl⟩, rfl, rfl, rfl⟩
    · have hne : t = [] := List.length_eq_zero_iff.mp (by omega)
      subst hne
      rw [if_pos rfl] at hX
      refine R_iconst dX12_goesBehind_99 rfl rfl ?_
      refine R_goto 104 dX12_goesBehind_100 (by decide) ?_
      refine R_putZ (by first | exact Or.inl rfl | exact Or.inr rfl | omega) fd12_42 rfl kf12_293 rfl dX12_goesBehind_104 ?_
      refine R_aload_n dX12_goesBehind_107 rfl ?_
      refine R_getI fd12_42 kf12_293 rfl dX12_goesBehind_108 ?_
      try simp +decide only [up2_far, up2_s, up2_kk]
      refine R_if_ne 118 dX12_goesBehind_111 (by decide) (fun hc111 => ?_) (fun hc111 => ?_)
      rotate_left
      · exact absurd hc111 (by decide)
      have h3 := h2.oth (k := 42) (v := 1) (Or.inr (Or.inl rfl))
      refine R_iconst dX12_goesBehind_118 rfl rfl ?_
      refine R_ireturn rfl (by first | rfl | exact nar_b2i | exact nar_bi) (by decide) (by decide) dX12_goesBehind_119 ?_
      rw [← hQ, ← hX]
      exact ⟨⟨f2.m.trans (FrM.up (Or.inl rfl)), by rw [up2_k (by decide)]; exact k2, ⟨h3, by show o' + 1 - 1 = opN []; have : opN ([] : List Int) = 0 := rfl; omega⟩, rfl, up2_s⟩, rfl, rfl, rfl⟩
end MRD4
