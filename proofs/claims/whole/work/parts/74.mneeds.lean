def enc (a : Nat) (p : Nat × Nat) : Nat := 289 * a + 17 * p.1 + p.2
/-- as SM, but for the tables of 'must' -/
def SM4 (g g' : GG) : Prop := (∀ c', c' ≠ 74 → c' ≤ 100 ∨ (106 ≤ c' ∧ c' ≤ 116) ∨ 119 ≤ c' → g' c' = g c') ∧ ∀ k, k ≠ 45 → k ≠ 46 → g' 74 k = g 74 k
theorem SM.sm4 {g g' : GG} (h : SM g g') : SM4 g g' := ⟨fun c' a b => h.1 c' a (by omega), h.2⟩
theorem SM4.trans {g g1 g2 : GG} (h1 : SM4 g g1) (h2 : SM4 g1 g2) : SM4 g g2 := ⟨fun c' a b => (h2.1 c' a b).trans (h1.1 c' a b), fun k a b => (h2.2 k a b).trans (h1.2 k a b)⟩
section MNEEDS
variable {g z : GG} {r : RR}
theorem m_cellOf (a o t : Nat) (ha : a ≤ 5) (ho : o ≤ 16) (ht : t ≤ 16) : CT (mX12_cellOf (rmD 0 0 0)) 0 0 shW [vI (a : Int), vI (o : Int), vI (t : Int)] g z r (qP shW g z r (some (vI (enc a (o, t) : Nat)))) := by
  refine CT.of 0 rfl rfl ?_
  refine R_sipush dX12_cellOf_0 rfl (by decide +kernel) ?_
  refine R_iload_n dX12_cellOf_3 rfl ?_
  refine R_imulN dX12_cellOf_4 (by unfold inI; omega) ?_
  refine R_bipush dX12_cellOf_5 rfl (by decide +kernel) ?_
  refine R_iload_n dX12_cellOf_7 rfl ?_
  refine R_imulN dX12_cellOf_8 (by unfold inI; omega) ?_
  refine R_iaddN dX12_cellOf_9 (by unfold inI; omega) ?_
  refine R_iload_n dX12_cellOf_10 rfl ?_
  refine R_iaddN dX12_cellOf_11 (by unfold inI; omega) ?_
  refine R_ireturn rfl (by first | rfl | exact nar_b2i | exact nar_bi) (by decide) (by decide) dX12_cellOf_12 ?_
  exact ⟨congrArg (fun x => some (vI x)) (by unfold enc; simp only; omega), rfl, rfl, rfl, rfl⟩
theorem m_needs (K : Nat → CUS) (H : MP g r K) (c : Nat) (hc6 : c < 6) (hgc : g 74 45 = (c : Int)) (l : List Nat) (hl : FamM g l) (hm : ∀ a ∈ l, (a : Int) < g 74 4) (hll : l.length ≤ 10) (hA : -1 ≤ g 74 5 ∧ g 74 5 < 4) (hA2 : -1 ≤ g 74 6 ∧ g 74 6 < 4) (hP : PH (vM g) c l (ltA (vM g) K (g 74 5) (g 74 6) (g 74 7) c l)) (k : Nat) (hk : k < l.length) (sex : Int) (CB : Nat → Nat × Nat → Prop) (hCB : ∀ a p, CB a p → a ≤ 5 ∧ p.1 ≤ 16 ∧ p.2 ≤ 16) (hcan : ∀ x, x < 1734 → (g 117 x = 0 ∨ g 117 x = 1) ∧ (g 117 x = 1 ↔ CB (x / 289) (x / 17 % 17, x % 17))) : CT (mX12_needs (rmD 5 0 0)) 0 0 shW [vR (some 74), vI (k : Int), vI sex] g z r (qG shW z r fun v g' => v = none ∧ (∀ c', c' ≠ 104 → c' ≠ 105 → c' ≠ 117 → c' ≠ 118 → g' c' = g c') ∧ ∀ x, x < 1734 → (g' 117 x = 0 ∨ g' 117 x = 1) ∧ (g' 117 x = 1 ↔ (x / 289 ≤ 5 ∧ ∃ a0 p0, a0 ≤ x / 289 ∧ CB a0 p0 ∧ stM (vM g) c l k (ltA (vM g) K (g 74 5) (g 74 6) (g 74 7) c l k (x / 289)) p0 = some (x / 17 % 17, x % 17)))) := by
  obtain ⟨hr, hB, hB2, hK⟩ := id H
  refine CT.of 8 rfl rfl ?_
  have hm10 : ∀ a ∈ l, a < 10 := fun a ha => by have := hm a ha; have := hB2.2.2.2.2.2.1; omega
  have hi10 := hm10 _ (getD_mem hk)
  have hgk := famM_at hl hk
  obtain ⟨n0, n1, n2⟩ := hP.2.1 k hk
  have e8 : (vM g) 8 (l.getD k 0) = g 83 (l.getD k 0) := rfl
  rw [e8] at n0 n1 n2
  have hA0 := hP.1 k
  have hl8 : ∀ x, -1 ≤ ltA (vM g) K (g 74 5) (g 74 6) (g 74 7) c l k x ∧ ltA (vM g) K (g 74 5) (g 74 6) (g 74 7) c l k x < 8 := fun x => ltA_lt (fun k hk => kmK_8 hK hk)
  have hl7 : ∀ x, ltA (vM g) K (g 74 5) (g 74 6) (g 74 7) c l k x = 7 → ddN (vM g) (l.getD k 0) (l.take k) ≠ -1 := fun x h => thS_7 (ltA_bit (q := 7) h)
  generalize hAd : ltA (vM g) K (g 74 5) (g 74 6) (g 74 7) c l = A at *
  generalize hQ : (qG shW z r fun v g' => v = none ∧ (∀ c', c' ≠ 104 → c' ≠ 105 → c' ≠ 117 → c' ≠ 118 → g' c' = g c') ∧ ∀ x, x < 1734 → (g' 117 x = 0 ∨ g' 117 x = 1) ∧ (g' 117 x = 1 ↔ (x / 289 ≤ 5 ∧ ∃ a0 p0, a0 ≤ x / 289 ∧ CB a0 p0 ∧ stM (vM g) c l k (A k (x / 289)) p0 = some (x / 17 % 17, x % 17)))) = Q
  have stb : ∀ (t : Int) (p p' : Nat × Nat), stM (vM g) c l k t p = some p' → p.1 ≤ 16 → p.2 ≤ 16 → p'.1 ≤ 16 ∧ p'.2 ≤ 16 := by
    intro t p p' h h1 h2
    unfold stM at h
    rw [e8] at h
    split at h
    · have := Option.some.inj h; subst this; exact ⟨h1, h2⟩
    · split at h
      · split at h
        · have := Option.some.inj h; subst this; exact ⟨h1, h2⟩
        · cases h
      · split at h
        · split at h
          · have := Option.some.inj h; subst this; exact ⟨by simp only; omega, h2⟩
          · cases h
        · split at h
          · have := Option.some.inj h; subst this; exact ⟨h1, by simp only; omega⟩
          · cases h
  have hcong : ∀ g' : GG, (∀ c', c' ≠ 104 → c' ≠ 105 → c' ≠ 117 → c' ≠ 118 → g' c' = g c') → vM g' = vM g ∧ FamM g' l ∧ g' 74 = g 74 ∧ BM g' ∧ kmK g' K := by
    intro g' h
    have h74 := h 74 (by decide) (by decide) (by decide) (by decide)
    refine ⟨vM_cong (fun c a b => h c (by omega) (by omega) (by omega) (by omega)) (fun k a b => by rw [h74]), FamM_cong (by rw [h74]) (h 101 (by decide) (by decide) (by decide) (by decide)) hl, h74, ?_, kmK_cong (fun c a b => h c (by omega) (by omega) (by omega) (by omega)) hK⟩
    show _ ∧ _
    rw [h 84 (by decide) (by decide) (by decide) (by decide), h 83 (by decide) (by decide) (by decide) (by decide), h 76 (by decide) (by decide) (by decide) (by decide), h 80 (by decide) (by decide) (by decide) (by decide), h 77 (by decide) (by decide) (by decide) (by decide), h74]
    exact hB
  -- the copy back
  have loop4 : ∀ (n x : Nat) (g' : GG) (ls : List (Option AV)), ls.length = 7 → x + n = 1734 → (∀ c', c' ≠ 104 → c' ≠ 105 → c' ≠ 117 → c' ≠ 118 → g' c' = g c') → (∀ y, y < 1734 → (g' 118 y = 0 ∨ g' 118 y = 1) ∧ (g' 118 y = 1 ↔ (y / 289 ≤ 5 ∧ ∃ a0 p0, a0 ≤ y / 289 ∧ CB a0 p0 ∧ stM (vM g) c l k (A k (y / 289)) p0 = some (y / 17 % 17, y % 17)))) → (∀ y, y < x → g' 117 y = g' 118 y) → RJ (mX12_needs (rmD 5 0 0)) 0 0 shW.length Q 0 0 shW 274 (some (vR (some 74)) :: some (vI (k : Int)) :: some (vI sex) :: some (vI (x : Int)) :: ls) [] g' z r := by
    intro n
    induction n with
    | zero =>
      intro x g' ls hls hx q1 q2 q3
      obtain ⟨b4, b5, b6, b7, b8, b9, b10, rfl⟩ : ∃ b4 b5 b6 b7 b8 b9 b10, ls = [b4, b5, b6, b7, b8, b9, b10] := by
        match ls, hls with
        | [b4, b5, b6, b7, b8, b9, b10], _ => exact ⟨_, _, _, _, _, _, _, rfl⟩
      refine R_iload_n dX12_needs_274 rfl ?_
      refine R_sipush dX12_needs_275 rfl (by decide +kernel) ?_
      refine R_icmp_ge 299 dX12_needs_278 (by decide) (fun hc278 => ?_) (fun hc278 => ?_)
      · refine R_return rfl (by decide) (by decide) dX12_needs_299 ?_
        rw [← hQ]
        exact ⟨⟨rfl, q1, fun y hy => by rw [q3 y (by omega)]; exact q2 y hy⟩, rfl, rfl, rfl⟩
      · exact absurd (by omega) hc278
    | succ n ih =>
      intro x g' ls hls hx q1 q2 q3
      obtain ⟨b4, b5, b6, b7, b8, b9, b10, rfl⟩ : ∃ b4 b5 b6 b7 b8 b9 b10, ls = [b4, b5, b6, b7, b8, b9, b10] := by
        match ls, hls with
        | [b4, b5, b6, b7, b8, b9, b10], _ => exact ⟨_, _, _, _, _, _, _, rfl⟩
      have h01 := (q2 x (by omega)).1
      refine R_iload_n dX12_needs_274 rfl ?_
      refine R_sipush dX12_needs_275 rfl (by decide +kernel) ?_
      refine R_icmp_ge 299 dX12_needs_278 (by decide) (fun hc278 => ?_) (fun hc278 => ?_)
      · exact absurd hc278 (by omega)
      refine R_aload_n dX12_needs_281 rfl ?_
      refine R_getR _ (hr _ _ _ rfl) fd12_67 kf12_155 rfl dX12_needs_282 ?_
      refine R_iload_n dX12_needs_285 rfl ?_
      refine R_aload_n dX12_needs_286 rfl ?_
      refine R_getR _ (hr _ _ _ rfl) fd12_68 kf12_158 rfl dX12_needs_287 ?_
      refine R_iload_n dX12_needs_290 rfl ?_
      refine R_zald rfl (by omega) (by omega) dX12_needs_291 ?_
      rw [Int.toNat_natCast]
      refine R_zast rfl (by exact h01) (by omega) (by omega) dX12_needs_292 ?_
      refine R_iincN dX12_needs_293 rfl (by decide) rfl (by unfold inI; omega) [_, _, _, _, _, _, _, _, _, _, _] rfl ?_
      refine R_goto 274 dX12_needs_296 (by decide) ?_
      rw [Int.toNat_natCast]
      refine ih (x + 1) _ _ rfl (by omega) (fun c' a b d e => by rw [up2_ne d]; exact q1 c' a b d e) (fun y hy => by rw [up2_far (by decide)]; exact q2 y hy) (fun y hy => ?_)
      rw [up2_far (c' := 118) (by decide)]
      by_cases e : y = x
      · subst e; rw [up2_s]
      · rw [up2_k e]; exact q3 y (by omega)
  -- one cell
  have body : ∀ (a : Nat), a ≤ 5 → ∀ (x : Nat), x < 289 * (a + 1) → ∀ (g' : GG) (b5 b6 : Int) (b8 b9 b10 : Option AV), (∀ c', c' ≠ 104 → c' ≠ 105 → c' ≠ 117 → c' ≠ 118 → g' c' = g c') → (A k a = -1 ∧ b5 = -1 ∧ b6 = -1 ∨ ∃ q : Nat, A k a = (q : Int) ∧ q < 8 ∧ b5 = (if q < 4 then (q : Int) else -1) ∧ b6 = toldS (vM g) c l k q ∧ (4 ≤ q → b6 ≠ -1)) → (∀ p', stM (vM g) c l k (A k a) (x / 17 % 17, x % 17) = some p' → ∀ b8 b9 b10, RJ (mX12_needs (rmD 5 0 0)) 0 0 shW.length Q 0 0 shW 260 [some (vR (some 74)), some (vI (k : Int)), some (vI sex), some (vI (a : Int)), some (vI (chL (A k a))), some (vI b5), some (vI b6), some (vI (x : Int)), b8, b9, b10] [] (up2 g' 118 (enc a p') 1) z r) → (stM (vM g) c l k (A k a) (x / 17 % 17, x % 17) = none → ∀ b8 b9 b10, RJ (mX12_needs (rmD 5 0 0)) 0 0 shW.length Q 0 0 shW 260 [some (vR (some 74)), some (vI (k : Int)), some (vI sex), some (vI (a : Int)), some (vI (chL (A k a))), some (vI b5), some (vI b6), some (vI (x : Int)), b8, b9, b10] [] g' z r) → RJ (mX12_needs (rmD 5 0 0)) 0 0 shW.length Q 0 0 shW 99 [some (vR (some 74)), some (vI (k : Int)), some (vI sex), some (vI (a : Int)), some (vI (chL (A k a))), some (vI b5), some (vI b6), some (vI (x : Int)), b8, b9, b10] [] g' z r := by
    intro a ha x hx g' b5 b6 b8 b9 b10 q1 hcase hsome hnone
    have h83 : g' 83 = g 83 := q1 83 (by decide) (by decide) (by decide) (by decide)
    have h101 : g' 101 = g 101 := q1 101 (by decide) (by decide) (by decide) (by decide)
    have hl8a := hl8 a
    have hz := chL_z hl8a
    have put : ∀ (o t : Nat), o ≤ 16 → t ≤ 16 → stM (vM g) c l k (A k a) (x / 17 % 17, x % 17) = some (o, t) → ∀ b10, RJ (mX12_needs (rmD 5 0 0)) 0 0 shW.length Q 0 0 shW 246 [some (vR (some 74)), some (vI (k : Int)), some (vI sex), some (vI (a : Int)), some (vI (chL (A k a))), some (vI b5), some (vI b6), some (vI (x : Int)), some (vI (o : Int)), some (vI (t : Int)), b10] [] g' z r := by
      intro o t ho ht hst b10
      refine R_aload_n dX12_needs_246 rfl ?_
      refine R_getR _ (hr _ _ _ rfl) fd12_68 kf12_158 rfl dX12_needs_247 ?_
      refine R_iload_n dX12_needs_250 rfl ?_
      refine R_iload dX12_needs_251 rfl ?_
      refine R_iload dX12_needs_253 rfl ?_
      refine R_callS (m_cellOf a o t ha ho ht) (mvX12_cellOf _) ksX12_cellOf km12_445 ⟨rfl, rfl, by decide, by decide⟩ (Nat.le_of_ble_eq_true rfl) dX12_needs_255 (fun v1 sh1 g1 z1 r1 hq => ?_)
      obtain ⟨rfl, rfl, rfl, rfl, rfl⟩ := hq
      have hen : enc a (o, t) < 1734 := by unfold enc; simp only; omega
      refine R_iconst dX12_needs_258 rfl rfl ?_
      refine R_zast rfl (by first | exact Or.inl rfl | exact Or.inr rfl | omega) (by omega) (by omega) dX12_needs_259 ?_
      rw [Int.toNat_natCast]
      exact hsome (o, t) hst _ _ _
    refine R_iload dX12_needs_99 rfl ?_
    refine R_bipush dX12_needs_101 rfl (by decide +kernel) ?_
    refine R_idiv dX12_needs_103 (by decide) ?_
    rw [show bDiv (x : Int) 17 = ((x / 17 : Nat) : Int) from bDiv_n (m := x) (n := 17) (by omega) (by decide) (by decide)]
    refine R_bipush dX12_needs_104 rfl (by decide +kernel) ?_
    refine R_irem dX12_needs_106 (by decide) ?_
    rw [show bRem ((x / 17 : Nat) : Int) 17 = ((x / 17 % 17 : Nat) : Int) from bRem_n (m := x / 17) (n := 17) (by omega) (by decide) (by decide)]
    refine R_istore dX12_needs_107 (by decide) rfl [_, _, _, _, _, _, _, _, _, _, _] rfl ?_
    refine R_iload dX12_needs_109 rfl ?_
    refine R_bipush dX12_needs_111 rfl (by decide +kernel) ?_
    refine R_irem dX12_needs_113 (by decide) ?_
    rw [show bRem (x : Int) 17 = ((x % 17 : Nat) : Int) from bRem_n (m := x) (n := 17) (by omega) (by decide) (by decide)]
    refine R_istore dX12_needs_114 (by decide) rfl [_, _, _, _, _, _, _, _, _, _, _] rfl ?_
    have hd1 : x / 17 % 17 ≤ 16 := by omega
    have hd2 : x % 17 ≤ 16 := by omega
    rcases hcase with ⟨hneg, -, -⟩ | ⟨q, hq, q8, hb5, hb6, hb4⟩
    · have hst : stM (vM g) c l k (A k a) (x / 17 % 17, x % 17) = some (x / 17 % 17, x % 17) := by unfold stM; rw [hneg, if_pos (by omega)]
      have hc0 : chL (A k a) = 0 := hz.mpr hneg
      refine R_iload dX12_needs_116 rfl ?_
      refine R_if_eq 146 dX12_needs_118 (by decide) (fun hc118 => ?_) (fun hc118 => ?_)
      · refine R_iload dX12_needs_146 rfl ?_
        refine R_if_eq 246 dX12_needs_148 (by decide) (fun hc148 => ?_) (fun hc148 => ?_)
        · exact put _ _ hd1 hd2 hst _
        · exact absurd hc0 hc148
      · exact absurd hc0 hc118
    · have hc0 : chL (A k a) ≠ 0 := fun e => by have := hz.mp e; omega
      have hstq : stM (vM g) c l k (A k a) (x / 17 % 17, x % 17) = if b6 ≠ -1 then (if b6 = g 83 (l.getD k 0) then some (x / 17 % 17, x % 17) else none) else if (q : Int) < 2 then (if x / 17 % 17 = 16 ∨ ((x / 17 % 17 : Nat) : Int) = g 83 (l.getD k 0) then some ((g 83 (l.getD k 0)).toNat, x % 17) else none) else (if x % 17 = 16 ∨ ((x % 17 : Nat) : Int) = g 83 (l.getD k 0) then some (x / 17 % 17, (g 83 (l.getD k 0)).toNat) else none) := by
        unfold stM
        rw [hq, if_neg (by omega), Int.toNat_natCast, ← hb6, e8]
      have mid : (b6 = -1 ∨ b6 = g 83 (l.getD k 0)) → ∀ b10, RJ (mX12_needs (rmD 5 0 0)) 0 0 shW.length Q 0 0 shW 146 [some (vR (some 74)), some (vI (k : Int)), some (vI sex), some (vI (a : Int)), some (vI (chL (A k a))), some (vI b5), some (vI b6), some (vI (x : Int)), some (vI ((x / 17 % 17 : Nat) : Int)), some (vI ((x % 17 : Nat) : Int)), b10] [] g' z r := by
        intro hor b10
        refine R_iload dX12_needs_146 rfl ?_
        refine R_if_eq 246 dX12_needs_148 (by decide) (fun hc148 => ?_) (fun hc148 => ?_)
        · exact absurd hc148 hc0
        refine R_iload dX12_needs_151 rfl ?_
        refine R_iconst dX12_needs_153 rfl rfl ?_
        refine R_icmp_ne 246 dX12_needs_154 (by decide) (fun hc154 => ?_) (fun hc154 => ?_)
        · exact put _ _ hd1 hd2 (by rw [hstq, if_pos hc154, if_pos (by omega)]) _
        have hbm : b6 = -1 := hc154
        have hq4 : q < 4 := by
          by_cases e : q < 4
          · exact e
          · exact absurd hbm (hb4 (by omega))
        rw [if_pos hq4] at hb5
        rw [if_neg (by simp [hbm])] at hstq
        subst hb5
        by_cases hq2 : (q : Int) < 2
        · rw [if_pos hq2] at hstq
          refine R_iload dX12_needs_157 rfl ?_
          refine R_iconst dX12_needs_159 rfl rfl ?_
          refine R_icmp_ge 168 dX12_needs_160 (by decide) (fun hc160 => ?_) (fun hc160 => ?_)
          · exact absurd hc160 (by omega)
          have set1 : (x / 17 % 17 = 16 ∨ ((x / 17 % 17 : Nat) : Int) = g 83 (l.getD k 0)) → RJ (mX12_needs (rmD 5 0 0)) 0 0 shW.length Q 0 0 shW 198 [some (vR (some 74)), some (vI (k : Int)), some (vI sex), some (vI (a : Int)), some (vI (chL (A k a))), some (vI (q : Int)), some (vI b6), some (vI (x : Int)), some (vI ((x / 17 % 17 : Nat) : Int)), some (vI ((x % 17 : Nat) : Int)), some (vI ((x / 17 % 17 : Nat) : Int))] [] g' z r := by
            intro hw
            rw [if_pos hw] at hstq
            have := put (g 83 (l.getD k 0)).toNat (x % 17) (by omega) hd2 hstq
            rw [Int.toNat_of_nonneg n0] at this
            refine R_iload dX12_needs_198 rfl ?_
            refine R_iconst dX12_needs_200 rfl rfl ?_
            refine R_icmp_ge 218 dX12_needs_201 (by decide) (fun hc201 => ?_) (fun hc201 => ?_)
            · exact absurd hc201 (by omega)
            refine R_aload_n dX12_needs_204 rfl ?_
            refine R_getR _ (hr _ _ _ rfl) fd12_17 kf12_51 rfl dX12_needs_205 ?_
            refine R_aload_n dX12_needs_208 rfl ?_
            refine R_getR _ (hr _ _ _ rfl) fd12_47 kf12_105 rfl dX12_needs_209 ?_
            refine R_iload_n dX12_needs_212 rfl ?_
            refine R_iald rfl (by omega) (by omega) dX12_needs_213 ?_
            rw [h101, Int.toNat_natCast, hgk]
            refine R_iald rfl (by omega) (by omega) dX12_needs_214 ?_
            rw [h83, Int.toNat_natCast]
            refine R_goto 220 dX12_needs_215 (by decide) ?_
            refine R_istore dX12_needs_220 (by decide) rfl [_, _, _, _, _, _, _, _, _, _, _] rfl ?_
            refine R_iload dX12_needs_222 rfl ?_
            refine R_iconst dX12_needs_224 rfl rfl ?_
            refine R_icmp_ge 233 dX12_needs_225 (by decide) (fun hc225 => ?_) (fun hc225 => ?_)
            · exact absurd hc225 (by omega)
            refine R_iload dX12_needs_228 rfl ?_
            refine R_goto 244 dX12_needs_230 (by decide) ?_
            refine R_istore dX12_needs_244 (by decide) rfl [_, _, _, _, _, _, _, _, _, _, _] rfl ?_
            exact this _
          refine R_iload dX12_needs_163 rfl ?_
          refine R_goto 170 dX12_needs_165 (by decide) ?_
          refine R_istore dX12_needs_170 (by decide) rfl [_, _, _, _, _, _, _, _, _, _, _] rfl ?_
          refine R_iload dX12_needs_172 rfl ?_
          refine R_bipush dX12_needs_174 rfl (by decide +kernel) ?_
          refine R_icmp_eq 198 dX12_needs_176 (by decide) (fun hc176 => ?_) (fun hc176 => ?_)
          · exact set1 (Or.inl (by omega))
          refine R_iload dX12_needs_179 rfl ?_
          refine R_aload_n dX12_needs_181 rfl ?_
          refine R_getR _ (hr _ _ _ rfl) fd12_17 kf12_51 rfl dX12_needs_182 ?_
          refine R_aload_n dX12_needs_185 rfl ?_
          refine R_getR _ (hr _ _ _ rfl) fd12_47 kf12_105 rfl dX12_needs_186 ?_
          refine R_iload_n dX12_needs_189 rfl ?_
          refine R_iald rfl (by omega) (by omega) dX12_needs_190 ?_
          rw [h101, Int.toNat_natCast, hgk]
          refine R_iald rfl (by omega) (by omega) dX12_needs_191 ?_
          rw [h83, Int.toNat_natCast]
          refine R_icmp_eq 198 dX12_needs_192 (by decide) (fun hc192 => ?_) (fun hc192 => ?_)
          · exact set1 (Or.inr hc192)
          · refine R_goto 260 dX12_needs_195 (by decide) ?_
            exact hnone (by rw [hstq, if_neg (by omega)]) _ _ _
        · rw [if_neg hq2] at hstq
          refine R_iload dX12_needs_157 rfl ?_
          refine R_iconst dX12_needs_159 rfl rfl ?_
          refine R_icmp_ge 168 dX12_needs_160 (by decide) (fun hc160 => ?_) (fun hc160 => ?_)
          · have set2 : (x % 17 = 16 ∨ ((x % 17 : Nat) : Int) = g 83 (l.getD k 0)) → RJ (mX12_needs (rmD 5 0 0)) 0 0 shW.length Q 0 0 shW 198 [some (vR (some 74)), some (vI (k : Int)), some (vI sex), some (vI (a : Int)), some (vI (chL (A k a))), some (vI (q : Int)), some (vI b6), some (vI (x : Int)), some (vI ((x / 17 % 17 : Nat) : Int)), some (vI ((x % 17 : Nat) : Int)), some (vI ((x % 17 : Nat) : Int))] [] g' z r := by
              intro hw
              rw [if_pos hw] at hstq
              have := put (x / 17 % 17) (g 83 (l.getD k 0)).toNat hd1 (by omega) hstq
              rw [Int.toNat_of_nonneg n0] at this
              refine R_iload dX12_needs_198 rfl ?_
              refine R_iconst dX12_needs_200 rfl rfl ?_
              refine R_icmp_ge 218 dX12_needs_201 (by decide) (fun hc201 => ?_) (fun hc201 => ?_)
              · refine R_iload dX12_needs_218 rfl ?_
                refine R_istore dX12_needs_220 (by decide) rfl [_, _, _, _, _, _, _, _, _, _, _] rfl ?_
                refine R_iload dX12_needs_222 rfl ?_
                refine R_iconst dX12_needs_224 rfl rfl ?_
                refine R_icmp_ge 233 dX12_needs_225 (by decide) (fun hc225 => ?_) (fun hc225 => ?_)
                · refine R_aload_n dX12_needs_233 rfl ?_
                  refine R_getR _ (hr _ _ _ rfl) fd12_17 kf12_51 rfl dX12_needs_234 ?_
                  refine R_aload_n dX12_needs_237 rfl ?_
                  refine R_getR _ (hr _ _ _ rfl) fd12_47 kf12_105 rfl dX12_needs_238 ?_
                  refine R_iload_n dX12_needs_241 rfl ?_
                  refine R_iald rfl (by omega) (by omega) dX12_needs_242 ?_
                  rw [h101, Int.toNat_natCast, hgk]
                  refine R_iald rfl (by omega) (by omega) dX12_needs_243 ?_
                  rw [h83, Int.toNat_natCast]
                  refine R_istore dX12_needs_244 (by decide) rfl [_, _, _, _, _, _, _, _, _, _, _] rfl ?_
                  exact this _
                · exact absurd hc225 (by omega)
              · exact absurd hc201 (by omega)
            refine R_iload dX12_needs_168 rfl ?_
            refine R_istore dX12_needs_170 (by decide) rfl [_, _, _, _, _, _, _, _, _, _, _] rfl ?_
            refine R_iload dX12_needs_172 rfl ?_
            refine R_bipush dX12_needs_174 rfl (by decide +kernel) ?_
            refine R_icmp_eq 198 dX12_needs_176 (by decide) (fun hc176 => ?_) (fun hc176 => ?_)
            · exact set2 (Or.inl (by omega))
            refine R_iload dX12_needs_179 rfl ?_
            refine R_aload_n dX12_needs_181 rfl ?_
            refine R_getR _ (hr _ _ _ rfl) fd12_17 kf12_51 rfl dX12_needs_182 ?_
            refine R_aload_n dX12_needs_185 rfl ?_
            refine R_getR _ (hr _ _ _ rfl) fd12_47 kf12_105 rfl dX12_needs_186 ?_
            refine R_iload_n dX12_needs_189 rfl ?_
            refine R_iald rfl (by omega) (by omega) dX12_needs_190 ?_
            rw [h101, Int.toNat_natCast, hgk]
            refine R_iald rfl (by omega) (by omega) dX12_needs_191 ?_
            rw [h83, Int.toNat_natCast]
            refine R_icmp_eq 198 dX12_needs_192 (by decide) (fun hc192 => ?_) (fun hc192 => ?_)
            · exact set2 (Or.inr hc192)
            · refine R_goto 260 dX12_needs_195 (by decide) ?_
              exact hnone (by rw [hstq, if_neg (by omega)]) _ _ _
          · exact absurd hc160 (by omega)
      refine R_iload dX12_needs_116 rfl ?_
      refine R_if_eq 146 dX12_needs_118 (by decide) (fun hc118 => ?_) (fun hc118 => ?_)
      · exact absurd hc118 hc0
      refine R_iload dX12_needs_121 rfl ?_
      refine R_iconst dX12_needs_123 rfl rfl ?_
      refine R_icmp_eq 146 dX12_needs_124 (by decide) (fun hc124 => ?_) (fun hc124 => ?_)
      · exact mid (Or.inl hc124) _
      refine R_iload dX12_needs_127 rfl ?_
      refine R_aload_n dX12_needs_129 rfl ?_
      refine R_getR _ (hr _ _ _ rfl) fd12_17 kf12_51 rfl dX12_needs_130 ?_
      refine R_aload_n dX12_needs_133 rfl ?_
      refine R_getR _ (hr _ _ _ rfl) fd12_47 kf12_105 rfl dX12_needs_134 ?_
      refine R_iload_n dX12_needs_137 rfl ?_
      refine R_iald rfl (by omega) (by omega) dX12_needs_138 ?_
      rw [h101, Int.toNat_natCast, hgk]
      refine R_iald rfl (by omega) (by omega) dX12_needs_139 ?_
      rw [h83, Int.toNat_natCast]
      refine R_icmp_eq 146 dX12_needs_140 (by decide) (fun hc140 => ?_) (fun hc140 => ?_)
      · exact mid (Or.inr hc140) _
      · refine R_goto 260 dX12_needs_143 (by decide) ?_
        exact hnone (by rw [hstq, if_pos hc124, if_neg hc140]) _ _ _
  have inner : ∀ (a : Nat), a ≤ 5 → ∀ (b5 b6 : Int), (A k a = -1 ∧ b5 = -1 ∧ b6 = -1 ∨ ∃ q : Nat, A k a = (q : Int) ∧ q < 8 ∧ b5 = (if q < 4 then (q : Int) else -1) ∧ b6 = toldS (vM g) c l k q ∧ (4 ≤ q → b6 ≠ -1)) → (∀ (g' : GG) (b7 b8 b9 b10 : Option AV), (∀ c', c' ≠ 104 → c' ≠ 105 → c' ≠ 117 → c' ≠ 118 → g' c' = g c') → g' 117 = g 117 → (∀ y, y < 1734 → (g' 118 y = 0 ∨ g' 118 y = 1) ∧ (g' 118 y = 1 ↔ ((y / 289 < a ∧ ∃ a0 p0, a0 ≤ y / 289 ∧ CB a0 p0 ∧ stM (vM g) c l k (A k (y / 289)) p0 = some (y / 17 % 17, y % 17)) ∨ ∃ x0, x0 < 289 * (a + 1) ∧ g 117 x0 = 1 ∧ ∃ p', stM (vM g) c l k (A k a) (x0 / 17 % 17, x0 % 17) = some p' ∧ y = enc a p'))) → RJ (mX12_needs (rmD 5 0 0)) 0 0 shW.length Q 0 0 shW 266 [some (vR (some 74)), some (vI (k : Int)), some (vI sex), some (vI (a : Int)), some (vI (chL (A k a))), some (vI b5), some (vI b6), b7, b8, b9, b10] [] g' z r) → ∀ (n x : Nat) (g' : GG) (b8 b9 b10 : Option AV), x + n = 289 * (a + 1) → (∀ c', c' ≠ 104 → c' ≠ 105 → c' ≠ 117 → c' ≠ 118 → g' c' = g c') → g' 117 = g 117 → (∀ y, y < 1734 → (g' 118 y = 0 ∨ g' 118 y = 1) ∧ (g' 118 y = 1 ↔ ((y / 289 < a ∧ ∃ a0 p0, a0 ≤ y / 289 ∧ CB a0 p0 ∧ stM (vM g) c l k (A k (y / 289)) p0 = some (y / 17 % 17, y % 17)) ∨ ∃ x0, x0 < x ∧ g 117 x0 = 1 ∧ ∃ p', stM (vM g) c l k (A k a) (x0 / 17 % 17, x0 % 17) = some p' ∧ y = enc a p'))) → RJ (mX12_needs (rmD 5 0 0)) 0 0 shW.length Q 0 0 shW 74 [some (vR (some 74)), some (vI (k : Int)), some (vI sex), some (vI (a : Int)), some (vI (chL (A k a))), some (vI b5), some (vI b6), some (vI (x : Int)), b8, b9, b10] [] g' z r := by
    intro a ha b5 b6 hcase hk2 n
    induction n with
    | zero =>
      intro x g' b8 b9 b10 hx q1 q2 q3
      obtain rfl : x = 289 * (a + 1) := by omega
      refine R_iload dX12_needs_74 rfl ?_
      refine R_sipush dX12_needs_76 rfl (by decide +kernel) ?_
      refine R_iload_n dX12_needs_79 rfl ?_
      refine R_iconst dX12_needs_80 rfl rfl ?_
      refine R_iaddN dX12_needs_81 (by unfold inI; omega) ?_
      refine R_imulN dX12_needs_82 (by unfold inI; omega) ?_
      refine R_icmp_ge 266 dX12_needs_83 (by decide) (fun hc83 => ?_) (fun hc83 => ?_)
      · exact hk2 g' _ _ _ _ q1 q2 q3
      · exact absurd (by omega) hc83
    | succ n ih =>
      intro x g' b8 b9 b10 hx q1 q2 q3
      have h01 := hcan x (by omega)
      have next : ∀ (g2 : GG) (b8 b9 b10 : Option AV), (∀ c', c' ≠ 104 → c' ≠ 105 → c' ≠ 117 → c' ≠ 118 → g2 c' = g c') → g2 117 = g 117 → (∀ y, y < 1734 → (g2 118 y = 0 ∨ g2 118 y = 1) ∧ (g2 118 y = 1 ↔ ((y / 289 < a ∧ ∃ a0 p0, a0 ≤ y / 289 ∧ CB a0 p0 ∧ stM (vM g) c l k (A k (y / 289)) p0 = some (y / 17 % 17, y % 17)) ∨ ∃ x0, x0 < x + 1 ∧ g 117 x0 = 1 ∧ ∃ p', stM (vM g) c l k (A k a) (x0 / 17 % 17, x0 % 17) = some p' ∧ y = enc a p'))) → RJ (mX12_needs (rmD 5 0 0)) 0 0 shW.length Q 0 0 shW 260 [some (vR (some 74)), some (vI (k : Int)), some (vI sex), some (vI (a : Int)), some (vI (chL (A k a))), some (vI b5), some (vI b6), some (vI (x : Int)), b8, b9, b10] [] g2 z r := by
        intro g2 b8 b9 b10 t1 t2 t3
        refine R_iincN dX12_needs_260 rfl (by decide) rfl (by unfold inI; omega) [_, _, _, _, _, _, _, _, _, _, _] rfl ?_
        refine R_goto 74 dX12_needs_263 (by decide) ?_
        exact ih (x + 1) g2 _ _ _ (by omega) t1 t2 t3
      refine R_iload dX12_needs_74 rfl ?_
      refine R_sipush dX12_needs_76 rfl (by decide +kernel) ?_
      refine R_iload_n dX12_needs_79 rfl ?_
      refine R_iconst dX12_needs_80 rfl rfl ?_
      refine R_iaddN dX12_needs_81 (by unfold inI; omega) ?_
      refine R_imulN dX12_needs_82 (by unfold inI; omega) ?_
      refine R_icmp_ge 266 dX12_needs_83 (by decide) (fun hc83 => ?_) (fun hc83 => ?_)
      · exact absurd hc83 (by omega)
      refine R_aload_n dX12_needs_86 rfl ?_
      refine R_getR _ (hr _ _ _ rfl) fd12_67 kf12_155 rfl dX12_needs_87 ?_
      refine R_iload dX12_needs_90 rfl ?_
      refine R_zald rfl (by omega) (by omega) dX12_needs_92 ?_
      rw [q2, Int.toNat_natCast]
      refine R_if_ne 99 dX12_needs_93 (by decide) (fun hc93 => ?_) (fun hc93 => ?_)
      · have hx1 : g 117 x = 1 := by omega
        refine body a ha x (by omega) g' b5 b6 _ _ _ q1 hcase (fun p' hst b8 b9 b10 => next _ _ _ _ (fun c' d1 d2 d3 d4 => by rw [up2_ne d4]; exact q1 c' d1 d2 d3 d4) (by rw [up2_ne (by decide)]; exact q2) (fun y hy => ?_)) (fun hst b8 b9 b10 => next _ _ _ _ q1 q2 (fun y hy => ⟨(q3 y hy).1, (q3 y hy).2.trans ⟨?_, ?_⟩⟩))
        · by_cases e : y = enc a p'
          · rw [e, up2_s]
            exact ⟨Or.inr rfl, ⟨fun _ => Or.inr ⟨x, by omega, hx1, p', hst, rfl⟩, fun _ => rfl⟩⟩
          · rw [up2_k e]
            refine ⟨(q3 y hy).1, (q3 y hy).2.trans ⟨?_, ?_⟩⟩
            · rintro (h | ⟨x0, a1, a2⟩)
              · exact Or.inl h
              · exact Or.inr ⟨x0, by omega, a2⟩
            · rintro (h | ⟨x0, a1, a2, p2, a3, a4⟩)
              · exact Or.inl h
              · by_cases e2 : x0 = x
                · subst e2; rw [hst] at a3; have := Option.some.inj a3; subst this; exact absurd a4 e
                · exact Or.inr ⟨x0, by omega, a2, p2, a3, a4⟩
        · rintro (h | ⟨x0, a1, a2⟩)
          · exact Or.inl h
          · exact Or.inr ⟨x0, by omega, a2⟩
        · rintro (h | ⟨x0, a1, a2, p2, a3, a4⟩)
          · exact Or.inl h
          · by_cases e2 : x0 = x
            · subst e2; rw [hst] at a3; cases a3
            · exact Or.inr ⟨x0, by omega, a2, p2, a3, a4⟩
      · refine R_goto 260 dX12_needs_96 (by decide) ?_
        refine next g' _ _ _ q1 q2 (fun y hy => ⟨(q3 y hy).1, (q3 y hy).2.trans ⟨?_, ?_⟩⟩)
        · rintro (h | ⟨x0, a1, a2⟩)
          · exact Or.inl h
          · exact Or.inr ⟨x0, by omega, a2⟩
        · rintro (h | ⟨x0, a1, a2, a3⟩)
          · exact Or.inl h
          · by_cases e2 : x0 = x
            · subst e2; omega
            · exact Or.inr ⟨x0, by omega, a2, a3⟩
  have loop2 : ∀ (n a : Nat) (g' : GG) (ls : List (Option AV)), ls.length = 7 → a + n = 6 → (∀ c', c' ≠ 104 → c' ≠ 105 → c' ≠ 117 → c' ≠ 118 → g' c' = g c') → g' 117 = g 117 → (∀ y, y < 1734 → (g' 118 y = 0 ∨ g' 118 y = 1) ∧ (g' 118 y = 1 ↔ (y / 289 < a ∧ ∃ a0 p0, a0 ≤ y / 289 ∧ CB a0 p0 ∧ stM (vM g) c l k (A k (y / 289)) p0 = some (y / 17 % 17, y % 17)))) → RJ (mX12_needs (rmD 5 0 0)) 0 0 shW.length Q 0 0 shW 24 (some (vR (some 74)) :: some (vI (k : Int)) :: some (vI sex) :: some (vI (a : Int)) :: ls) [] g' z r := by
    intro n
    induction n with
    | zero =>
      intro a g' ls hls hx q1 q2 q3
      obtain ⟨b4, b5, b6, b7, b8, b9, b10, rfl⟩ : ∃ b4 b5 b6 b7 b8 b9 b10, ls = [b4, b5, b6, b7, b8, b9, b10] := by
        match ls, hls with
        | [b4, b5, b6, b7, b8, b9, b10], _ => exact ⟨_, _, _, _, _, _, _, rfl⟩
      refine R_iload_n dX12_needs_24 rfl ?_
      refine R_iconst dX12_needs_25 rfl rfl ?_
      refine R_icmp_gt 272 dX12_needs_26 (by decide) (fun hc26 => ?_) (fun hc26 => ?_)
      · refine R_iconst dX12_needs_272 rfl rfl ?_
        refine R_istore_n dX12_needs_273 (by decide) rfl [_, _, _, _, _, _, _, _, _, _, _] rfl ?_
        refine loop4 1734 0 g' _ rfl (by omega) q1 (fun y hy => ⟨(q3 y hy).1, (q3 y hy).2.trans ⟨fun h => ⟨by omega, h.2⟩, fun h => ⟨by omega, h.2⟩⟩⟩) (fun y hy => absurd hy (by omega))
      · exact absurd (by omega) hc26
    | succ n ih =>
      intro a g' ls hls hx q1 q2 q3
      obtain ⟨b4, b5, b6, b7, b8, b9, b10, rfl⟩ : ∃ b4 b5 b6 b7 b8 b9 b10, ls = [b4, b5, b6, b7, b8, b9, b10] := by
        match ls, hls with
        | [b4, b5, b6, b7, b8, b9, b10], _ => exact ⟨_, _, _, _, _, _, _, rfl⟩
      obtain ⟨k1, k2, k3, k4, k5⟩ := hcong g' q1
      refine R_iload_n dX12_needs_24 rfl ?_
      refine R_iconst dX12_needs_25 rfl rfl ?_
      refine R_icmp_gt 272 dX12_needs_26 (by decide) (fun hc26 => ?_) (fun hc26 => ?_)
      · exact absurd hc26 (by omega)
      refine R_aload_n dX12_needs_29 rfl ?_
      refine R_iload_n dX12_needs_30 rfl ?_
      refine R_iload_n dX12_needs_31 rfl ?_
      refine R_callV (m_letterOf hr k4 K k5 c hc6 (by rw [k3]; exact hgc) l k2 hm10 hll k hk a (by omega) (by rw [k3]; exact hA) (by rw [k3]; exact hA2)) (mvX12_letterOf _) kiX12_letterOf kvX12_letterOf km12_370 rfl rfl (by decide) ⟨rfl, rfl, by decide, by decide⟩ (Nat.le_of_ble_eq_true rfl) dX12_needs_32 (fun v1 sh1 g1 z1 r1 hq => ?_)
      obtain ⟨⟨rfl, o1⟩, rfl, rfl, rfl⟩ := hq
      rw [k1, k3, hAd]
      have t1 : ∀ c', c' ≠ 104 → c' ≠ 105 → c' ≠ 117 → c' ≠ 118 → g1 c' = g c' := fun c' a b d e => (o1 c' a b).trans (q1 c' a b d e)
      have t2 : g1 117 = g 117 := (o1 117 (by decide) (by decide)).trans q2
      have t3 : g1 118 = g' 118 := o1 118 (by decide) (by decide)
      obtain ⟨m1, m2, m3, m4, m5⟩ := hcong g1 t1
      have done : ∀ (b5 b6 : Int) (b7 b8 b9 b10 : Option AV), (A k a = -1 ∧ b5 = -1 ∧ b6 = -1 ∨ ∃ q : Nat, A k a = (q : Int) ∧ q < 8 ∧ b5 = (if q < 4 then (q : Int) else -1) ∧ b6 = toldS (vM g) c l k q ∧ (4 ≤ q → b6 ≠ -1)) → RJ (mX12_needs (rmD 5 0 0)) 0 0 shW.length Q 0 0 shW 74 [some (vR (some 74)), some (vI (k : Int)), some (vI sex), some (vI (a : Int)), some (vI (chL (A k a))), some (vI b5), some (vI b6), some (vI 0), b8, b9, b10] [] g1 z r := by
        intro b5 b6 b7 b8 b9 b10 hcase
        refine inner a (by omega) b5 b6 hcase (fun g2 b7 b8 b9 b10 w1 w2 w3 => ?_) (289 * (a + 1)) 0 g1 _ _ _ (by omega) t1 t2 (fun y hy => by rw [t3]; exact ⟨(q3 y hy).1, (q3 y hy).2.trans ⟨Or.inl, fun h => by rcases h with h | ⟨x0, a1, -⟩; exact h; exact absurd a1 (by omega)⟩⟩)
        refine R_iincN dX12_needs_266 rfl (by decide) rfl (by unfold inI; omega) [_, _, _, _, _, _, _, _, _, _, _] rfl ?_
        refine R_goto 24 dX12_needs_269 (by decide) ?_
        refine ih (a + 1) g2 _ rfl (by omega) w1 w2 (fun y hy => ⟨(w3 y hy).1, (w3 y hy).2.trans ⟨?_, ?_⟩⟩)
        · rintro (⟨h1, h2⟩ | ⟨x0, a1, a2, p', a3, a4⟩)
          · exact ⟨by omega, h2⟩
          · have hb := (hcan x0 (by omega)).2.mp a2
            obtain ⟨pb1, pb2⟩ := stb _ _ _ a3 (by simp only; omega) (by simp only; omega)
            have hy1 : y / 289 = a := by rw [a4]; unfold enc; omega
            refine ⟨by omega, x0 / 289, (x0 / 17 % 17, x0 % 17), by omega, hb, ?_⟩
            rw [hy1, a3]
            congr 1
            apply Prod.ext
            · simp only; rw [a4]; unfold enc; omega
            · simp only; rw [a4]; unfold enc; omega
        · rintro ⟨h1, a0, p0, h2, h3, h4⟩
          by_cases e : y / 289 < a
          · exact Or.inl ⟨e, a0, p0, h2, h3, h4⟩
          · have hy1 : y / 289 = a := by omega
            obtain ⟨c5, c1, c2⟩ := hCB a0 p0 h3
            have hx0 : enc a0 p0 < 1734 := by unfold enc; omega
            have d1 : enc a0 p0 / 289 = a0 := by unfold enc; omega
            have d2 : (enc a0 p0 / 17 % 17, enc a0 p0 % 17) = p0 := by
              apply Prod.ext
              · simp only; unfold enc; omega
              · simp only; unfold enc; omega
            refine Or.inr ⟨enc a0 p0, by unfold enc; omega, (hcan _ hx0).2.mpr (by rw [d1, d2]; exact h3), (y / 17 % 17, y % 17), by rw [d2, ← hy1]; exact h4, ?_⟩
            unfold enc
            simp only
            omega
      rcases hA0 a hk with hneg | ⟨q, hq, q8, q4, q5⟩
      · have hc0 : chL (A k a) = 0 := (chL_z (hl8 a)).mpr hneg
        refine R_istore dX12_needs_35 (by decide) rfl [_, _, _, _, _, _, _, _, _, _, _] rfl ?_
        refine R_iload dX12_needs_37 rfl ?_
        refine R_if_ne 46 dX12_needs_39 (by decide) (fun hc39 => ?_) (fun hc39 => ?_)
        · exact absurd hc0 hc39
        refine R_iconst dX12_needs_42 rfl rfl ?_
        refine R_goto 51 dX12_needs_43 (by decide) ?_
        refine R_istore dX12_needs_51 (by decide) rfl [_, _, _, _, _, _, _, _, _, _, _] rfl ?_
        refine R_iload dX12_needs_53 rfl ?_
        refine R_if_ne 62 dX12_needs_55 (by decide) (fun hc55 => ?_) (fun hc55 => ?_)
        · exact absurd hc0 hc55
        refine R_iconst dX12_needs_58 rfl rfl ?_
        refine R_goto 69 dX12_needs_59 (by decide) ?_
        refine R_istore dX12_needs_69 (by decide) rfl [_, _, _, _, _, _, _, _, _, _, _] rfl ?_
        refine R_iconst dX12_needs_71 rfl rfl ?_
        refine R_istore dX12_needs_72 (by decide) rfl [_, _, _, _, _, _, _, _, _, _, _] rfl ?_
        exact done (-1) (-1) none _ _ _ (Or.inl ⟨hneg, rfl, rfl⟩)
      · have hc0 : chL (A k a) ≠ 0 := fun e => by have := (chL_z (hl8 a)).mp e; omega
        refine R_istore dX12_needs_35 (by decide) rfl [_, _, _, _, _, _, _, _, _, _, _] rfl ?_
        refine R_iload dX12_needs_37 rfl ?_
        refine R_if_ne 46 dX12_needs_39 (by decide) (fun hc39 => ?_) (fun hc39 => ?_)
        · refine R_iload dX12_needs_46 rfl ?_
          refine R_callS (m_parentBy (chL (A k a))) (mvX12_parentBy _) ksX12_parentBy km12_357 ⟨rfl, rfl, by decide, by decide⟩ (Nat.le_of_ble_eq_true rfl) dX12_needs_48 (fun v1 sh1 g1 z1 r1 hq => ?_)
          obtain ⟨rfl, rfl, rfl, rfl, rfl⟩ := hq
          rw [pbM_ch (hl8 a)]
          refine R_istore dX12_needs_51 (by decide) rfl [_, _, _, _, _, _, _, _, _, _, _] rfl ?_
          refine R_iload dX12_needs_53 rfl ?_
          refine R_if_ne 62 dX12_needs_55 (by decide) (fun hc55 => ?_) (fun hc55 => ?_)
          · refine R_aload_n dX12_needs_62 rfl ?_
            refine R_iload dX12_needs_63 rfl ?_
            refine R_iload_n dX12_needs_65 rfl ?_
            rw [hq]
            refine R_callV (m_told hr m4 c hc6 (by rw [m3]; exact hgc) l m2 hm10 hll k hk q q8 (fun e => by rw [m1]; subst e; exact hl7 a hq)) (mvX12_told _) kiX12_told kvX12_told km12_373 rfl rfl (by decide) ⟨rfl, rfl, by decide, by decide⟩ (Nat.le_of_ble_eq_true rfl) dX12_needs_66 (fun v1 sh1 g1 z1 r1 hq => ?_)
            obtain ⟨rfl, rfl, rfl, rfl, rfl⟩ := hq
            rw [m1]
            refine R_istore dX12_needs_69 (by decide) rfl [_, _, _, _, _, _, _, _, _, _, _] rfl ?_
            refine R_iconst dX12_needs_71 rfl rfl ?_
            refine R_istore dX12_needs_72 (by decide) rfl [_, _, _, _, _, _, _, _, _, _, _] rfl ?_
            have := done (if 0 ≤ (q : Int) ∧ (q : Int) < 4 then (q : Int) else -1) (toldS (vM g) c l k q) none b8 b9 b10 (Or.inr ⟨q, hq, q8, by by_cases e : q < 4; rw [if_pos e, if_pos (by omega)]; rw [if_neg e, if_neg (by omega)], rfl, fun e => by have := q5 e; omega⟩)
            rw [hq] at this
            exact this
          · exact absurd hc55 hc0
        · exact absurd hc39 hc0
  have loop1 : ∀ (n x : Nat) (g' : GG) (ls : List (Option AV)), ls.length = 7 → x + n = 1734 → (∀ c', c' ≠ 118 → g' c' = g c') → (∀ y, y < x → g' 118 y = 0) → RJ (mX12_needs (rmD 5 0 0)) 0 0 shW.length Q 0 0 shW 2 (some (vR (some 74)) :: some (vI (k : Int)) :: some (vI sex) :: some (vI (x : Int)) :: ls) [] g' z r := by
    intro n
    induction n with
    | zero =>
      intro x g' ls hls hx q1 q2
      obtain ⟨b4, b5, b6, b7, b8, b9, b10, rfl⟩ : ∃ b4 b5 b6 b7 b8 b9 b10, ls = [b4, b5, b6, b7, b8, b9, b10] := by
        match ls, hls with
        | [b4, b5, b6, b7, b8, b9, b10], _ => exact ⟨_, _, _, _, _, _, _, rfl⟩
      refine R_iload_n dX12_needs_2 rfl ?_
      refine R_sipush dX12_needs_3 rfl (by decide +kernel) ?_
      refine R_icmp_ge 22 dX12_needs_6 (by decide) (fun hc6 => ?_) (fun hc6 => ?_)
      · refine R_iconst dX12_needs_22 rfl rfl ?_
        refine R_istore_n dX12_needs_23 (by decide) rfl [_, _, _, _, _, _, _, _, _, _, _] rfl ?_
        exact loop2 6 0 g' _ rfl (by omega) (fun c' _ _ _ d => q1 c' d) (q1 117 (by decide)) (fun y hy => by rw [q2 y (by omega)]; exact ⟨Or.inl rfl, ⟨fun h => absurd h (by decide), fun h => absurd h.1 (by omega)⟩⟩)
      · exact absurd (by omega) hc6
    | succ n ih =>
      intro x g' ls hls hx q1 q2
      obtain ⟨b4, b5, b6, b7, b8, b9, b10, rfl⟩ : ∃ b4 b5 b6 b7 b8 b9 b10, ls = [b4, b5, b6, b7, b8, b9, b10] := by
        match ls, hls with
        | [b4, b5, b6, b7, b8, b9, b10], _ => exact ⟨_, _, _, _, _, _, _, rfl⟩
      refine R_iload_n dX12_needs_2 rfl ?_
      refine R_sipush dX12_needs_3 rfl (by decide +kernel) ?_
      refine R_icmp_ge 22 dX12_needs_6 (by decide) (fun hc6 => ?_) (fun hc6 => ?_)
      · exact absurd hc6 (by omega)
      refine R_aload_n dX12_needs_9 rfl ?_
      refine R_getR _ (hr _ _ _ rfl) fd12_68 kf12_158 rfl dX12_needs_10 ?_
      refine R_iload_n dX12_needs_13 rfl ?_
      refine R_iconst dX12_needs_14 rfl rfl ?_
      refine R_zast rfl (by first | exact Or.inl rfl | exact Or.inr rfl | omega) (by omega) (by omega) dX12_needs_15 ?_
      refine R_iincN dX12_needs_16 rfl (by decide) rfl (by unfold inI; omega) [_, _, _, _, _, _, _, _, _, _, _] rfl ?_
      refine R_goto 2 dX12_needs_19 (by decide) ?_
      rw [Int.toNat_natCast]
      refine ih (x + 1) _ _ rfl (by omega) (fun c' d => by rw [up2_ne d]; exact q1 c' d) (fun y hy => ?_)
      by_cases e : y = x
      · subst e; rw [up2_s]
      · rw [up2_k e]; exact q2 y (by omega)
  refine R_iconst dX12_needs_0 rfl rfl ?_
  refine R_istore_n dX12_needs_1 (by decide) rfl [_, _, _, _, _, _, _, _, _, _, _] rfl ?_
  exact loop1 1734 0 g _ rfl (by omega) (fun _ _ => rfl) (fun y hy => absurd hy (by omega))
end MNEEDS
