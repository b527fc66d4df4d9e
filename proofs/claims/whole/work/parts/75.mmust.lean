/-- NAMES of parents and COUPLES are NAMES of their SEX -/
def VN (g : GG) : Prop := (∀ c : Nat, (c : Int) < g 74 3 → (0 ≤ g 78 c ∧ g 78 c < g 74 2 ∧ g 76 (g 78 c).toNat = 0) ∧ (0 ≤ g 79 c ∧ g 79 c < g 74 2 ∧ g 76 (g 79 c).toNat = 1)) ∧ ∀ c w : Nat, (c : Int) < g 74 3 → w < 4 → g 82 (c * 4 + w) = -1 ∨ (0 ≤ g 82 (c * 4 + w) ∧ g 82 (c * 4 + w) < g 74 2 ∧ g 76 (g 82 (c * 4 + w)).toNat = ((w % 2 : Nat) : Int))
section MMUST
variable {g z : GG} {r : RR}
theorem PH_m {K : Nat → CUS} (H : MP g r K) (hV : VN g) (c : Nat) (hc : (c : Int) < g 74 3) (l : List Nat) (hm : ∀ a ∈ l, (a : Int) < g 74 4) : PH (vM g) c l (ltA (vM g) K (g 74 5) (g 74 6) (g 74 7) c l) := by
  obtain ⟨hr, hB, hB2, hK⟩ := id H
  refine ⟨fun j x hj => ?_, fun j hj => ?_, fun w hw => hV.2 c w hc hw, fun x hx => ?_⟩
  · have hl8 := ltA_lt (s := vM g) (K := K) (fun k hk => kmK_8 hK hk) (a := g 74 5) (b := g 74 6) (Y := g 74 7) (c := c) (l := l) (j := j) (x := x)
    by_cases hneg : ltA (vM g) K (g 74 5) (g 74 6) (g 74 7) c l j x = -1
    · exact Or.inl hneg
    · obtain ⟨q, hq⟩ : ∃ q : Nat, ltA (vM g) K (g 74 5) (g 74 6) (g 74 7) c l j x = (q : Int) := ⟨(ltA (vM g) K (g 74 5) (g 74 6) (g 74 7) c l j x).toNat, by omega⟩
      have hbit := ltA_bit hq
      refine Or.inr ⟨q, hq, by omega, fun q4 => thS_par (by have := hB.2.2.1 (g 83 (l.getD j 0)).toNat; exact this) hbit q4, fun q4 => ?_⟩
      have hv := (hV.1 c hc)
      rcases (show q = 4 ∨ q = 5 ∨ q = 6 ∨ q = 7 by omega) with rfl | rfl | rfl | rfl
      · exact hv.1.1
      · exact hv.2.1
      · have h1 := thS_6 hbit
        have h2 := hB2.2.2.1 (l.getD j 0)
        have h3 : (vM g) 12 (l.getD j 0) = g 87 (l.getD j 0) := rfl
        show 0 ≤ (vM g) 12 (l.getD j 0)
        omega
      · have h1 := thS_7 hbit
        show 0 ≤ ddN (vM g) (l.getD j 0) (l.take j)
        have h2 : -1 ≤ ddN (vM g) (l.getD j 0) (l.take j) := by
          unfold ddN
          split
          · rename_i e _; have := (hB.2.1 e).1; have : (vM g) 8 e = g 83 e := rfl; omega
          · omega
        omega
  · have h1 := hB.2.1 (l.getD j 0)
    have h2 := hB2.2.2.2.2.2.2 _ (hm _ (getD_mem hj))
    exact ⟨h1.1, h1.2, h2⟩
  · have hv := (hV.1 c hc)
    rcases (show x = 0 ∨ x = 1 by omega) with rfl | rfl
    · exact ⟨(g 78 c).toNat, by show ((g 78 c).toNat : Int) < g 74 2; omega, hv.1.2.2⟩
    · exact ⟨(g 79 c).toNat, by show ((g 79 c).toNat : Int) < g 74 2; omega, hv.2.2.2⟩
theorem m_must_loop {Q : PQ} (K : Nat → CUS) (H : MP g r K) (c : Nat) (hc6 : c < 6) (hgc : g 74 45 = (c : Int)) (l : List Nat) (hl : FamM g l) (hm : ∀ a ∈ l, (a : Int) < g 74 4) (hll : l.length ≤ 10) (hA : -1 ≤ g 74 5 ∧ g 74 5 < 4) (hA2 : -1 ≤ g 74 6 ∧ g 74 6 < 4) (hP : PH (vM g) c l (ltA (vM g) K (g 74 5) (g 74 6) (g 74 7) c l)) (set : Int) (sex : Nat) (hsex : sex < 2)
    (hend : ∀ (g' : GG) (v : Int), SM4 g g' → v = (if 5 < muS (vM g) K (g 74 5) (g 74 6) (g 74 7) c l sex then -2 else (muS (vM g) K (g 74 5) (g 74 6) (g 74 7) c l sex : Int)) → Q (some (vI v)) shW g' z r) : RJ (mX12_must (rmD 8 0 0)) 0 0 shW.length Q 0 0 shW 40 [some (vR (some 74)), some (vI (c : Int)), some (vI set), some (vI (sex : Int)), some (vI 0)] [] g z r := by
  obtain ⟨hr, hB, hB2, hK⟩ := id H
  obtain ⟨mq1, mq2⟩ := must_eq hsex hP
  have hsound := CM_sound hP hsex
  have hm10 : ∀ a ∈ l, a < 10 := fun a ha => by have := hm a ha; have := hB2.2.2.2.2.2.1; omega
  generalize hmu : muS (vM g) K (g 74 5) (g 74 6) (g 74 7) c l sex = mu at *
  generalize hAd : ltA (vM g) K (g 74 5) (g 74 6) (g 74 7) c l = A at *
  have hcong : ∀ g' : GG, (∀ c', c' ≠ 104 → c' ≠ 105 → c' ≠ 117 → c' ≠ 118 → g' c' = g c') → vM g' = vM g ∧ FamM g' l ∧ g' 74 = g 74 ∧ MP g' r K ∧ SM4 g g' := by
    intro g' h
    have h74 := h 74 (by decide) (by decide) (by decide) (by decide)
    refine ⟨vM_cong (fun c a b => h c (by omega) (by omega) (by omega) (by omega)) (fun k a b => by rw [h74]), FamM_cong (by rw [h74]) (h 101 (by decide) (by decide) (by decide) (by decide)) hl, h74, ⟨hr, ?_, ?_, kmK_cong (fun c a b => h c (by omega) (by omega) (by omega) (by omega)) hK⟩, ⟨fun c' a b => h c' (by omega) (by omega) (by omega) (by omega), fun k a b => by rw [h74]⟩⟩
    · show _ ∧ _
      rw [h 84 (by decide) (by decide) (by decide) (by decide), h 83 (by decide) (by decide) (by decide) (by decide), h 76 (by decide) (by decide) (by decide) (by decide), h 80 (by decide) (by decide) (by decide) (by decide), h 77 (by decide) (by decide) (by decide) (by decide), h74]
      exact hB
    · show _ ∧ _
      rw [h 78 (by decide) (by decide) (by decide) (by decide), h 79 (by decide) (by decide) (by decide) (by decide), h 82 (by decide) (by decide) (by decide) (by decide), h 87 (by decide) (by decide) (by decide) (by decide), h 83 (by decide) (by decide) (by decide) (by decide), h74]
      exact hB2
  have loop3 : ∀ (n x : Nat) (g' : GG), x + n = 1734 → (∀ c', c' ≠ 104 → c' ≠ 105 → c' ≠ 117 → c' ≠ 118 → g' c' = g c') → (∀ y, y < 1734 → (g' 117 y = 0 ∨ g' 117 y = 1) ∧ (g' 117 y = 1 ↔ CM (vM g) A c l (sex : Int) l.length (y / 289) (y / 17 % 17, y % 17))) → (∀ y, y < x → g' 117 y ≠ 1) → RJ (mX12_must (rmD 8 0 0)) 0 0 shW.length Q 0 0 shW 128 [some (vR (some 74)), some (vI ((c : Int))), some (vI (set)), some (vI ((sex : Int))), some (vI ((x : Int)))] [] g' z r := by
    intro n
    have least : ∀ (g' : GG) (x : Nat), x ≤ 1734 → (∀ y, y < 1734 → (g' 117 y = 0 ∨ g' 117 y = 1) ∧ (g' 117 y = 1 ↔ CM (vM g) A c l (sex : Int) l.length (y / 289) (y / 17 % 17, y % 17))) → (∀ y, y < x → g' 117 y ≠ 1) → mu ≤ 5 → x ≤ 289 * mu + 288 := by
      intro g' x hx q2 q3 h5
      obtain ⟨p, hp⟩ := mq2 h5
      obtain ⟨-, ⟨p1, p2⟩, -⟩ := hsound l.length (Nat.le_refl _) mu p hp
      have b1 : p.1 ≤ 16 := by omega
      have b2 : p.2 ≤ 16 := by omega
      have he : enc mu p < 1734 := by unfold enc; omega
      have d1 : enc mu p / 289 = mu := by unfold enc; omega
      have d2 : (enc mu p / 17 % 17, enc mu p % 17) = p := by
        apply Prod.ext
        · simp only; unfold enc; omega
        · simp only; unfold enc; omega
      have h1 := (q2 _ he).2.mpr (by rw [d1, d2]; exact hp)
      by_cases hlt : enc mu p < x
      · exact absurd h1 (q3 _ hlt)
      · unfold enc at hlt; omega
    induction n with
    | zero =>
      intro x g' hx q1 q2 q3
      refine R_iload dX12_must_128 rfl ?_
      refine R_sipush dX12_must_130 rfl (by decide +kernel) ?_
      refine R_icmp_ge 159 dX12_must_133 (by decide) (fun hc133 => ?_) (fun hc133 => ?_)
      · refine R_bipush dX12_must_159 rfl (by decide +kernel) ?_
        refine R_ireturn rfl (by first | rfl | exact nar_b2i | exact nar_bi) (by decide) (by decide) dX12_must_161 ?_
        refine hend g' _ (hcong g' q1).2.2.2.2 ?_
        rw [if_pos]
        by_cases h5 : mu ≤ 5
        · have := least g' x (by omega) q2 q3 h5; omega
        · omega
      · exact absurd (by omega) hc133
    | succ n ih =>
      intro x g' hx q1 q2 q3
      have h01 := q2 x (by omega)
      refine R_iload dX12_must_128 rfl ?_
      refine R_sipush dX12_must_130 rfl (by decide +kernel) ?_
      refine R_icmp_ge 159 dX12_must_133 (by decide) (fun hc133 => ?_) (fun hc133 => ?_)
      · exact absurd hc133 (by omega)
      refine R_aload_n dX12_must_136 rfl ?_
      refine R_getR _ (hr _ _ _ rfl) fd12_67 kf12_155 rfl dX12_must_137 ?_
      refine R_iload dX12_must_140 rfl ?_
      refine R_zald rfl (by omega) (by omega) dX12_must_142 ?_
      rw [Int.toNat_natCast]
      refine R_if_eq 153 dX12_must_143 (by decide) (fun hc143 => ?_) (fun hc143 => ?_)
      · refine R_iincN dX12_must_153 rfl (by decide) rfl (by unfold inI; omega) [_, _, _, _, _] rfl ?_
        refine R_goto 128 dX12_must_156 (by decide) ?_
        refine ih (x + 1) g' (by omega) q1 q2 (fun y hy => ?_)
        by_cases e : y = x
        · subst e; omega
        · exact q3 y (by omega)
      · have h1 : g' 117 x = 1 := by omega
        have hcm := h01.2.mp h1
        have hle := mq1 _ _ hcm
        have h5 : mu ≤ 5 := by omega
        have hlx := least g' x (by omega) q2 q3 h5
        refine R_iload dX12_must_146 rfl ?_
        refine R_sipush dX12_must_148 rfl (by decide +kernel) ?_
        refine R_idiv dX12_must_151 (by decide) ?_
        rw [show bDiv (x : Int) 289 = ((x / 289 : Nat) : Int) from bDiv_n (m := x) (n := 289) (by omega) (by decide) (by decide)]
        refine R_ireturn rfl (by first | rfl | exact nar_b2i | exact nar_bi) (by decide) (by decide) dX12_must_152 ?_
        refine hend g' _ (hcong g' q1).2.2.2.2 ?_
        rw [if_neg (by omega)]
        omega
  have loop2 : ∀ (n k : Nat) (g' : GG), k + n = l.length → (∀ c', c' ≠ 104 → c' ≠ 105 → c' ≠ 117 → c' ≠ 118 → g' c' = g c') → (∀ y, y < 1734 → (g' 117 y = 0 ∨ g' 117 y = 1) ∧ (g' 117 y = 1 ↔ CM (vM g) A c l (sex : Int) k (y / 289) (y / 17 % 17, y % 17))) → RJ (mX12_must (rmD 8 0 0)) 0 0 shW.length Q 0 0 shW 82 [some (vR (some 74)), some (vI ((c : Int))), some (vI (set)), some (vI ((sex : Int))), some (vI ((k : Int)))] [] g' z r := by
    intro n
    induction n with
    | zero =>
      intro k g' hk q1 q2
      obtain ⟨k1, k2, k3, k4, k5⟩ := hcong g' q1
      obtain rfl : k = l.length := by omega
      refine R_iload dX12_must_82 rfl ?_
      refine R_aload_n dX12_must_84 rfl ?_
      refine R_getI fd12_46 kf12_321 rfl dX12_must_85 ?_
      rw [k2.1]
      refine R_icmp_ge 125 dX12_must_88 (by decide) (fun hc88 => ?_) (fun hc88 => ?_)
      · refine R_iconst dX12_must_125 rfl rfl ?_
        refine R_istore dX12_must_126 (by decide) rfl [_, _, _, _, _] rfl ?_
        exact loop3 1734 0 g' (by omega) q1 q2 (fun y hy => absurd hy (by omega))
      · exact absurd (by omega) hc88
    | succ n ih =>
      intro k g' hk q1 q2
      obtain ⟨k1, k2, k3, k4, k5⟩ := hcong g' q1
      have hkl : k < l.length := by omega
      have hi10 := hm10 _ (getD_mem hkl)
      have hgk := famM_at k2 hkl
      have hnk := hB.2.1 (l.getD k 0)
      have h83 : g' 83 = g 83 := q1 83 (by decide) (by decide) (by decide) (by decide)
      have h76 : g' 76 = g 76 := q1 76 (by decide) (by decide) (by decide) (by decide)
      have hsx : sx (vM g) (l.getD k 0) = g 76 (g 83 (l.getD k 0)).toNat := rfl
      have hn1 := fun g' => ih (k + 1) g' (by omega)
      unfold CM at hn1
      rw [hsx] at hn1
      refine R_iload dX12_must_82 rfl ?_
      refine R_aload_n dX12_must_84 rfl ?_
      refine R_getI fd12_46 kf12_321 rfl dX12_must_85 ?_
      rw [k2.1]
      refine R_icmp_ge 125 dX12_must_88 (by decide) (fun hc88 => ?_) (fun hc88 => ?_)
      · exact absurd hc88 (by omega)
      refine R_aload_n dX12_must_91 rfl ?_
      refine R_getR _ (hr _ _ _ rfl) fd12_10 kf12_29 rfl dX12_must_92 ?_
      refine R_aload_n dX12_must_95 rfl ?_
      refine R_getR _ (hr _ _ _ rfl) fd12_17 kf12_51 rfl dX12_must_96 ?_
      refine R_aload_n dX12_must_99 rfl ?_
      refine R_getR _ (hr _ _ _ rfl) fd12_47 kf12_105 rfl dX12_must_100 ?_
      refine R_iload dX12_must_103 rfl ?_
      refine R_iald rfl (by omega) (by omega) dX12_must_105 ?_
      rw [Int.toNat_natCast, hgk]
      refine R_iald rfl (by omega) (by omega) dX12_must_106 ?_
      rw [h83, Int.toNat_natCast]
      refine R_iald rfl (by omega) (by omega) dX12_must_107 ?_
      rw [h76]
      refine R_iload_n dX12_must_108 rfl ?_
      refine R_icmp_ne 119 dX12_must_109 (by decide) (fun hc109 => ?_) (fun hc109 => ?_)
      · simp only [if_neg hc109] at hn1
        refine R_iincN dX12_must_119 rfl (by decide) rfl (by unfold inI; omega) [_, _, _, _, _] rfl ?_
        refine R_goto 82 dX12_must_122 (by decide) ?_
        exact hn1 g' q1 q2
      · simp only [if_pos hc109] at hn1
        refine R_aload_n dX12_must_112 rfl ?_
        refine R_iload dX12_must_113 rfl ?_
        refine R_iload_n dX12_must_115 rfl ?_
        refine R_callV (m_needs K k4 c hc6 (by rw [k3]; exact hgc) l k2 (by rw [k3]; exact hm) hll (by rw [k3]; exact hA) (by rw [k3]; exact hA2) (by rw [k1, k3, hAd]; exact hP) k hkl (sex : Int) (CM (vM g) A c l (sex : Int) k) (fun a p hp => by obtain ⟨a1, ⟨a2, a3⟩, -⟩ := hsound k (by omega) a p hp; omega) q2) (mvX12_needs _) kiX12_needs kvX12_needs km12_448 rfl rfl (by decide) ⟨rfl, rfl, by decide, by decide⟩ (Nat.le_of_ble_eq_true rfl) dX12_must_116 (fun v1 sh1 g1 z1 r1 hq => ?_)
        obtain ⟨⟨rfl, o1, o2⟩, rfl, rfl, rfl⟩ := hq
        rw [k1, k3, hAd] at o2
        refine R_iincN dX12_must_119 rfl (by decide) rfl (by unfold inI; omega) [_, _, _, _, _] rfl ?_
        refine R_goto 82 dX12_must_122 (by decide) ?_
        exact hn1 g1 (fun c' a b d e => (o1 c' a b d e).trans (q1 c' a b d e)) o2
  have loop1 : ∀ (n x : Nat) (g' : GG), x + n = 1734 → (∀ c', c' ≠ 117 → g' c' = g c') → (∀ y, y < x → g' 117 y = if y = 288 then 1 else 0) → RJ (mX12_must (rmD 8 0 0)) 0 0 shW.length Q 0 0 shW 40 [some (vR (some 74)), some (vI ((c : Int))), some (vI (set)), some (vI ((sex : Int))), some (vI ((x : Int)))] [] g' z r := by
    intro n
    induction n with
    | zero =>
      intro x g' hx q1 q2
      refine R_iload dX12_must_40 rfl ?_
      refine R_sipush dX12_must_42 rfl (by decide +kernel) ?_
      refine R_icmp_ge 79 dX12_must_45 (by decide) (fun hc45 => ?_) (fun hc45 => ?_)
      · refine R_iconst dX12_must_79 rfl rfl ?_
        refine R_istore dX12_must_80 (by decide) rfl [_, _, _, _, _] rfl ?_
        refine loop2 l.length 0 g' (by omega) (fun c' _ _ d _ => q1 c' d) (fun y hy => ?_)
        rw [q2 y (by omega)]
        unfold CM
        by_cases e : y = 288
        · subst e
          refine ⟨Or.inr rfl, ⟨fun _ => ⟨rfl, rfl⟩, fun _ => rfl⟩⟩
        · rw [if_neg e]
          refine ⟨Or.inl rfl, ⟨fun h => absurd h (by decide), fun h => ?_⟩⟩
          have h1 := h.1
          have h2 : y / 17 % 17 = 16 := congrArg Prod.fst h.2
          have h3 : y % 17 = 16 := congrArg Prod.snd h.2
          omega
      · exact absurd (by omega) hc45
    | succ n ih =>
      intro x g' hx q1 q2
      have nx : ∀ (v : Int), v = (if x = 288 then 1 else 0) → RJ (mX12_must (rmD 8 0 0)) 0 0 shW.length Q 0 0 shW 72 [some (vR (some 74)), some (vI (c : Int)), some (vI set), some (vI (sex : Int)), some (vI (x : Int))] [vI v, vI (x : Int), vR (some 117)] g' z r := by
        intro v hv
        have hv01 : v = 0 ∨ v = 1 := by rw [hv]; split <;> simp
        refine R_zast rfl (by exact hv01) (by omega) (by omega) dX12_must_72 ?_
        refine R_iincN dX12_must_73 rfl (by decide) rfl (by unfold inI; omega) [_, _, _, _, _] rfl ?_
        refine R_goto 40 dX12_must_76 (by decide) ?_
        rw [Int.toNat_natCast]
        refine ih (x + 1) _ (by omega) (fun c' d => by rw [up2_ne d]; exact q1 c' d) (fun y hy => ?_)
        by_cases e : y = x
        · subst e; rw [up2_s]; exact hv
        · rw [up2_k e]; exact q2 y (by omega)
      refine R_iload dX12_must_40 rfl ?_
      refine R_sipush dX12_must_42 rfl (by decide +kernel) ?_
      refine R_icmp_ge 79 dX12_must_45 (by decide) (fun hc45 => ?_) (fun hc45 => ?_)
      · exact absurd hc45 (by omega)
      refine R_aload_n dX12_must_48 rfl ?_
      refine R_getR _ (hr _ _ _ rfl) fd12_67 kf12_155 rfl dX12_must_49 ?_
      refine R_iload dX12_must_52 rfl ?_
      refine R_iload dX12_must_54 rfl ?_
      refine R_iconst dX12_must_56 rfl rfl ?_
      refine R_bipush dX12_must_57 rfl (by decide +kernel) ?_
      refine R_bipush dX12_must_59 rfl (by decide +kernel) ?_
      refine R_callS (m_cellOf 0 16 16 (by omega) (by omega) (by omega)) (mvX12_cellOf _) ksX12_cellOf km12_445 ⟨rfl, rfl, by decide, by decide⟩ (Nat.le_of_ble_eq_true rfl) dX12_must_61 (fun v1 sh1 g1 z1 r1 hq => ?_)
      obtain ⟨rfl, rfl, rfl, rfl, rfl⟩ := hq
      rw [show enc 0 (16, 16) = 288 from rfl]
      refine R_icmp_ne 71 dX12_must_64 (by decide) (fun hc64 => ?_) (fun hc64 => ?_)
      · refine R_iconst dX12_must_71 rfl rfl ?_
        exact nx 0 (by rw [if_neg (by omega)])
      · refine R_iconst dX12_must_67 rfl rfl ?_
        refine R_goto 72 dX12_must_68 (by decide) ?_
        exact nx 1 (by rw [if_pos (by omega)])
  exact loop1 1734 0 g (by omega) (fun _ _ => rfl) (fun y hy => absurd hy (by omega))
theorem m_must (K : Nat → CUS) (H : MP g r K) (hV : VN g) (hA : -1 ≤ g 74 5 ∧ g 74 5 < 4) (hA2 : -1 ≤ g 74 6 ∧ g 74 6 < 4) (c set sex : Int) : CT (mX12_must (rmD 8 0 0)) 0 0 shW [vR (some 74), vI c, vI set, vI sex] g z r (qG shW z r fun v g' => SM4 g g' ∧ ((okCS (vM g) c set ∧ (0 ≤ sex ∧ sex ≤ 1) ∧ ∃ l, fam (vM g) c.toNat set.toNat = some l ∧ v = some (vI (if 5 < muS (vM g) K (g 74 5) (g 74 6) (g 74 7) c.toNat l sex.toNat then -2 else (muS (vM g) K (g 74 5) (g 74 6) (g 74 7) c.toNat l sex.toNat : Int)))) ∨ (¬ (okCS (vM g) c set ∧ (0 ≤ sex ∧ sex ≤ 1) ∧ (fam (vM g) c.toNat set.toNat).isSome = true) ∧ v = some (vI (-1))))) := by
  obtain ⟨hr, hB, hB2, hK⟩ := id H
  have hC := hB2.2.2.2.2.1
  have hF := hB2.2.2.2.2.2.1
  refine CT.of 1 rfl rfl ?_
  generalize hQ : (qG shW z r fun v g' => SM4 g g' ∧ ((okCS (vM g) c set ∧ (0 ≤ sex ∧ sex ≤ 1) ∧ ∃ l, fam (vM g) c.toNat set.toNat = some l ∧ v = some (vI (if 5 < muS (vM g) K (g 74 5) (g 74 6) (g 74 7) c.toNat l sex.toNat then -2 else (muS (vM g) K (g 74 5) (g 74 6) (g 74 7) c.toNat l sex.toNat : Int)))) ∨ (¬ (okCS (vM g) c set ∧ (0 ≤ sex ∧ sex ≤ 1) ∧ (fam (vM g) c.toNat set.toNat).isSome = true) ∧ v = some (vI (-1))))) = Q
  refine R_aload_n dX12_must_0 rfl ?_
  refine R_iload_n dX12_must_1 rfl ?_
  refine R_callV (m_isCouple hC c) (mvX12_isCouple _) kiX12_isCouple kvX12_isCouple km12_193 rfl rfl (by decide) ⟨rfl, rfl, by decide, by decide⟩ (Nat.le_of_ble_eq_true rfl) dX12_must_2 (fun v1 sh1 g1 z1 r1 hq => ?_)
  obtain ⟨rfl, rfl, rfl, rfl, rfl⟩ := hq
  refine R_if_eq 35 dX12_must_5 (by decide) (fun hc5 => ?_) (fun hc5 => ?_)
  · try simp only [b2i_z, bi_z, ne_eq, Classical.not_not] at hc5
    refine R_iconst dX12_must_35 rfl rfl ?_
    refine R_ireturn rfl (by first | rfl | exact nar_b2i | exact nar_bi) (by decide) (by decide) dX12_must_36 ?_
    rw [← hQ]; exact ⟨⟨SM.rfl.sm4, Or.inr ⟨fun q => by first | exact hc5 ⟨q.1.1, q.1.2.1⟩ | exact hc13 ⟨q.1.2.2.1, q.1.2.2.2⟩ | exact hc23 q.2.1, rfl⟩⟩, rfl, rfl, rfl⟩
  · try simp only [b2i_z, bi_z, ne_eq, Classical.not_not] at hc5
    refine R_aload_n dX12_must_8 rfl ?_
    refine R_iload_n dX12_must_9 rfl ?_
    refine R_callV (m_isSet hF set) (mvX12_isSet _) kiX12_isSet kvX12_isSet km12_391 rfl rfl (by decide) ⟨rfl, rfl, by decide, by decide⟩ (Nat.le_of_ble_eq_true rfl) dX12_must_10 (fun v1 sh1 g1 z1 r1 hq => ?_)
    obtain ⟨rfl, rfl, rfl, rfl, rfl⟩ := hq
    refine R_if_eq 35 dX12_must_13 (by decide) (fun hc13 => ?_) (fun hc13 => ?_)
    · try simp only [b2i_z, bi_z, ne_eq, Classical.not_not] at hc13
      refine R_iconst dX12_must_35 rfl rfl ?_
      refine R_ireturn rfl (by first | rfl | exact nar_b2i | exact nar_bi) (by decide) (by decide) dX12_must_36 ?_
      rw [← hQ]; exact ⟨⟨SM.rfl.sm4, Or.inr ⟨fun q => by first | exact hc5 ⟨q.1.1, q.1.2.1⟩ | exact hc13 ⟨q.1.2.2.1, q.1.2.2.2⟩ | exact hc23 q.2.1, rfl⟩⟩, rfl, rfl, rfl⟩
    · try simp only [b2i_z, bi_z, ne_eq, Classical.not_not] at hc13
      refine R_iload_n dX12_must_16 rfl ?_
      refine R_i2l dX12_must_17 ?_
      refine R_lconst dX12_must_18 ?_
      refine R_lconst dX12_must_19 ?_
      refine R_callS (m_lies _ _ _) (mvX12_lies _) ksX12_lies km12_164 ⟨rfl, rfl, by decide, by decide⟩ (Nat.le_of_ble_eq_true rfl) dX12_must_20 (fun v1 sh1 g1 z1 r1 hq => ?_)
      obtain ⟨rfl, rfl, rfl, rfl, rfl⟩ := hq
      refine R_if_eq 35 dX12_must_23 (by decide) (fun hc23 => ?_) (fun hc23 => ?_)
      · try simp only [b2i_z, bi_z, ne_eq, Classical.not_not] at hc23
        refine R_iconst dX12_must_35 rfl rfl ?_
        refine R_ireturn rfl (by first | rfl | exact nar_b2i | exact nar_bi) (by decide) (by decide) dX12_must_36 ?_
        rw [← hQ]; exact ⟨⟨SM.rfl.sm4, Or.inr ⟨fun q => by first | exact hc5 ⟨q.1.1, q.1.2.1⟩ | exact hc13 ⟨q.1.2.2.1, q.1.2.2.2⟩ | exact hc23 q.2.1, rfl⟩⟩, rfl, rfl, rfl⟩
      · try simp only [b2i_z, bi_z, ne_eq, Classical.not_not] at hc23
        have hok : okCS (vM g) c set := ⟨hc5.1, hc5.2, hc13.1, hc13.2⟩
        obtain ⟨cn, sn, rfl, rfl, h3, h4, h5⟩ := okCS_n (s := vM g) hF hok
        have h3' : (cn : Int) < g 74 3 := h3
        obtain ⟨sx', rfl, hsx⟩ : ∃ q : Nat, sex = (q : Int) ∧ q < 2 := ⟨sex.toNat, by omega, by omega⟩
        simp only [Int.toNat_natCast] at hQ
        refine R_aload_n dX12_must_26 rfl ?_
        refine R_iload_n dX12_must_27 rfl ?_
        refine R_iload_n dX12_must_28 rfl ?_
        refine R_callV (m_canFamily hr hB hF cn (by omega) sn h5) (mvX12_canFamily _) kiX12_canFamily kvX12_canFamily km12_394 rfl rfl (by decide) ⟨rfl, rfl, by decide, by decide⟩ (Nat.le_of_ble_eq_true rfl) dX12_must_29 (fun v1 sh1 g1 z1 r1 hq => ?_)
        obtain ⟨⟨rfl, s1, o2, o3⟩, rfl, rfl, rfl⟩ := hq
        by_cases hs : (fam (vM g) cn sn).isSome = true
        · rw [bi_t hs]
          have hfam := fam_m hs
          have hmem : ∀ a ∈ kM (g 84) sn (g 74 4).toNat, (a : Int) < g 74 4 := fun a ha => by have := (kM_mem.mp ha).1; omega
          have hlen : (kM (g 84) sn (g 74 4).toNat).length ≤ 10 := by have := kM_len (yr := g 84) (set := sn) (g 74 4).toNat; omega
          generalize hl' : kM (g 84) sn (g 74 4).toNat = l at *
          have hP : PH (vM g) cn l (ltA (vM g) K (g 74 5) (g 74 6) (g 74 7) cn l) := PH_m H hV cn h3' l hmem
          refine R_if_ne 37 dX12_must_32 (by decide) (fun hc32 => ?_) (fun hc32 => ?_)
          · refine R_iconst dX12_must_37 rfl rfl ?_
            refine R_istore dX12_must_38 (by decide) rfl [_, _, _, _, _] rfl ?_
            exact m_must_loop K (s1.MP H) cn (by omega) o2 l o3 (by rw [s1.2 4 (by decide) (by decide)]; exact hmem) hlen (by rw [s1.2 5 (by decide) (by decide)]; exact hA) (by rw [s1.2 6 (by decide) (by decide)]; exact hA2) (by rw [s1.vM, s1.2 5 (by decide) (by decide), s1.2 6 (by decide) (by decide), s1.2 7 (by decide) (by decide)]; exact hP) (sn : Int) sx' hsx (fun g' v s2 hv => by
              rw [s1.vM, s1.2 5 (by decide) (by decide), s1.2 6 (by decide) (by decide), s1.2 7 (by decide) (by decide)] at hv
              rw [← hQ]
              exact ⟨⟨s1.sm4.trans s2, Or.inl ⟨hok, by omega, l, hfam, by rw [hv]⟩⟩, rfl, rfl, rfl⟩)
          · exact absurd hc32 (by decide)
        · rw [bi_f hs]
          refine R_if_ne 37 dX12_must_32 (by decide) (fun hc32 => ?_) (fun hc32 => ?_)
          · exact absurd rfl hc32
          · refine R_iconst dX12_must_35 rfl rfl ?_
            refine R_ireturn rfl (by first | rfl | exact nar_b2i | exact nar_bi) (by decide) (by decide) dX12_must_36 ?_
            rw [← hQ]
            exact ⟨⟨s1.sm4, Or.inr ⟨fun q => hs q.2.2, rfl⟩⟩, rfl, rfl, rfl⟩
end MMUST
