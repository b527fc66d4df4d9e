theorem gainS_m {g : GG} (h : BM g) (i : Nat) (v : Int) : -100 ≤ gainS (vM g) i v ∧ gainS (vM g) i v ≤ 100 := by
  have h1 := h.2.2.2.2.1 ((vM g) 8 i).toNat
  have h2 : (vM g) 2 ((vM g) 8 i).toNat = g 77 ((vM g) 8 i).toNat := rfl
  have h3 : (vM g) 0 3 = g 74 8 := rfl
  have h4 := h.2.2.2.2.2
  unfold gainS
  rw [h2, h3]
  split
  · omega
  · split <;> omega
theorem gU_m {g : GG} (h : BM g) (L : Nat → Int) (l : List Nat) (w v : Int) (k : Nat) : -100 * (k : Int) ≤ gU (vM g) L l w v k ∧ gU (vM g) L l w v k ≤ 100 * (k : Int) := by
  induction k with
  | zero => simp [gU]
  | succ k ih =>
    unfold gU
    have := gainS_m h (l.getD k 0) v
    split <;> omega
theorem ptU_m {g : GG} (h : BM g) (L : Nat → Int) (c : Nat) (l : List Nat) (k : Nat) : -100 * (k : Int) ≤ ptU (vM g) L c l k ∧ ptU (vM g) L c l k ≤ 100 * (k : Int) := by
  induction k with
  | zero => simp [ptU]
  | succ k ih =>
    unfold ptU
    have := gainS_m h (l.getD k 0) (duS (vM g) L c l k)
    omega
theorem or_ne {a b : Nat} (h : a ≠ 0) : a ||| b ≠ 0 := by
  intro q
  apply h
  apply Nat.eq_of_testBit_eq
  intro i
  have := congrArg (fun x => Nat.testBit x i) q
  simp only [Nat.testBit_or, Nat.zero_testBit, Bool.or_eq_false_iff] at this
  rw [this.1, Nat.zero_testBit]
theorem nfA_ne {g : GG} (hB : BM g) {L : Nat → Int} {l : List Nat} (hll : l.length ≤ 10) {w : Nat} : ∀ n : Nat, ((nfA (vM g) L l w n).1 ≠ 0 ∧ -1000000 < (nfA (vM g) L l w n).2) ∨ (nfA (vM g) L l w n = (0, -1000000) ∧ ∀ v, v < n → (vM g) 1 v ≠ ((w % 2 : Nat) : Int)) := by
  intro n
  induction n with
  | zero => exact Or.inr ⟨rfl, fun v hv => absurd hv (by omega)⟩
  | succ n ih =>
    unfold nfA
    have hb := gU_m hB L l w n l.length
    have hp : (2 : Nat) ^ n ≠ 0 := by have : 0 < 2 ^ n := Nat.pow_pos (by decide); omega
    by_cases hs : (vM g) 1 n = ((w % 2 : Nat) : Int)
    · rw [if_pos hs]
      left
      simp only
      rcases ih with ⟨h1, h2⟩ | ⟨h1, h2⟩
      · refine ⟨?_, ?_⟩
        · split
          · exact hp
          · split
            · exact or_ne h1
            · exact h1
        · split <;> omega
      · rw [h1]
        simp only
        rw [if_pos (by omega), if_pos (by omega)]
        exact ⟨hp, by omega⟩
    · rw [if_neg hs]
      rcases ih with ⟨h1, h2⟩ | ⟨h1, h2⟩
      · exact Or.inl ⟨h1, h2⟩
      · refine Or.inr ⟨h1, fun v hv => ?_⟩
        by_cases e : v = n
        · subst e; exact hs
        · exact h2 v (by omega)
theorem lowF_ne {b : Nat} : ∀ (n k : Nat), b < 2 ^ (k + n) → lowF b n k = -1 → b < 2 ^ k ∨ ∀ i, k ≤ i → b.testBit i = false := by
  intro n
  induction n with
  | zero => intro k h _; exact Or.inl h
  | succ n ih =>
    intro k h hl
    unfold lowF at hl
    split at hl
    · omega
    · rename_i hb
      refine Or.inr (fun i hi => ?_)
      rcases ih (k + 1) (by rw [show k + 1 + n = k + (n + 1) by omega]; exact h) hl with q | q
      · by_cases e : i = k
        · subst e; exact Bool.eq_false_iff.mpr hb
        · exact Nat.testBit_lt_two_pow (Nat.lt_of_lt_of_le q (Nat.pow_le_pow_right (by decide) (by omega)))
      · by_cases e : i = k
        · subst e; exact Bool.eq_false_iff.mpr hb
        · exact q i (by omega)
theorem low_ne {b : Nat} (hb : b < 65536) (h0 : b ≠ 0) : low b ≠ -1 := by
  intro h
  rcases lowF_ne 16 0 hb h with q | q
  · omega
  · apply h0
    apply Nat.eq_of_testBit_eq
    intro i
    rw [q i (by omega), Nat.zero_testBit]
/-- further bounds of the reference -/
def BM2 (g : GG) : Prop := (∀ j, 0 ≤ g 78 j ∧ 0 ≤ g 79 j) ∧ (∀ j, -1 ≤ g 82 j) ∧ (∀ j, -1 ≤ g 87 j) ∧ (0 ≤ g 74 2 ∧ g 74 2 ≤ 16) ∧ (0 ≤ g 74 3 ∧ g 74 3 ≤ 6) ∧ (0 ≤ g 74 4 ∧ g 74 4 ≤ 10) ∧ (∀ j : Nat, (j : Int) < g 74 4 → g 83 j < g 74 2)
theorem SM.BM2 {g g' : GG} (h : SM g g') (hB : BM2 g) : BM2 g' := by
  show _ ∧ _
  rw [h.1 78 (by decide) (by decide), h.1 79 (by decide) (by decide), h.1 82 (by decide) (by decide), h.1 87 (by decide) (by decide), h.1 83 (by decide) (by decide), h.2 2 (by decide) (by decide), h.2 3 (by decide) (by decide), h.2 4 (by decide) (by decide)]
  exact hB
theorem SM.kmK {g g' : GG} {K : Nat → CUS} (h : SM g g') (hK : kmK g K) : kmK g' K := kmK_cong (fun c a b => h.1 c (by omega) (by omega)) hK
section MASK
variable {g z : GG} {r : RR}
theorem m_brings (hr : RS r) (hB : BM g) (l : List Nat) (hl : FamM g l) (hm : ∀ a ∈ l, a < 10) (hll : l.length ≤ 10) (L : Nat → Int) (hL : ∀ j, j < l.length → g 102 j = chL (L j) ∧ -1 ≤ L j ∧ L j < 8) (v w : Nat) (hw : w < 4) : CT (mX12_brings (rmD 2 0 0)) 0 0 shW [vR (some 74), vI (v : Int), vI (w : Int)] g z r (qP shW g z r (some (vI (gU (vM g) L l w v l.length)))) := by
  refine CT.of 2 rfl rfl ?_
  generalize hQ : (qP shW g z r (some (vI (gU (vM g) L l w v l.length)))) = Q
  have loop : ∀ (n k : Nat), k + n = l.length → RJ (mX12_brings (rmD 2 0 0)) 0 0 shW.length Q 0 0 shW 5 [some (vR (some 74)), some (vI ((v : Int))), some (vI ((w : Int))), some (vI (gU (vM g) L l w v k)), some (vI ((k : Int)))] [] g z r := by
    intro n
    induction n with
    | zero =>
      intro k hk
      refine R_iload dX12_brings_5 rfl ?_
      refine R_aload_n dX12_brings_7 rfl ?_
      refine R_getI fd12_46 kf12_321 rfl dX12_brings_8 ?_
      rw [hl.1]
      refine R_icmp_ge 40 dX12_brings_11 (by decide) (fun hc11 => ?_) (fun hc11 => ?_)
      · refine R_iload_n dX12_brings_40 rfl ?_
        refine R_ireturn rfl (by first | rfl | exact nar_b2i | exact nar_bi) (by decide) (by decide) dX12_brings_41 ?_
        rw [← hQ]
        exact ⟨by rw [show l.length = k by omega], rfl, rfl, rfl, rfl⟩
      · exact absurd (by omega) hc11
    | succ n ih =>
      intro k hk
      have hb := gU_m hB L l w v k
      have hb1 := gainS_m hB (l.getD k 0) v
      have hn := ih (k + 1) (by omega)
      rw [gU] at hn
      obtain ⟨l1, l2⟩ := hL k (by omega)
      refine R_iload dX12_brings_5 rfl ?_
      refine R_aload_n dX12_brings_7 rfl ?_
      refine R_getI fd12_46 kf12_321 rfl dX12_brings_8 ?_
      rw [hl.1]
      refine R_icmp_ge 40 dX12_brings_11 (by decide) (fun hc11 => ?_) (fun hc11 => ?_)
      · exact absurd hc11 (by omega)
      refine R_aload_n dX12_brings_14 rfl ?_
      refine R_iload dX12_brings_15 rfl ?_
      refine R_iload_n dX12_brings_17 rfl ?_
      refine R_callV (m_isBy hr L k (by omega) l1 l2 w hw) (mvX12_isBy _) kiX12_isBy kvX12_isBy km12_360 rfl rfl (by decide) ⟨rfl, rfl, by decide, by decide⟩ (Nat.le_of_ble_eq_true rfl) dX12_brings_18 (fun v1 sh1 g1 z1 r1 hq => ?_)
      obtain ⟨rfl, rfl, rfl, rfl, rfl⟩ := hq
      by_cases hlw : L k = (w : Int)
      · rw [if_pos hlw] at hn
        rw [bi_t (decide_eq_true hlw)]
        refine R_if_eq 34 dX12_brings_21 (by decide) (fun hc21 => ?_) (fun hc21 => ?_)
        · exact absurd hc21 (by decide)
        refine R_iload_n dX12_brings_24 rfl ?_
        refine R_aload_n dX12_brings_25 rfl ?_
        refine R_iload_n dX12_brings_26 rfl ?_
        refine R_iload dX12_brings_27 rfl ?_
        refine R_callV (m_pointsBy hr hB l hl hm hll k (by omega) (v : Int) (by omega)) (mvX12_pointsBy _) kiX12_pointsBy kvX12_pointsBy km12_363 rfl rfl (by decide) ⟨rfl, rfl, by decide, by decide⟩ (Nat.le_of_ble_eq_true rfl) dX12_brings_29 (fun v1 sh1 g1 z1 r1 hq => ?_)
        obtain ⟨rfl, rfl, rfl, rfl, rfl⟩ := hq
        refine R_iaddN dX12_brings_32 (by unfold inI; omega) ?_
        refine R_istore_n dX12_brings_33 (by decide) rfl [_, _, _, _, _] rfl ?_
        refine R_iincN dX12_brings_34 rfl (by decide) rfl (by unfold inI; omega) [_, _, _, _, _] rfl ?_
        refine R_goto 5 dX12_brings_37 (by decide) ?_
        exact hn
      · rw [if_neg hlw, Int.add_zero] at hn
        rw [bi_f (by rw [decide_eq_true_eq]; exact hlw)]
        refine R_if_eq 34 dX12_brings_21 (by decide) (fun hc21 => ?_) (fun hc21 => ?_)
        · refine R_iincN dX12_brings_34 rfl (by decide) rfl (by unfold inI; omega) [_, _, _, _, _] rfl ?_
          refine R_goto 5 dX12_brings_37 (by decide) ?_
          exact hn
        · exact absurd rfl hc21
  refine R_iconst dX12_brings_0 rfl rfl ?_
  refine R_istore_n dX12_brings_1 (by decide) rfl [_, _, _, _, _] rfl ?_
  refine R_iconst dX12_brings_2 rfl rfl ?_
  refine R_istore dX12_brings_3 (by decide) rfl [_, _, _, _, _] rfl ?_
  exact loop l.length 0 (by omega)
theorem m_bestNames (hr : RS r) (hB : BM g) (hB2 : BM2 g) (l : List Nat) (hl : FamM g l) (hm : ∀ a ∈ l, a < 10) (hll : l.length ≤ 10) (L : Nat → Int) (hL : ∀ j, j < l.length → g 102 j = chL (L j) ∧ -1 ≤ L j ∧ L j < 8) (w : Nat) (hw : w < 4) : CT (mX12_bestNames (rmD 3 0 0)) 0 0 shW [vR (some 74), vI (w : Int)] g z r (qP shW g z r (some (vI (nfS (vM g) L l w : Nat)))) := by
  refine CT.of 5 rfl rfl ?_
  generalize hQ : (qP shW g z r (some (vI (nfS (vM g) L l w : Nat)))) = Q
  have hN := hB2.2.2.2.1
  have e1 : (vM g) 0 0 = g 74 2 := rfl
  have hwb : bRem (w : Int) 2 = ((w % 2 : Nat) : Int) := bRem_n (m := w) (n := 2) (by omega) (by decide) (by decide)
  have inner : anyL L l.length w = true → ∀ (n v : Nat) (mo : Int) (a6 : Option AV), (v : Int) + n = g 74 2 → ((nfA (vM g) L l w v).1 ≠ 0 → mo = (nfA (vM g) L l w v).2) → RJ (mX12_bestNames (rmD 3 0 0)) 0 0 shW.length Q 0 0 shW 45 [some (vR (some 74)), some (vI (w : Int)), some (vI 1), some (vI ((nfA (vM g) L l w v).1 : Nat)), some (vI mo), some (vI (v : Int)), a6] [] g z r := by
    intro hany n
    induction n with
    | zero =>
      intro v mo a6 hv hmo
      refine R_iload dX12_bestNames_45 rfl ?_
      refine R_aload_n dX12_bestNames_47 rfl ?_
      refine R_getI fd12_2 kf12_161 rfl dX12_bestNames_48 ?_
      refine R_icmp_ge 124 dX12_bestNames_51 (by decide) (fun hc51 => ?_) (fun hc51 => ?_)
      · refine R_iload_n dX12_bestNames_124 rfl ?_
        refine R_ireturn rfl (by first | rfl | exact nar_b2i | exact nar_bi) (by decide) (by decide) dX12_bestNames_125 ?_
        rw [← hQ]
        exact ⟨by rw [nfS, if_pos hany, e1, show (g 74 2).toNat = v by omega], rfl, rfl, rfl, rfl⟩
      · exact absurd (by omega) hc51
    | succ n ih =>
      intro v mo a6 hv hmo
      have hlt := nfA_lt (s := vM g) (L := L) (l := l) (w := w) v
      have hp : 2 ^ v < 65536 := Nat.pow_lt_pow_right (n := 16) (by decide) (by omega)
      have hb := gU_m hB L l w v l.length
      have esx : (vM g) 1 v = g 76 v := rfl
      have hne := nfA_ne hB (L := L) hll (w := w) v
      have hn := fun mo a6 => ih (v + 1) mo a6 (by omega)
      rw [nfA, esx] at hn
      refine R_iload dX12_bestNames_45 rfl ?_
      refine R_aload_n dX12_bestNames_47 rfl ?_
      refine R_getI fd12_2 kf12_161 rfl dX12_bestNames_48 ?_
      refine R_icmp_ge 124 dX12_bestNames_51 (by decide) (fun hc51 => ?_) (fun hc51 => ?_)
      · exact absurd hc51 (by omega)
      refine R_iload_n dX12_bestNames_54 rfl ?_
      refine R_if_eq 124 dX12_bestNames_55 (by decide) (fun hc55 => ?_) (fun hc55 => ?_)
      · exact absurd hc55 (by decide)
      refine R_aload_n dX12_bestNames_58 rfl ?_
      refine R_getR _ (hr _ _ _ rfl) fd12_10 kf12_29 rfl dX12_bestNames_59 ?_
      refine R_iload dX12_bestNames_62 rfl ?_
      refine R_iald rfl (by omega) (by omega) dX12_bestNames_64 ?_
      rw [Int.toNat_natCast]
      refine R_iload_n dX12_bestNames_65 rfl ?_
      refine R_iconst dX12_bestNames_66 rfl rfl ?_
      refine R_irem dX12_bestNames_67 (by decide) ?_
      rw [hwb]
      refine R_icmp_eq 74 dX12_bestNames_68 (by decide) (fun hc68 => ?_) (fun hc68 => ?_)
      · rw [if_pos hc68] at hn
        simp only at hn
        refine R_aload_n dX12_bestNames_74 rfl ?_
        refine R_iload dX12_bestNames_75 rfl ?_
        refine R_iload_n dX12_bestNames_77 rfl ?_
        refine R_callV (m_brings hr hB l hl hm hll L hL v w hw) (mvX12_brings _) kiX12_brings kvX12_brings km12_367 rfl rfl (by decide) ⟨rfl, rfl, by decide, by decide⟩ (Nat.le_of_ble_eq_true rfl) dX12_bestNames_78 (fun v1 sh1 g1 z1 r1 hq => ?_)
        obtain ⟨rfl, rfl, rfl, rfl, rfl⟩ := hq
        have reset : (nfA (vM g) L l w v).2 < gU (vM g) L l w v l.length → ∀ a3 : Option AV, RJ (mX12_bestNames (rmD 3 0 0)) 0 0 shW.length Q 0 0 shW 94 [some (vR (some 74)), some (vI (w : Int)), some (vI 1), a3, some (vI mo), some (vI (v : Int)), some (vI (gU (vM g) L l w v l.length))] [] g z r := by
          intro hlt2 a3
          rw [if_pos hlt2, if_pos hlt2] at hn
          refine R_iconst dX12_bestNames_94 rfl rfl ?_
          refine R_istore_n dX12_bestNames_95 (by decide) rfl [_, _, _, _, _, _, _] rfl ?_
          refine R_iload dX12_bestNames_96 rfl ?_
          refine R_istore dX12_bestNames_98 (by decide) rfl [_, _, _, _, _, _, _] rfl ?_
          refine R_iload_n dX12_bestNames_100 rfl ?_
          refine R_iload dX12_bestNames_101 rfl ?_
          refine R_iload dX12_bestNames_103 rfl ?_
          refine R_icmp_ne 115 dX12_bestNames_105 (by decide) (fun hc105 => ?_) (fun hc105 => ?_)
          · exact absurd rfl hc105
          refine R_iconst dX12_bestNames_108 rfl rfl ?_
          refine R_iload dX12_bestNames_109 rfl ?_
          refine R_ishl dX12_bestNames_111 ?_
          rw [bShl_1 (by omega)]
          refine R_goto 116 dX12_bestNames_112 (by decide) ?_
          refine R_ior dX12_bestNames_116 ?_
          rw [show bOr 0 ((2 ^ v : Nat) : Int) = ((2 ^ v : Nat) : Int) by rw [show (0 : Int) = ((0 : Nat) : Int) from rfl, bOr_n (by decide) (by omega), Nat.zero_or]]
          refine R_istore_n dX12_bestNames_117 (by decide) rfl [_, _, _, _, _, _, _] rfl ?_
          refine R_iincN dX12_bestNames_118 rfl (by decide) rfl (by unfold inI; omega) [_, _, _, _, _, _, _] rfl ?_
          refine R_goto 45 dX12_bestNames_121 (by decide) ?_
          exact hn _ _ (fun _ => rfl)
        refine R_istore dX12_bestNames_81 (by decide) rfl [_, _, _, _, _, _, _] rfl ?_
        refine R_iload_n dX12_bestNames_83 rfl ?_
        refine R_if_eq 94 dX12_bestNames_84 (by decide) (fun hc84 => ?_) (fun hc84 => ?_)
        · refine reset ?_ _
          rcases hne with ⟨h1, h2⟩ | ⟨h1, h2⟩
          · exact absurd (by omega) h1
          · rw [h1]; simp only; omega
        · have hm2 : mo = (nfA (vM g) L l w v).2 := hmo (by omega)
          subst hm2
          refine R_iload dX12_bestNames_87 rfl ?_
          refine R_iload dX12_bestNames_89 rfl ?_
          refine R_icmp_le 100 dX12_bestNames_91 (by decide) (fun hc91 => ?_) (fun hc91 => ?_)
          · have hnl : ¬ (nfA (vM g) L l w v).2 < gU (vM g) L l w v l.length := by omega
            rw [if_neg hnl, if_neg hnl] at hn
            refine R_iload_n dX12_bestNames_100 rfl ?_
            refine R_iload dX12_bestNames_101 rfl ?_
            refine R_iload dX12_bestNames_103 rfl ?_
            refine R_icmp_ne 115 dX12_bestNames_105 (by decide) (fun hc105 => ?_) (fun hc105 => ?_)
            · rw [if_neg hc105] at hn
              refine R_iconst dX12_bestNames_115 rfl rfl ?_
              refine R_ior dX12_bestNames_116 ?_
              rw [show bOr (((nfA (vM g) L l w v).1 : Nat) : Int) 0 = (((nfA (vM g) L l w v).1 : Nat) : Int) by rw [show (0 : Int) = ((0 : Nat) : Int) from rfl, bOr_n (by omega) (by decide), Nat.or_zero]]
              refine R_istore_n dX12_bestNames_117 (by decide) rfl [_, _, _, _, _, _, _] rfl ?_
              refine R_iincN dX12_bestNames_118 rfl (by decide) rfl (by unfold inI; omega) [_, _, _, _, _, _, _] rfl ?_
              refine R_goto 45 dX12_bestNames_121 (by decide) ?_
              exact hn _ _ (fun _ => rfl)
            · rw [if_pos hc105] at hn
              refine R_iconst dX12_bestNames_108 rfl rfl ?_
              refine R_iload dX12_bestNames_109 rfl ?_
              refine R_ishl dX12_bestNames_111 ?_
              refine R_goto 116 dX12_bestNames_112 (by decide) ?_
              refine R_ior dX12_bestNames_116 ?_
              rw [or_bit (by omega) (by omega)]
              refine R_istore_n dX12_bestNames_117 (by decide) rfl [_, _, _, _, _, _, _] rfl ?_
              refine R_iincN dX12_bestNames_118 rfl (by decide) rfl (by unfold inI; omega) [_, _, _, _, _, _, _] rfl ?_
              refine R_goto 45 dX12_bestNames_121 (by decide) ?_
              exact hn _ _ (fun _ => rfl)
          · exact reset (by omega) _
      · rw [if_neg hc68] at hn
        refine R_goto 118 dX12_bestNames_71 (by decide) ?_
        refine R_iincN dX12_bestNames_118 rfl (by decide) rfl (by unfold inI; omega) [_, _, _, _, _, _, _] rfl ?_
        refine R_goto 45 dX12_bestNames_121 (by decide) ?_
        exact hn _ _ hmo
  have outer : ∀ (n k : Nat) (b : Bool), k + n = l.length → b = anyL L k w → RJ (mX12_bestNames (rmD 3 0 0)) 0 0 shW.length Q 0 0 shW 4 [some (vR (some 74)), some (vI ((w : Int))), some (vI (bi b)), some (vI ((k : Int))), none, none, none] [] g z r := by
    intro n
    induction n with
    | zero =>
      intro k b hk hb
      refine R_iload_n dX12_bestNames_4 rfl ?_
      refine R_aload_n dX12_bestNames_5 rfl ?_
      refine R_getI fd12_46 kf12_321 rfl dX12_bestNames_6 ?_
      rw [hl.1]
      refine R_icmp_ge 37 dX12_bestNames_9 (by decide) (fun hc9 => ?_) (fun hc9 => ?_)
      · refine R_iconst dX12_bestNames_37 rfl rfl ?_
        refine R_istore_n dX12_bestNames_38 (by decide) rfl [_, _, _, _, _, _, _] rfl ?_
        refine R_iconst dX12_bestNames_39 rfl rfl ?_
        refine R_istore dX12_bestNames_40 (by decide) rfl [_, _, _, _, _, _, _] rfl ?_
        refine R_iconst dX12_bestNames_42 rfl rfl ?_
        refine R_istore dX12_bestNames_43 (by decide) rfl [_, _, _, _, _, _, _] rfl ?_
        by_cases hany : anyL L l.length w = true
        · rw [hb, show k = l.length by omega, bi_t hany]
          exact inner hany (g 74 2).toNat 0 0 none (by omega) (fun q => absurd rfl q)
        · rw [hb, show k = l.length by omega, bi_f hany]
          have fin : ∀ ls, RJ (mX12_bestNames (rmD 3 0 0)) 0 0 shW.length Q 0 0 shW 124 (some (vR (some 74)) :: some (vI (w : Int)) :: some (vI 0) :: some (vI 0) :: ls) [] g z r := by
            intro ls
            refine R_iload_n dX12_bestNames_124 rfl ?_
            refine R_ireturn rfl (by first | rfl | exact nar_b2i | exact nar_bi) (by decide) (by decide) dX12_bestNames_125 ?_
            rw [← hQ]
            exact ⟨by rw [nfS, if_neg hany]; rfl, rfl, rfl, rfl, rfl⟩
          refine R_iload dX12_bestNames_45 rfl ?_
          refine R_aload_n dX12_bestNames_47 rfl ?_
          refine R_getI fd12_2 kf12_161 rfl dX12_bestNames_48 ?_
          refine R_icmp_ge 124 dX12_bestNames_51 (by decide) (fun hc51 => ?_) (fun hc51 => ?_)
          · exact fin _
          refine R_iload_n dX12_bestNames_54 rfl ?_
          refine R_if_eq 124 dX12_bestNames_55 (by decide) (fun hc55 => ?_) (fun hc55 => ?_)
          · exact fin _
          · exact absurd rfl hc55
      · exact absurd (by omega) hc9
    | succ n ih =>
      intro k b hk hb
      obtain ⟨l1, l2⟩ := hL k (by omega)
      have hk1 : anyL L (k + 1) w = (anyL L k w || decide (L k = (w : Int))) := by
        unfold anyL
        rw [List.range_succ, List.any_append]
        simp
      refine R_iload_n dX12_bestNames_4 rfl ?_
      refine R_aload_n dX12_bestNames_5 rfl ?_
      refine R_getI fd12_46 kf12_321 rfl dX12_bestNames_6 ?_
      rw [hl.1]
      refine R_icmp_ge 37 dX12_bestNames_9 (by decide) (fun hc9 => ?_) (fun hc9 => ?_)
      · exact absurd hc9 (by omega)
      cases b with
      | true =>
        refine R_iload_n dX12_bestNames_12 rfl ?_
        refine R_if_ne 25 dX12_bestNames_13 (by decide) (fun hc13 => ?_) (fun hc13 => ?_)
        · refine R_iconst dX12_bestNames_25 rfl rfl ?_
          refine R_goto 30 dX12_bestNames_26 (by decide) ?_
          refine R_istore_n dX12_bestNames_30 (by decide) rfl [_, _, _, _, _, _, _] rfl ?_
          refine R_iincN dX12_bestNames_31 rfl (by decide) rfl (by unfold inI; omega) [_, _, _, _, _, _, _] rfl ?_
          refine R_goto 4 dX12_bestNames_34 (by decide) ?_
          exact ih (k + 1) true (by omega) (by rw [hk1, ← hb]; rfl)
        · exact absurd hc13 (by decide)
      | false =>
        refine R_iload_n dX12_bestNames_12 rfl ?_
        refine R_if_ne 25 dX12_bestNames_13 (by decide) (fun hc13 => ?_) (fun hc13 => ?_)
        · exact absurd rfl hc13
        refine R_aload_n dX12_bestNames_16 rfl ?_
        refine R_iload_n dX12_bestNames_17 rfl ?_
        refine R_iload_n dX12_bestNames_18 rfl ?_
        refine R_callV (m_isBy hr L k (by omega) l1 l2 w hw) (mvX12_isBy _) kiX12_isBy kvX12_isBy km12_360 rfl rfl (by decide) ⟨rfl, rfl, by decide, by decide⟩ (Nat.le_of_ble_eq_true rfl) dX12_bestNames_19 (fun v1 sh1 g1 z1 r1 hq => ?_)
        obtain ⟨rfl, rfl, rfl, rfl, rfl⟩ := hq
        by_cases hlw : L k = (w : Int)
        · rw [bi_t (b := decide (L k = (w : Int))) (decide_eq_true hlw)]
          refine R_if_eq 29 dX12_bestNames_22 (by decide) (fun hc22 => ?_) (fun hc22 => ?_)
          · exact absurd hc22 (by decide)
          refine R_iconst dX12_bestNames_25 rfl rfl ?_
          refine R_goto 30 dX12_bestNames_26 (by decide) ?_
          refine R_istore_n dX12_bestNames_30 (by decide) rfl [_, _, _, _, _, _, _] rfl ?_
          refine R_iincN dX12_bestNames_31 rfl (by decide) rfl (by unfold inI; omega) [_, _, _, _, _, _, _] rfl ?_
          refine R_goto 4 dX12_bestNames_34 (by decide) ?_
          exact ih (k + 1) true (by omega) (by rw [hk1, ← hb]; simp [hlw])
        · rw [bi_f (b := decide (L k = (w : Int))) (by rw [decide_eq_true_eq]; exact hlw)]
          refine R_if_eq 29 dX12_bestNames_22 (by decide) (fun hc22 => ?_) (fun hc22 => ?_)
          · refine R_iconst dX12_bestNames_29 rfl rfl ?_
            refine R_istore_n dX12_bestNames_30 (by decide) rfl [_, _, _, _, _, _, _] rfl ?_
            refine R_iincN dX12_bestNames_31 rfl (by decide) rfl (by unfold inI; omega) [_, _, _, _, _, _, _] rfl ?_
            refine R_goto 4 dX12_bestNames_34 (by decide) ?_
            exact ih (k + 1) false (by omega) (by rw [hk1, ← hb]; simp [hlw])
          · exact absurd rfl hc22
  refine R_iconst dX12_bestNames_0 rfl rfl ?_
  refine R_istore_n dX12_bestNames_1 (by decide) rfl [_, _, _, _, _, _, _] rfl ?_
  refine R_iconst dX12_bestNames_2 rfl rfl ?_
  refine R_istore_n dX12_bestNames_3 (by decide) rfl [_, _, _, _, _, _, _] rfl ?_
  exact outer l.length 0 false (by omega) rfl
theorem m_lowestOf (b : Nat) (hb : b < 65536) (h0 : b ≠ 0) : CT (mX12_lowestOf (rmD 1 0 0)) 0 0 shW [vI (b : Int)] g z r (qP shW g z r (some (vI (low b)))) := by
  have hne := low_ne hb h0
  refine CT.of 1 rfl rfl ?_
  generalize hX : low b = X at *
  generalize hQ : (qP shW g z r (some (vI X))) = Q
  have loop : ∀ (n k : Nat), k + n = 16 → lowF b n k = X → RJ (mX12_lowestOf (rmD 1 0 0)) 0 0 shW.length Q 0 0 shW 2 [some (vI ((b : Int))), some (vI ((k : Int)))] [] g z r := by
    intro n
    induction n with
    | zero => intro k hk hx; exact absurd hx.symm hne
    | succ n ih =>
      intro k hk hx
      rw [lowF] at hx
      refine R_iload_n dX12_lowestOf_2 rfl ?_
      refine R_iload_n dX12_lowestOf_3 rfl ?_
      refine R_callS (m_has b k (by omega) (by omega)) (mvX12_has _) ksX12_has km12_324 ⟨rfl, rfl, by decide, by decide⟩ (Nat.le_of_ble_eq_true rfl) dX12_lowestOf_4 (fun v1 sh1 g1 z1 r1 hq => ?_)
      obtain ⟨rfl, rfl, rfl, rfl, rfl⟩ := hq
      by_cases hbk : b.testBit k = true
      · rw [if_pos hbk] at hx
        rw [bi_t hbk]
        refine R_if_ne 16 dX12_lowestOf_7 (by decide) (fun hc7 => ?_) (fun hc7 => ?_)
        · refine R_iload_n dX12_lowestOf_16 rfl ?_
          refine R_ireturn rfl (by first | rfl | exact nar_b2i | exact nar_bi) (by decide) (by decide) dX12_lowestOf_17 ?_
          rw [← hQ]
          exact ⟨by rw [hx], rfl, rfl, rfl, rfl⟩
        · exact absurd hc7 (by decide)
      · rw [if_neg hbk] at hx
        rw [bi_f hbk]
        refine R_if_ne 16 dX12_lowestOf_7 (by decide) (fun hc7 => ?_) (fun hc7 => ?_)
        · exact absurd rfl hc7
        · refine R_iincN dX12_lowestOf_10 rfl (by decide) rfl (by unfold inI; omega) [_, _] rfl ?_
          refine R_goto 2 dX12_lowestOf_13 (by decide) ?_
          exact ih (k + 1) (by omega) hx
  refine R_iconst dX12_lowestOf_0 rfl rfl ?_
  refine R_istore_n dX12_lowestOf_1 (by decide) rfl [_, _] rfl ?_
  exact loop 16 0 (by omega) hX
end MASK
