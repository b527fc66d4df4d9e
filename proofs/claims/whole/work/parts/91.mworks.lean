def LOWN (o : Option Int) : Int := match o with
  | some w => w
  | none => -100000000
section MWORKS
variable {g z : GG} {r : RR}
theorem m_comes (hr : RS r) (S : Nat) (hS : S < 1024) (v n : Int) (hn : inL (z 113 S + n)) : CT (mX12_comes (rmD 0 0 0)) 0 0 shW [vR (some 74), vI (S : Int), vI v, vL n] g z r (qZ shW r fun x g' z' => x = none ∧ (∀ c', c' ≠ 111 → c' ≠ 112 → g' c' = g c') ∧ (∀ k, k ≠ S → g' 111 k = g 111 k ∧ g' 112 k = g 112 k) ∧ (∀ c', c' ≠ 113 → z' c' = z c') ∧ (∀ k, k ≠ S → z' 113 k = z 113 k) ∧ g' 111 S = (if g 111 S < v then v else g 111 S) ∧ g' 112 S = (if g 111 S < v then g 111 S else if v = g 111 S then g 112 S else if g 112 S < v then v else g 112 S) ∧ z' 113 S = (if g 111 S < v then n else if v = g 111 S then z 113 S + n else z 113 S)) := by
  refine CT.of 0 rfl rfl ?_
  refine R_iload_n dX12_comes_0 rfl ?_
  refine R_aload_n dX12_comes_1 rfl ?_
  refine R_getR _ (hr _ _ _ rfl) fd12_57 kf12_137 rfl dX12_comes_2 ?_
  refine R_iload_n dX12_comes_5 rfl ?_
  refine R_iald rfl (by omega) (by omega) dX12_comes_6 ?_
  try rw [Int.toNat_natCast]
  refine R_icmp_le 39 dX12_comes_7 (by decide) (fun hc7 => ?_) (fun hc7 => ?_)
  · refine R_iload_n dX12_comes_39 rfl ?_
    refine R_aload_n dX12_comes_40 rfl ?_
    refine R_getR _ (hr _ _ _ rfl) fd12_57 kf12_137 rfl dX12_comes_41 ?_
    refine R_iload_n dX12_comes_44 rfl ?_
    refine R_iald rfl (by omega) (by omega) dX12_comes_45 ?_
    try rw [Int.toNat_natCast]
    refine R_icmp_ne 62 dX12_comes_46 (by decide) (fun hc46 => ?_) (fun hc46 => ?_)
    · refine R_iload_n dX12_comes_62 rfl ?_
      refine R_aload_n dX12_comes_63 rfl ?_
      refine R_getR _ (hr _ _ _ rfl) fd12_58 kf12_140 rfl dX12_comes_64 ?_
      refine R_iload_n dX12_comes_67 rfl ?_
      refine R_iald rfl (by omega) (by omega) dX12_comes_68 ?_
      try rw [Int.toNat_natCast]
      refine R_icmp_le 79 dX12_comes_69 (by decide) (fun hc69 => ?_) (fun hc69 => ?_)
      · refine R_return rfl (by decide) (by decide) dX12_comes_79 ?_
        refine ⟨⟨rfl, fun _ _ _ => rfl, fun _ _ => ⟨rfl, rfl⟩, fun _ _ => rfl, fun _ _ => rfl, ?_, ?_, ?_⟩, rfl, rfl⟩
        · rw [if_neg (by omega)]
        · rw [if_neg (by omega), if_neg hc46, if_neg (by omega)]
        · rw [if_neg (by omega), if_neg hc46]
      · refine R_aload_n dX12_comes_72 rfl ?_
        refine R_getR _ (hr _ _ _ rfl) fd12_58 kf12_140 rfl dX12_comes_73 ?_
        refine R_iload_n dX12_comes_76 rfl ?_
        refine R_iload_n dX12_comes_77 rfl ?_
        refine R_iast rfl (by omega) (by omega) dX12_comes_78 ?_
        try rw [Int.toNat_natCast]
        refine R_return rfl (by decide) (by decide) dX12_comes_79 ?_
        refine ⟨⟨rfl, fun c' a b => up2_ne b, fun k hk => ⟨by rw [up2_ne (by decide)], up2_k hk⟩, fun _ _ => rfl, fun _ _ => rfl, ?_, ?_, ?_⟩, rfl, rfl⟩
        · rw [up2_ne (by decide), if_neg (by omega)]
        · rw [up2_s, if_neg (by omega), if_neg hc46, if_pos (by omega)]
        · rw [if_neg (by omega), if_neg hc46]
    · refine R_aload_n dX12_comes_49 rfl ?_
      refine R_getR _ (hr _ _ _ rfl) fd12_59 kf12_143 rfl dX12_comes_50 ?_
      refine R_iload_n dX12_comes_53 rfl ?_
      refine R_dup2 dX12_comes_54 (fun _ h => by cases h) (fun _ h => by cases h) ?_
      refine R_lald rfl (by omega) (by omega) dX12_comes_55 ?_
      try rw [Int.toNat_natCast]
      refine R_lload_n dX12_comes_56 rfl ?_
      refine R_laddN dX12_comes_57 hn ?_
      refine R_last rfl (by omega) (by omega) dX12_comes_58 ?_
      try rw [Int.toNat_natCast]
      refine R_goto 79 dX12_comes_59 (by decide) ?_
      refine R_return rfl (by decide) (by decide) dX12_comes_79 ?_
      refine ⟨⟨rfl, fun _ _ _ => rfl, fun _ _ => ⟨rfl, rfl⟩, fun c' a => up2_ne a, fun k hk => up2_k hk, ?_, ?_, ?_⟩, rfl, rfl⟩
      · rw [if_neg (by omega)]
      · rw [if_neg (by omega), if_pos hc46]
      · rw [up2_s, if_neg (by omega), if_pos hc46]
  · refine R_aload_n dX12_comes_10 rfl ?_
    refine R_getR _ (hr _ _ _ rfl) fd12_58 kf12_140 rfl dX12_comes_11 ?_
    refine R_iload_n dX12_comes_14 rfl ?_
    refine R_aload_n dX12_comes_15 rfl ?_
    refine R_getR _ (hr _ _ _ rfl) fd12_57 kf12_137 rfl dX12_comes_16 ?_
    refine R_iload_n dX12_comes_19 rfl ?_
    refine R_iald rfl (by omega) (by omega) dX12_comes_20 ?_
    try rw [Int.toNat_natCast]
    refine R_iast rfl (by omega) (by omega) dX12_comes_21 ?_
    try rw [Int.toNat_natCast]
    refine R_aload_n dX12_comes_22 rfl ?_
    refine R_getR _ (hr _ _ _ rfl) fd12_57 kf12_137 rfl dX12_comes_23 ?_
    try simp +decide only [up2_far, up2_s, up2_kk]
    refine R_iload_n dX12_comes_26 rfl ?_
    refine R_iload_n dX12_comes_27 rfl ?_
    refine R_iast rfl (by omega) (by omega) dX12_comes_28 ?_
    try rw [Int.toNat_natCast]
    refine R_aload_n dX12_comes_29 rfl ?_
    refine R_getR _ (hr _ _ _ rfl) fd12_59 kf12_143 rfl dX12_comes_30 ?_
    try simp +decide only [up2_far, up2_s, up2_kk]
    refine R_iload_n dX12_comes_33 rfl ?_
    refine R_lload_n dX12_comes_34 rfl ?_
    refine R_last rfl (by omega) (by omega) dX12_comes_35 ?_
    try rw [Int.toNat_natCast]
    refine R_goto 79 dX12_comes_36 (by decide) ?_
    refine R_return rfl (by decide) (by decide) dX12_comes_79 ?_
    refine ⟨⟨rfl, fun c' a b => by rw [up2_ne a, up2_ne b], fun k hk => ⟨by rw [up2_k hk, up2_ne (by decide)], by rw [up2_ne (by decide), up2_k hk]⟩, fun c' a => up2_ne a, fun k hk => up2_k hk, ?_, ?_, ?_⟩, rfl, rfl⟩
    · rw [up2_s, if_pos (by omega)]
    · rw [up2_ne (by decide), up2_s, if_pos (by omega)]
    · rw [up2_s, if_pos (by omega)]
theorem m_barred (hr : RS r) (hF : 0 ≤ g 74 4 ∧ g 74 4 ≤ 10) (Al : Nat → Nat) (hAl : ∀ i, i < 10 → g 115 i = (Al i : Int) ∧ Al i < 2 ^ 31) (c : Nat) (hc : c < 32) : CT (mX12_barred (rmD 1 0 0)) 0 0 shW [vR (some 74), vI (c : Int)] g z r (qP shW g z r (some (vI (brd Al (g 74 4).toNat c : Nat)))) := by
  refine CT.of 2 rfl rfl ?_
  generalize hQ : (qP shW g z r (some (vI (brd Al (g 74 4).toNat c : Nat)))) = Q
  have loop : ∀ (n i : Nat), (i : Int) + n = g 74 4 → RJ (mX12_barred (rmD 1 0 0)) 0 0 shW.length Q 0 0 shW 4 [some (vR (some 74)), some (vI ((c : Int))), some (vI ((bitU (fun i => !(Al i).testBit c) i : Nat))), some (vI ((i : Int)))] [] g z r := by
    intro n
    induction n with
    | zero =>
      intro i hi
      refine R_iload_n dX12_barred_4 rfl ?_
      refine R_aload_n dX12_barred_5 rfl ?_
      refine R_getI fd12_4 kf12_175 rfl dX12_barred_6 ?_
      refine R_icmp_ge 41 dX12_barred_9 (by decide) (fun hc9 => ?_) (fun hc9 => ?_)
      · refine R_iload_n dX12_barred_41 rfl ?_
        refine R_ireturn rfl (by first | rfl | exact nar_b2i | exact nar_bi) (by decide) (by decide) dX12_barred_42 ?_
        rw [← hQ]
        exact ⟨by unfold brd; rw [show (g 74 4).toNat = i by omega], rfl, rfl, rfl, rfl⟩
      · exact absurd (by omega) hc9
    | succ n ih =>
      intro i hi
      have hn := ih (i + 1) (by omega)
      rw [bitU] at hn
      have hlt := bitU_lt (f := fun i => !(Al i).testBit c) i
      have hp : 2 ^ i < 1024 := Nat.pow_lt_pow_right (n := 10) (by decide) (by omega)
      obtain ⟨ha1, ha2⟩ := hAl i (by omega)
      generalize hbe : bitU (fun i => !(Al i).testBit c) i = bb at *
      refine R_iload_n dX12_barred_4 rfl ?_
      refine R_aload_n dX12_barred_5 rfl ?_
      refine R_getI fd12_4 kf12_175 rfl dX12_barred_6 ?_
      refine R_icmp_ge 41 dX12_barred_9 (by decide) (fun hc9 => ?_) (fun hc9 => ?_)
      · exact absurd hc9 (by omega)
      refine R_iload_n dX12_barred_12 rfl ?_
      refine R_aload_n dX12_barred_13 rfl ?_
      refine R_getR _ (hr _ _ _ rfl) fd12_61 kf12_149 rfl dX12_barred_14 ?_
      refine R_iload_n dX12_barred_17 rfl ?_
      refine R_iald rfl (by omega) (by omega) dX12_barred_18 ?_
      try rw [Int.toNat_natCast]
      rw [ha1]
      refine R_iload_n dX12_barred_19 rfl ?_
      refine R_callS (m_has (Al i) c ha2 hc) (mvX12_has _) ksX12_has km12_324 ⟨rfl, rfl, by decide, by decide⟩ (Nat.le_of_ble_eq_true rfl) dX12_barred_20 (fun v1 sh1 g1 z1 r1 hq => ?_)
      obtain ⟨rfl, rfl, rfl, rfl, rfl⟩ := hq
      by_cases hb : (Al i).testBit c = true
      · rw [bi_t hb]
        rw [hb] at hn
        rw [if_neg (by decide)] at hn
        refine R_if_eq 30 dX12_barred_23 (by decide) (fun hc23 => ?_) (fun hc23 => ?_)
        · exact absurd hc23 (by decide)
        · refine R_iconst dX12_barred_26 rfl rfl ?_
          refine R_goto 33 dX12_barred_27 (by decide) ?_
          refine R_ior dX12_barred_33 ?_
          rw [show bOr (bb : Int) 0 = (bb : Int) by rw [show (0 : Int) = ((0 : Nat) : Int) from rfl, bOr_n (by omega) (by decide), Nat.or_zero]]
          refine R_istore_n dX12_barred_34 (by decide) rfl [_, _, _, _] rfl ?_
          refine R_iincN dX12_barred_35 rfl (by decide) rfl (by unfold inI; omega) [_, _, _, _] rfl ?_
          refine R_goto 4 dX12_barred_38 (by decide) ?_
          exact hn
      · rw [bi_f hb]
        rw [Bool.eq_false_iff.mpr hb] at hn
        rw [if_pos (by rfl)] at hn
        refine R_if_eq 30 dX12_barred_23 (by decide) (fun hc23 => ?_) (fun hc23 => ?_)
        · refine R_iconst dX12_barred_30 rfl rfl ?_
          refine R_iload_n dX12_barred_31 rfl ?_
          refine R_ishl dX12_barred_32 ?_
          refine R_ior dX12_barred_33 ?_
          rw [or_bit (by omega) (by omega)]
          refine R_istore_n dX12_barred_34 (by decide) rfl [_, _, _, _] rfl ?_
          refine R_iincN dX12_barred_35 rfl (by decide) rfl (by unfold inI; omega) [_, _, _, _] rfl ?_
          refine R_goto 4 dX12_barred_38 (by decide) ?_
          exact hn
        · exact absurd rfl hc23
  refine R_iconst dX12_barred_0 rfl rfl ?_
  refine R_istore_n dX12_barred_1 (by decide) rfl [_, _, _, _] rfl ?_
  refine R_iconst dX12_barred_2 rfl rfl ?_
  refine R_istore_n dX12_barred_3 (by decide) rfl [_, _, _, _] rfl ?_
  exact loop (g 74 4).toNat 0 (by omega)
theorem wh_m {g : GG} (hF : 0 ≤ g 74 4 ∧ g 74 4 ≤ 10) : bShl 1 (g 74 4) = ((whS (vM g) + 1 : Nat) : Int) := by
  have := bShl_1 (k := (g 74 4).toNat) (by omega)
  rw [toNat_cast hF.1] at this
  rw [this]
  unfold whS
  have e : (vM g) 0 2 = g 74 4 := rfl
  rw [e]
  have : 0 < (2 : Nat) ^ (g 74 4).toNat := Nat.pow_pos (by decide)
  congr 1
  omega
/-- the reference's tables at S; and the second ones -/
def XR (g z : GG) (G : Nat → Nat → Option Int) (ks : List Nat) (S : Nat) : Prop := AG4 (-100000000) (XW G TT ks S) (g 107 S) (g 108 S) (z 109 S) (z 110 S)
def XR2 (g z : GG) (G : Nat → Nat → Option Int) (ks : List Nat) (S : Nat) : Prop := AG4 (-100000000) (XW G TT ks S) (g 111 S) (g 112 S) (z 113 S) (z 114 S)
def WMg (g g' : GG) : Prop := ∀ c', c' ≠ 107 → c' ≠ 108 → c' ≠ 111 → c' ≠ 112 → g' c' = g c'
def WMz (z z' : GG) : Prop := ∀ c', c' ≠ 109 → c' ≠ 110 → c' ≠ 113 → c' ≠ 114 → z' c' = z c'
theorem WMg.trans {g g1 g2 : GG} (h1 : WMg g g1) (h2 : WMg g1 g2) : WMg g g2 := fun c' a b d e => (h2 c' a b d e).trans (h1 c' a b d e)
theorem WMz.trans {g g1 g2 : GG} (h1 : WMz g g1) (h2 : WMz g1 g2) : WMz g g2 := fun c' a b d e => (h2 c' a b d e).trans (h1 c' a b d e)
/-- only the second tables at S -/
def W2 (S : Nat) (g g' z z' : GG) : Prop := (∀ c', c' ≠ 111 → c' ≠ 112 → g' c' = g c') ∧ (∀ k, k ≠ S → g' 111 k = g 111 k ∧ g' 112 k = g 112 k) ∧ (∀ c', c' ≠ 113 → c' ≠ 114 → z' c' = z c') ∧ ∀ k, k ≠ S → z' 113 k = z 113 k ∧ z' 114 k = z 114 k
theorem W2.trans {S : Nat} {g g1 g2 z z1 z2 : GG} (h1 : W2 S g g1 z z1) (h2 : W2 S g1 g2 z1 z2) : W2 S g g2 z z2 := ⟨fun c' a b => (h2.1 c' a b).trans (h1.1 c' a b), fun k hk => ⟨(h2.2.1 k hk).1.trans (h1.2.1 k hk).1, (h2.2.1 k hk).2.trans (h1.2.1 k hk).2⟩, fun c' a b => (h2.2.2.1 c' a b).trans (h1.2.2.1 c' a b), fun k hk => ⟨(h2.2.2.2 k hk).1.trans (h1.2.2.2 k hk).1, (h2.2.2.2 k hk).2.trans (h1.2.2.2 k hk).2⟩⟩
/-- one set S of COUPLE c: all its parts -/
theorem m_part {Q : PQ} (hr : RS r) (G : Nat → Nat → Option Int) (out c : Nat) (hc6 : c < 6) (hout : out < 1024) (ks : List Nat) (hX : XOK G TT (c :: ks)) (wh S : Nat) (hS : S < 1024) (g1 z1 : GG) (hbr : ∀ p, p &&& S = p → ∃ o : Option Int, g1 106 (1024 * c + p) = LOWN o ∧ (∀ w, o = some w → -1000 ≤ w ∧ w ≤ 1000) ∧ G c p = if p &&& out = 0 then o else none) (hI : ∀ p, p &&& S = p → XR g1 z1 G ks p)
    (fin : ∀ g2 z2 a6 a7, W2 S g1 g2 z1 z2 → XR2 g2 z2 G (c :: ks) S → RJ (mX12_works (rmD 3 0 0)) 0 0 shW.length Q 0 0 shW 321 [some (vR (some 74)), some (vI (wh : Int)), some (vI (out : Int)), some (vI (c : Int)), some (vI (S : Int)), some (vI (-1)), a6, a7] [] g2 z2 r) :
    ∀ (n p : Nat) (W1 : List PR) (g2 z2 : GG) (a6 a7 : Option AV), p < n → p &&& S = p → W1 ++ (sbF S n p).flatMap (stF (G c) c (XW G TT ks) S) = XW G TT (c :: ks) S → W2 S g1 g2 z1 z2 → AG4 (-100000000) W1 (g2 111 S) (g2 112 S) (z2 113 S) (z2 114 S) → RJ (mX12_works (rmD 3 0 0)) 0 0 shW.length Q 0 0 shW 171 [some (vR (some 74)), some (vI (wh : Int)), some (vI (out : Int)), some (vI (c : Int)), some (vI (S : Int)), some (vI (p : Int)), a6, a7] [] g2 z2 r := by
  have hks := hX.tail
  have hnum := hX.num hS
  have hbd : ∀ x ∈ XW G TT (c :: ks) S, -70000 ≤ x.1 ∧ x.1 ≤ 7000 := fun x hx => hX.bd hx
  intro n
  induction n with
  | zero => intro p W1 g2 z2 a6 a7 hp; omega
  | succ n ih =>
    intro p W1 g2 z2 a6 a7 hp hpS htot w2 hA
    have hp10 : p < 1024 := Nat.lt_of_le_of_lt (sub_le hpS) hS
    unfold sbF at htot
    rw [List.flatMap_cons, ← List.append_assoc] at htot
    generalize hFe : stF (G c) c (XW G TT ks) S = F at *
    have next : ∀ (g3 z3 : GG) (a6 a7 : Option AV), W2 S g1 g3 z1 z3 → AG4 (-100000000) (W1 ++ F p) (g3 111 S) (g3 112 S) (z3 113 S) (z3 114 S) → RJ (mX12_works (rmD 3 0 0)) 0 0 shW.length Q 0 0 shW 300 [some (vR (some 74)), some (vI (wh : Int)), some (vI (out : Int)), some (vI (c : Int)), some (vI (S : Int)), some (vI (p : Int)), a6, a7] [] g3 z3 r := by
      intro g3 z3 a6 a7 w3 hA'
      refine R_iload dX12_works_300 rfl ?_
      refine R_if_ne 309 dX12_works_302 (by decide) (fun hc302 => ?_) (fun hc302 => ?_)
      · have hp0 : p ≠ 0 := by omega
        rw [if_neg hp0] at htot
        refine R_iload dX12_works_309 rfl ?_
        refine R_iconst dX12_works_311 rfl rfl ?_
        refine R_isubN dX12_works_312 (by unfold inI; omega) ?_
        refine R_iload dX12_works_313 rfl ?_
        refine R_iand dX12_works_315 ?_
        rw [show (p : Int) - 1 = ((p - 1 : Nat) : Int) by omega, bAnd_n (by omega)]
        refine R_istore dX12_works_316 (by decide) rfl [_, _, _, _, _, _, _, _] rfl ?_
        refine R_goto 171 dX12_works_318 (by decide) ?_
        have hle : (p - 1) &&& S ≤ p - 1 := Nat.and_le_left
        exact ih ((p - 1) &&& S) _ _ _ _ _ (by omega) (by rw [Nat.and_assoc, Nat.and_self]) htot w3 hA'
      · have hp0 : p = 0 := by omega
        rw [if_pos hp0, List.flatMap_nil, List.append_nil] at htot
        refine R_iconst dX12_works_305 rfl rfl ?_
        refine R_goto 316 dX12_works_306 (by decide) ?_
        refine R_istore dX12_works_316 (by decide) rfl [_, _, _, _, _, _, _, _] rfl ?_
        refine R_goto 171 dX12_works_318 (by decide) ?_
        refine R_iload dX12_works_171 rfl ?_
        refine R_if_lt 321 dX12_works_173 (by decide) (fun hc173 => ?_) (fun hc173 => ?_)
        · exact fin _ _ _ _ w3 (by unfold XR2; rw [← htot]; exact hA')
        · exact absurd (by decide) hc173
    have hsub : ∀ x ∈ W1 ++ F p, x ∈ XW G TT (c :: ks) S := fun x hx => by rw [← htot]; exact List.mem_append.mpr (Or.inl hx)
    have hlen : (W1 ++ F p).length ≤ 2 ^ 30 := by
      rw [← htot, List.length_append] at hnum
      omega
    rw [List.length_append] at hlen
    have hA1 := hA.bd (fun x hx => hbd x (hsub x (List.mem_append.mpr (Or.inl hx)))) (by decide)
    have hrest := xor_lt hS hpS
    obtain ⟨o, ho1, ho2, ho3⟩ := hbr p hpS
    have hAr := hI (S ^^^ p) (by rw [sub_bit]; intro i hi; rw [xor_sub hpS, Bool.and_eq_true] at hi; exact hi.1)
    unfold XR at hAr
    have hBr := hAr.bd (fun x hx => hks.bd hx) (by decide)
    have e106 : g2 106 = g1 106 := w2.1 106 (by decide) (by decide)
    have e107 : g2 107 = g1 107 := w2.1 107 (by decide) (by decide)
    have e108 : g2 108 = g1 108 := w2.1 108 (by decide) (by decide)
    have e109 : z2 109 = z1 109 := w2.2.2.1 109 (by decide) (by decide)
    have e110 : z2 110 = z1 110 := w2.2.2.1 110 (by decide) (by decide)
    have emp : F p = [] → AG4 (-100000000) (W1 ++ F p) (g2 111 S) (g2 112 S) (z2 113 S) (z2 114 S) := fun e => by rw [e, List.append_nil]; exact hA
    refine R_iload dX12_works_171 rfl ?_
    refine R_if_lt 321 dX12_works_173 (by decide) (fun hc173 => ?_) (fun hc173 => ?_)
    · exact absurd hc173 (by omega)
    refine R_aload_n dX12_works_176 rfl ?_
    refine R_getR _ (hr _ _ _ rfl) fd12_52 kf12_121 rfl dX12_works_177 ?_
    refine R_sipush dX12_works_180 rfl (by decide +kernel) ?_
    refine R_iload_n dX12_works_183 rfl ?_
    refine R_imulN dX12_works_184 (by unfold inI; omega) ?_
    refine R_iload dX12_works_185 rfl ?_
    refine R_iaddN dX12_works_187 (by unfold inI; omega) ?_
    refine R_iald rfl (by omega) (by omega) dX12_works_188 ?_
    rw [show ((1024 : Int) * (c : Int) + (p : Int)).toNat = 1024 * c + p by omega, e106, ho1]
    refine R_istore dX12_works_189 (by decide) rfl [_, _, _, _, _, _, _, _] rfl ?_
    refine R_iload dX12_works_191 rfl ?_
    refine R_iload dX12_works_193 rfl ?_
    refine R_iconst dX12_works_195 rfl rfl ?_
    refine R_ixor dX12_works_196 ?_
    refine R_iand dX12_works_197 ?_
    rw [and_not (by omega) hpS]
    cases o with
    | none =>
      have hFp : F p = [] := by rw [← hFe]; unfold stF; rw [ho3]; split <;> simp_all
      show RJ _ _ _ _ _ _ _ _ _ [_, _, _, _, _, _, some (vI (-100000000)), _] _ _ _ _
      refine R_istore dX12_works_198 (by decide) rfl [_, _, _, _, _, _, _, _] rfl ?_
      refine R_iload dX12_works_200 rfl ?_
      refine R_ldc_wC (v := -100000000) kk12_404 (by decide +kernel) dX12_works_202 (by decide) ?_
      refine R_icmp_eq 300 dX12_works_205 (by decide) (fun hc205 => ?_) (fun hc205 => ?_)
      · exact next g2 z2 _ _ w2 (emp hFp)
      · exact absurd rfl hc205
    | some w =>
      have hw := ho2 w rfl
      show RJ _ _ _ _ _ _ _ _ _ [_, _, _, _, _, _, some (vI w), _] _ _ _ _
      refine R_istore dX12_works_198 (by decide) rfl [_, _, _, _, _, _, _, _] rfl ?_
      refine R_iload dX12_works_200 rfl ?_
      refine R_ldc_wC (v := -100000000) kk12_404 (by decide +kernel) dX12_works_202 (by decide) ?_
      refine R_icmp_eq 300 dX12_works_205 (by decide) (fun hc205 => ?_) (fun hc205 => ?_)
      · exact absurd hc205 (by omega)
      refine R_aload_n dX12_works_208 rfl ?_
      refine R_getR _ (hr _ _ _ rfl) fd12_55 kf12_130 rfl dX12_works_209 ?_
      refine R_iload dX12_works_212 rfl ?_
      refine R_lald rfl (by omega) (by omega) dX12_works_214 ?_
      try rw [Int.toNat_natCast]
      refine R_lconst dX12_works_215 ?_
      refine R_lcmp dX12_works_216 ?_
      refine R_if_eq 300 dX12_works_217 (by decide) (fun hc217 => ?_) (fun hc217 => ?_)
      · rw [e109, lcm_z] at hc217
        have h0 : z1 109 (S ^^^ p) = 0 := hc217
        have hnil : XW G TT ks (S ^^^ p) = [] := by rcases hBr.1 with q | q; exact q.1; omega
        exact next g2 z2 _ _ w2 (emp (by rw [← hFe]; unfold stF; rw [hnil]; split <;> simp))
      have h0 : z1 109 (S ^^^ p) ≠ 0 := by rw [e109, lcm_z] at hc217; exact hc217
      have hne : XW G TT ks (S ^^^ p) ≠ [] := by
        intro q
        have h1 := hBr.2.2.2
        rw [q] at h1
        have h2 := hBr.2.2.1
        simp at h1
        omega
      have hmo : -70000 ≤ g1 107 (S ^^^ p) ∧ g1 107 (S ^^^ p) ≤ 7000 := by rcases hBr.1 with q | q; exact absurd q.1 hne; exact ⟨q.2.1, q.2.2.1⟩
      refine R_iload dX12_works_220 rfl ?_
      refine R_iload_n dX12_works_222 rfl ?_
      refine R_iand dX12_works_223 ?_
      rw [bAnd_n (by omega)]
      refine R_if_eq 230 dX12_works_224 (by decide) (fun hc224 => ?_) (fun hc224 => ?_)
      rotate_left
      · refine R_goto 300 dX12_works_227 (by decide) ?_
        exact next g2 z2 _ _ w2 (emp (by rw [← hFe]; unfold stF; rw [ho3, if_neg (by omega)]))
      have hz : p &&& out = 0 := by omega
      rw [if_pos hz] at ho3
      have hFp : F p = (XW G TT ks (S ^^^ p)).map (fun q => (q.1 + w, q.2 ||| c * sprd p)) := by rw [← hFe]; unfold stF; rw [ho3]
      have hSh := AG4_shift w (fun r => r ||| c * sprd p) (fun x hx => by have := hks.bd hx; omega) hAr hne
      rw [← hFp] at hSh
      have hne2 : F p ≠ [] := by rw [hFp]; exact fun e => hne (List.map_eq_nil_iff.mp e)
      have hAp := AG4_app (fun x hx => by have := hbd x (hsub x (List.mem_append.mpr (Or.inl hx))); omega) (fun x hx => by have := hbd x (hsub x (List.mem_append.mpr (Or.inr hx))); omega) hA hSh hne2
      have hS1 := hSh.bd (fun x hx => hbd x (hsub x (List.mem_append.mpr (Or.inr hx)))) (by decide)
      refine R_aload_n dX12_works_230 rfl ?_
      refine R_iload dX12_works_231 rfl ?_
      refine R_aload_n dX12_works_233 rfl ?_
      refine R_getR _ (hr _ _ _ rfl) fd12_53 kf12_124 rfl dX12_works_234 ?_
      refine R_iload dX12_works_237 rfl ?_
      refine R_iald rfl (by omega) (by omega) dX12_works_239 ?_
      try rw [Int.toNat_natCast]
      refine R_iload dX12_works_240 rfl ?_
      rw [e107]
      refine R_iaddN dX12_works_242 (by unfold inI; omega) ?_
      refine R_aload_n dX12_works_243 rfl ?_
      refine R_getR _ (hr _ _ _ rfl) fd12_55 kf12_130 rfl dX12_works_244 ?_
      refine R_iload dX12_works_247 rfl ?_
      refine R_lald rfl (by omega) (by omega) dX12_works_249 ?_
      try rw [Int.toNat_natCast]
      rw [e109]
      refine R_callV (m_comes hr S hS (g1 107 (S ^^^ p) + w) (z1 109 (S ^^^ p)) (by unfold inL; omega)) (mvX12_comes _) kiX12_comes kvX12_comes km12_411 rfl rfl (by decide) ⟨rfl, rfl, by decide, by decide⟩ (Nat.le_of_ble_eq_true rfl) dX12_works_250 (fun v1 sh1 g3 z3 r1 hq => ?_)
      obtain ⟨⟨rfl, f1, f2, f3, f4, f5, f6, f7⟩, rfl, rfl⟩ := hq
      have w3 : W2 S g1 g3 z1 z3 := w2.trans ⟨f1, f2, fun c' a b => f3 c' a, fun k hk => ⟨f4 k hk, by rw [f3 114 (by decide)]⟩⟩
      have e107' : g3 107 = g1 107 := w3.1 107 (by decide) (by decide)
      have e108' : g3 108 = g1 108 := w3.1 108 (by decide) (by decide)
      have cont : ∀ (g4 z4 : GG), W2 S g1 g4 z1 z4 → z4 114 S = z2 114 S → AG4 (-100000000) (W1 ++ F p) (g4 111 S) (g4 112 S) (z4 113 S) (z2 114 S + z1 110 (S ^^^ p)) → RJ (mX12_works (rmD 3 0 0)) 0 0 shW.length Q 0 0 shW 283 [some (vR (some 74)), some (vI (wh : Int)), some (vI (out : Int)), some (vI (c : Int)), some (vI (S : Int)), some (vI (p : Int)), some (vI w), some (vI ((S ^^^ p : Nat) : Int))] [] g4 z4 r := by
        intro g4 z4 w4 h114 hA4
        have e110' : z4 110 = z1 110 := w4.2.2.1 110 (by decide) (by decide)
        have hl1 := hA1.2.2.2
        have hl2 := hS1.2.2.2
        refine R_aload_n dX12_works_283 rfl ?_
        refine R_getR _ (hr _ _ _ rfl) fd12_60 kf12_146 rfl dX12_works_284 ?_
        refine R_iload dX12_works_287 rfl ?_
        refine R_dup2 dX12_works_289 (fun _ h => by cases h) (fun _ h => by cases h) ?_
        refine R_lald rfl (by omega) (by omega) dX12_works_290 ?_
        try rw [Int.toNat_natCast]
        refine R_aload_n dX12_works_291 rfl ?_
        refine R_getR _ (hr _ _ _ rfl) fd12_56 kf12_134 rfl dX12_works_292 ?_
        refine R_iload dX12_works_295 rfl ?_
        refine R_lald rfl (by omega) (by omega) dX12_works_297 ?_
        try rw [Int.toNat_natCast]
        rw [e110', h114]
        refine R_laddN dX12_works_298 (by unfold inL; omega) ?_
        refine R_last rfl (by omega) (by omega) dX12_works_299 ?_
        try rw [Int.toNat_natCast]
        refine next _ _ _ _ (w4.trans ⟨fun _ _ _ => rfl, fun _ _ => ⟨rfl, rfl⟩, fun c' a b => up2_ne b, fun k hk => ⟨by rw [up2_ne (by decide)], up2_k hk⟩⟩) ?_
        rw [up2_s, up2_ne (by decide)]
        exact hA4
      have h114 : z3 114 S = z2 114 S := by rw [f3 114 (by decide)]
      refine R_aload_n dX12_works_253 rfl ?_
      refine R_getR _ (hr _ _ _ rfl) fd12_54 kf12_127 rfl dX12_works_254 ?_
      refine R_iload dX12_works_257 rfl ?_
      refine R_iald rfl (by omega) (by omega) dX12_works_259 ?_
      try rw [Int.toNat_natCast]
      rw [e108']
      refine R_ldc_wC (v := -100000000) kk12_404 (by decide +kernel) dX12_works_260 (by decide) ?_
      refine R_icmp_eq 283 dX12_works_263 (by decide) (fun hc263 => ?_) (fun hc263 => ?_)
      · refine cont g3 z3 w3 h114 ?_
        have hc263 : g1 108 (S ^^^ p) = -100000000 := hc263
        rw [f5, f6, f7]
        rw [hc263, if_pos rfl] at hAp
        have hm1 : -100000000 ≤ g2 111 S := by rcases hA1.1 with q | q <;> omega
        have hn1 : -100000000 ≤ g2 112 S := by rcases hA1.2.1 with q | q <;> omega
        have q1 : mx (g2 111 S) (-100000000) = g2 111 S := by unfold mx; rw [if_neg (by omega)]
        have q2 : mx (g2 112 S) (-100000000) = g2 112 S := by unfold mx; rw [if_neg (by omega)]
        rw [q1, q2] at hAp
        exact hAp
      · have hc263 : g1 108 (S ^^^ p) ≠ -100000000 := hc263
        have hnx : -70000 ≤ g1 108 (S ^^^ p) ∧ g1 108 (S ^^^ p) < g1 107 (S ^^^ p) := by rcases hBr.2.1 with q | q; exact absurd q hc263; exact q
        refine R_aload_n dX12_works_266 rfl ?_
        refine R_iload dX12_works_267 rfl ?_
        refine R_aload_n dX12_works_269 rfl ?_
        refine R_getR _ (hr _ _ _ rfl) fd12_54 kf12_127 rfl dX12_works_270 ?_
        refine R_iload dX12_works_273 rfl ?_
        refine R_iald rfl (by omega) (by omega) dX12_works_275 ?_
        try rw [Int.toNat_natCast]
        refine R_iload dX12_works_276 rfl ?_
        rw [e108']
        refine R_iaddN dX12_works_278 (by unfold inI; omega) ?_
        refine R_lconst dX12_works_279 ?_
        have hb113 : inL (z3 113 S + ((0 : Fin 2) : Nat)) := by
          show inL (z3 113 S + 0)
          rw [f7]
          unfold inL
          have hl1 := hA1.2.2.2
          have hl2 := hS1.2.2.2
          split
          · omega
          · split <;> omega
        refine R_callV (m_comes hr S hS (g1 108 (S ^^^ p) + w) (((0 : Fin 2) : Nat) : Int) hb113) (mvX12_comes _) kiX12_comes kvX12_comes km12_411 rfl rfl (by decide) ⟨rfl, rfl, by decide, by decide⟩ (Nat.le_of_ble_eq_true rfl) dX12_works_280 (fun v1 sh1 g4 z4 r1 hq => ?_)
        obtain ⟨⟨rfl, h1, h2, h3, h4, h5, h6, h7⟩, rfl, rfl⟩ := hq
        refine cont g4 z4 (w3.trans ⟨h1, h2, fun c' a b => h3 c' a, fun k hk => ⟨h4 k hk, by rw [h3 114 (by decide)]⟩⟩) (by rw [h3 114 (by decide)]; exact h114) ?_
        rw [if_neg hc263] at hAp
        have hz0 : (((0 : Fin 2) : Nat) : Int) = 0 := rfl
        have e1 : g4 111 S = (if g2 111 S < g1 107 (S ^^^ p) + w then g1 107 (S ^^^ p) + w else g2 111 S) := by
          rw [h5, f5]
          split <;> split <;> omega
        have e2 : g4 112 S = (if g2 111 S < g1 107 (S ^^^ p) + w then mx (g2 111 S) (g1 108 (S ^^^ p) + w) else if g1 107 (S ^^^ p) + w = g2 111 S then mx (g2 112 S) (g1 108 (S ^^^ p) + w) else mx (g2 112 S) (g1 107 (S ^^^ p) + w)) := by
          rw [h6, f5, f6]
          unfold mx
          by_cases q1 : g2 111 S < g1 107 (S ^^^ p) + w
          · simp only [if_pos q1]
            rw [if_neg (by omega), if_neg (by omega)]
          · simp only [if_neg q1]
            rw [if_neg (by omega), if_neg (by omega)]
            by_cases q2 : g1 107 (S ^^^ p) + w = g2 111 S
            · simp only [if_pos q2]
            · simp only [if_neg q2]
              split
              · rw [if_neg (by omega)]
              · rw [if_neg (by omega)]
        have e3 : z4 113 S = (if g2 111 S < g1 107 (S ^^^ p) + w then z1 109 (S ^^^ p) else if g1 107 (S ^^^ p) + w = g2 111 S then z2 113 S + z1 109 (S ^^^ p) else z2 113 S) := by
          rw [h7, f5, f7, hz0]
          by_cases q1 : g2 111 S < g1 107 (S ^^^ p) + w
          · simp only [if_pos q1]
            rw [if_neg (by omega), if_neg (by omega)]
          · simp only [if_neg q1]
            rw [if_neg (by omega), if_neg (by omega)]
        rw [e1, e2, e3]
        exact hAp
end MWORKS
