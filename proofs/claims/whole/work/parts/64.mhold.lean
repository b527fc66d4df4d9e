def doesM (c : Int) (x y : Int × Bool) : Int × Bool := if c = 38 ∨ c = 124 then (if x.2 = true ∨ x.1 ≠ (if c = 38 then 1 else 0) then x else y) else (reck c x.1 y.1, x.2 || (y.2 || (decide (c = 47 ∨ c = 37) && decide (y.1 = 0))))
/-- the reference's codes, run from i on for n steps -/
def hM (cd ca env : Nat → Int) : Nat → Nat → List (Int × Bool) → Option Bool
  | 0, _, stk => match stk with
    | [p] => some (!p.2 && decide (p.1 = 1))
    | _ => none
  | n + 1, i, stk => if 2 < cd i then (match stk with
      | y :: x :: t => hM cd ca env n (i + 1) (doesM (cd i) x y :: t)
      | _ => none)
    else if cd i = 2 then (match stk with
      | x :: t => hM cd ca env n (i + 1) ((w32 (1 - x.1), x.2) :: t)
      | _ => none)
    else if stk.length < 200 then hM cd ca env n (i + 1) ((if cd i = 0 then ca i else env (fidx (ca i)), false) :: stk) else none
theorem SK_cong {o o' : Nat → Int} {stk : List Int} (h : ∀ j, j < stk.length → o' j = o j) (hs : SK o stk) : SK o' stk := by
  intro j y hj
  have := (List.getElem?_eq_some_iff.mp hj).1
  rw [List.length_reverse] at this
  rw [h j this]
  exact hs j y hj
theorem SK_set {o o' : Nat → Int} {stk : List Int} {x : Int} (h : ∀ j, j ≠ stk.length → o' j = o j) (hx : o' stk.length = x) (hs : SK o stk) : SK o' (x :: stk) := by
  have h1 := SK_push (x := x) hs
  refine SK_cong (fun j hj => ?_) h1
  show _ = if j = stk.length then x else o j
  by_cases e : j = stk.length
  · rw [if_pos e, e]; exact hx
  · rw [if_neg e]; exact h j e
section MHOLD
variable {g z : GG} {r : RR}
theorem m_does (hr : RS r) (c : Int) (a : Nat) (ha : a + 1 < 200) (x y : Int × Bool) (h1 : g 104 a = x.1) (h2 : g 105 a = bi x.2) (h3 : g 104 (a + 1) = y.1) (h4 : g 105 (a + 1) = bi y.2) : CT (mX12_does (rmD 1 0 0)) 0 0 shW [vR (some 74), vI c, vI (a : Int)] g z r (qG shW z r fun v g' => v = none ∧ (∀ c', c' ≠ 104 → c' ≠ 105 → g' c' = g c') ∧ (g' 104 a = (doesM c x y).1 ∧ g' 105 a = bi (doesM c x y).2) ∧ ∀ j, j ≠ a → g' 104 j = g 104 j ∧ g' 105 j = g 105 j) := by
  refine CT.of 1 rfl rfl ?_
  have e1 : (a : Int) + 1 = ((a + 1 : Nat) : Int) := by omega
  obtain ⟨xv, xr⟩ := x
  obtain ⟨yv, yr⟩ := y
  simp only at h1 h2 h3 h4
  have keep : ∀ ls : List (Option AV), (c = 38 ∨ c = 124) → (xr = true ∨ xv ≠ (if c = 38 then 1 else 0)) → RJ (mX12_does (rmD 1 0 0)) 0 0 shW.length (qG shW z r fun v g' => v = none ∧ (∀ c', c' ≠ 104 → c' ≠ 105 → g' c' = g c') ∧ (g' 104 a = (doesM c (xv, xr) (yv, yr)).1 ∧ g' 105 a = bi (doesM c (xv, xr) (yv, yr)).2) ∧ ∀ j, j ≠ a → g' 104 j = g 104 j ∧ g' 105 j = g 105 j) 0 0 shW 45 ls [] g z r := by
    intro ls hc hk
    refine R_return rfl (by decide) (by decide) dX12_does_45 ?_
    rw [doesM, if_pos hc, if_pos hk]
    exact ⟨⟨rfl, fun _ _ _ => rfl, ⟨h1, h2⟩, fun _ _ => ⟨rfl, rfl⟩⟩, rfl, rfl, rfl⟩
  have logic : (c = 38 ∨ c = 124) → RJ (mX12_does (rmD 1 0 0)) 0 0 shW.length (qG shW z r fun v g' => v = none ∧ (∀ c', c' ≠ 104 → c' ≠ 105 → g' c' = g c') ∧ (g' 104 a = (doesM c (xv, xr) (yv, yr)).1 ∧ g' 105 a = bi (doesM c (xv, xr) (yv, yr)).2) ∧ ∀ j, j ≠ a → g' 104 j = g 104 j ∧ g' 105 j = g 105 j) 0 0 shW 16 [some (vR (some 74)), some (vI c), some (vI (a : Int)), some (vI ((a + 1 : Nat) : Int))] [] g z r := by
    intro hc
    have fin : xr = false → xv = (if c = 38 then 1 else 0) → RJ (mX12_does (rmD 1 0 0)) 0 0 shW.length (qG shW z r fun v g' => v = none ∧ (∀ c', c' ≠ 104 → c' ≠ 105 → g' c' = g c') ∧ (g' 104 a = (doesM c (xv, xr) (yv, yr)).1 ∧ g' 105 a = bi (doesM c (xv, xr) (yv, yr)).2) ∧ ∀ j, j ≠ a → g' 104 j = g 104 j ∧ g' 105 j = g 105 j) 0 0 shW 46 [some (vR (some 74)), some (vI c), some (vI (a : Int)), some (vI ((a + 1 : Nat) : Int))] [] g z r := by
      intro k1 k2
      refine R_aload_n dX12_does_46 rfl ?_
      refine R_getR _ (hr _ _ _ rfl) fd12_50 kf12_114 rfl dX12_does_47 ?_
      refine R_iload_n dX12_does_50 rfl ?_
      refine R_aload_n dX12_does_51 rfl ?_
      refine R_getR _ (hr _ _ _ rfl) fd12_50 kf12_114 rfl dX12_does_52 ?_
      refine R_iload_n dX12_does_55 rfl ?_
      refine R_iald rfl (by omega) (by omega) dX12_does_56 ?_
      rw [Int.toNat_natCast, h3]
      refine R_iast rfl (by omega) (by omega) dX12_does_57 ?_
      refine R_aload_n dX12_does_58 rfl ?_
      refine R_getR _ (hr _ _ _ rfl) fd12_51 kf12_117 rfl dX12_does_59 ?_
      try simp +decide only [up2_far, up2_s, up2_kk]
      refine R_iload_n dX12_does_62 rfl ?_
      refine R_aload_n dX12_does_63 rfl ?_
      refine R_getR _ (hr _ _ _ rfl) fd12_51 kf12_117 rfl dX12_does_64 ?_
      try simp +decide only [up2_far, up2_s, up2_kk]
      refine R_iload_n dX12_does_67 rfl ?_
      refine R_zald rfl (by omega) (by omega) dX12_does_68 ?_
      try simp +decide only [up2_far, up2_s, up2_kk]
      rw [Int.toNat_natCast, h4]
      refine R_zast rfl (by cases yr <;> simp [bi]) (by omega) (by omega) dX12_does_69 ?_
      refine R_return rfl (by decide) (by decide) dX12_does_70 ?_
      rw [doesM, if_pos hc, if_neg (by simp [k1, k2])]
      refine ⟨⟨rfl, fun c' q1 q2 => by rw [up2_ne q2, up2_ne q1], ⟨by rw [up2_far (by decide), Int.toNat_natCast, up2_s], by rw [Int.toNat_natCast, up2_s]⟩, fun j hj => ⟨by rw [up2_far (by decide), Int.toNat_natCast, up2_k hj], by rw [Int.toNat_natCast, up2_k hj, up2_far (by decide)]⟩⟩, rfl, rfl, rfl⟩
    refine R_aload_n dX12_does_16 rfl ?_
    refine R_getR _ (hr _ _ _ rfl) fd12_51 kf12_117 rfl dX12_does_17 ?_
    refine R_iload_n dX12_does_20 rfl ?_
    refine R_zald rfl (by omega) (by omega) dX12_does_21 ?_
    rw [Int.toNat_natCast, h2]
    cases xr with
    | true =>
      refine R_if_ne 45 dX12_does_22 (by decide) (fun hc22 => ?_) (fun hc22 => ?_)
      · exact keep _ hc (Or.inl rfl)
      · exact absurd hc22 (by decide)
    | false =>
      refine R_if_ne 45 dX12_does_22 (by decide) (fun hc22 => ?_) (fun hc22 => ?_)
      · exact absurd rfl hc22
      refine R_aload_n dX12_does_25 rfl ?_
      refine R_getR _ (hr _ _ _ rfl) fd12_50 kf12_114 rfl dX12_does_26 ?_
      refine R_iload_n dX12_does_29 rfl ?_
      refine R_iald rfl (by omega) (by omega) dX12_does_30 ?_
      rw [Int.toNat_natCast, h1]
      refine R_iload_n dX12_does_31 rfl ?_
      refine R_bipush dX12_does_32 rfl (by decide +kernel) ?_
      refine R_icmp_ne 41 dX12_does_34 (by decide) (fun hc34 => ?_) (fun hc34 => ?_)
      · refine R_iconst dX12_does_41 rfl rfl ?_
        refine R_icmp_eq 46 dX12_does_42 (by decide) (fun hc42 => ?_) (fun hc42 => ?_)
        · exact fin rfl (by first | (rw [if_pos hc34]; exact hc42) | (rw [if_neg hc34]; exact hc42))
        · exact keep _ hc (Or.inr (by first | (rw [if_pos hc34]; exact hc42) | (rw [if_neg hc34]; exact hc42)))
      · refine R_iconst dX12_does_37 rfl rfl ?_
        refine R_goto 42 dX12_does_38 (by decide) ?_
        refine R_icmp_eq 46 dX12_does_42 (by decide) (fun hc42 => ?_) (fun hc42 => ?_)
        · exact fin rfl (by first | (rw [if_pos hc34]; exact hc42) | (rw [if_neg hc34]; exact hc42))
        · exact keep _ hc (Or.inr (by first | (rw [if_pos hc34]; exact hc42) | (rw [if_neg hc34]; exact hc42)))
  have arith : ¬ (c = 38 ∨ c = 124) → RJ (mX12_does (rmD 1 0 0)) 0 0 shW.length (qG shW z r fun v g' => v = none ∧ (∀ c', c' ≠ 104 → c' ≠ 105 → g' c' = g c') ∧ (g' 104 a = (doesM c (xv, xr) (yv, yr)).1 ∧ g' 105 a = bi (doesM c (xv, xr) (yv, yr)).2) ∧ ∀ j, j ≠ a → g' 104 j = g 104 j ∧ g' 105 j = g 105 j) 0 0 shW 71 [some (vR (some 74)), some (vI c), some (vI (a : Int)), some (vI ((a + 1 : Nat) : Int))] [] g z r := by
    intro hc
    have fin : ∀ b : Bool, b = (xr || (yr || (decide (c = 47 ∨ c = 37) && decide (yv = 0)))) → RJ (mX12_does (rmD 1 0 0)) 0 0 shW.length (qG shW z r fun v g' => v = none ∧ (∀ c', c' ≠ 104 → c' ≠ 105 → g' c' = g c') ∧ (g' 104 a = (doesM c (xv, xr) (yv, yr)).1 ∧ g' 105 a = bi (doesM c (xv, xr) (yv, yr)).2) ∧ ∀ j, j ≠ a → g' 104 j = g 104 j ∧ g' 105 j = g 105 j) 0 0 shW 120 [some (vR (some 74)), some (vI c), some (vI (a : Int)), some (vI ((a + 1 : Nat) : Int))] [vI (bi b), vI (a : Int), vR (some 105)] g z r := by
      intro b hb
      refine R_zast rfl (by cases b <;> simp [bi]) (by omega) (by omega) dX12_does_120 ?_
      refine R_aload_n dX12_does_121 rfl ?_
      refine R_getR _ (hr _ _ _ rfl) fd12_50 kf12_114 rfl dX12_does_122 ?_
      try simp +decide only [up2_far, up2_s, up2_kk]
      refine R_iload_n dX12_does_125 rfl ?_
      refine R_iload_n dX12_does_126 rfl ?_
      refine R_aload_n dX12_does_127 rfl ?_
      refine R_getR _ (hr _ _ _ rfl) fd12_50 kf12_114 rfl dX12_does_128 ?_
      try simp +decide only [up2_far, up2_s, up2_kk]
      refine R_iload_n dX12_does_131 rfl ?_
      refine R_iald rfl (by omega) (by omega) dX12_does_132 ?_
      try simp +decide only [up2_far, up2_s, up2_kk]
      rw [Int.toNat_natCast, h1]
      refine R_aload_n dX12_does_133 rfl ?_
      refine R_getR _ (hr _ _ _ rfl) fd12_50 kf12_114 rfl dX12_does_134 ?_
      refine R_iload_n dX12_does_137 rfl ?_
      refine R_iald rfl (by omega) (by omega) dX12_does_138 ?_
      rw [up2_far (by decide), Int.toNat_natCast, h3]
      refine R_callS (m_worked c xv yv) (mvX12_worked _) ksX12_worked km12_336 ⟨rfl, rfl, by decide, by decide⟩ (Nat.le_of_ble_eq_true rfl) dX12_does_139 (fun v1 sh1 g1 z1 r1 hq => ?_)
      obtain ⟨rfl, rfl, rfl, rfl, rfl⟩ := hq
      refine R_iast rfl (by omega) (by omega) dX12_does_142 ?_
      refine R_return rfl (by decide) (by decide) dX12_does_143 ?_
      rw [doesM, if_neg hc, ← hb]
      refine ⟨⟨rfl, fun c' q1 q2 => by rw [up2_ne q1, up2_ne q2], ⟨by rw [Int.toNat_natCast, up2_s], by rw [up2_far (by decide), up2_s]⟩, fun j hj => ⟨by rw [Int.toNat_natCast, up2_k hj, up2_far (by decide)], by rw [up2_far (by decide), up2_k hj]⟩⟩, rfl, rfl, rfl⟩
    refine R_aload_n dX12_does_71 rfl ?_
    refine R_getR _ (hr _ _ _ rfl) fd12_51 kf12_117 rfl dX12_does_72 ?_
    refine R_iload_n dX12_does_75 rfl ?_
    refine R_aload_n dX12_does_76 rfl ?_
    refine R_getR _ (hr _ _ _ rfl) fd12_51 kf12_117 rfl dX12_does_77 ?_
    refine R_iload_n dX12_does_80 rfl ?_
    refine R_zald rfl (by omega) (by omega) dX12_does_81 ?_
    rw [Int.toNat_natCast, h2]
    cases xr with
    | true =>
      refine R_if_ne 115 dX12_does_82 (by decide) (fun hc82 => ?_) (fun hc82 => ?_)
      · refine R_iconst dX12_does_115 rfl rfl ?_
        refine R_goto 120 dX12_does_116 (by decide) ?_
        exact fin true (by simp)
      · exact absurd hc82 (by decide)
    | false =>
      refine R_if_ne 115 dX12_does_82 (by decide) (fun hc82 => ?_) (fun hc82 => ?_)
      · exact absurd rfl hc82
      refine R_aload_n dX12_does_85 rfl ?_
      refine R_getR _ (hr _ _ _ rfl) fd12_51 kf12_117 rfl dX12_does_86 ?_
      refine R_iload_n dX12_does_89 rfl ?_
      refine R_zald rfl (by omega) (by omega) dX12_does_90 ?_
      rw [Int.toNat_natCast, h4]
      cases yr with
      | true =>
        refine R_if_ne 115 dX12_does_91 (by decide) (fun hc91 => ?_) (fun hc91 => ?_)
        · refine R_iconst dX12_does_115 rfl rfl ?_
          refine R_goto 120 dX12_does_116 (by decide) ?_
          exact fin true (by simp)
        · exact absurd hc91 (by decide)
      | false =>
        refine R_if_ne 115 dX12_does_91 (by decide) (fun hc91 => ?_) (fun hc91 => ?_)
        · exact absurd rfl hc91
        have div : (c = 47 ∨ c = 37) → RJ (mX12_does (rmD 1 0 0)) 0 0 shW.length (qG shW z r fun v g' => v = none ∧ (∀ c', c' ≠ 104 → c' ≠ 105 → g' c' = g c') ∧ (g' 104 a = (doesM c (xv, false) (yv, false)).1 ∧ g' 105 a = bi (doesM c (xv, false) (yv, false)).2) ∧ ∀ j, j ≠ a → g' 104 j = g 104 j ∧ g' 105 j = g 105 j) 0 0 shW 106 [some (vR (some 74)), some (vI c), some (vI (a : Int)), some (vI ((a + 1 : Nat) : Int))] [vI (a : Int), vR (some 105)] g z r := by
          intro hd
          refine R_aload_n dX12_does_106 rfl ?_
          refine R_getR _ (hr _ _ _ rfl) fd12_50 kf12_114 rfl dX12_does_107 ?_
          refine R_iload_n dX12_does_110 rfl ?_
          refine R_iald rfl (by omega) (by omega) dX12_does_111 ?_
          rw [Int.toNat_natCast, h3]
          refine R_if_ne 119 dX12_does_112 (by decide) (fun hc112 => ?_) (fun hc112 => ?_)
          · refine R_iconst dX12_does_119 rfl rfl ?_
            exact fin false (by simp [hc112])
          · refine R_iconst dX12_does_115 rfl rfl ?_
            refine R_goto 120 dX12_does_116 (by decide) ?_
            exact fin true (by simp [hc112, hd])
        refine R_iload_n dX12_does_94 rfl ?_
        refine R_bipush dX12_does_95 rfl (by decide +kernel) ?_
        refine R_icmp_eq 106 dX12_does_97 (by decide) (fun hc97 => ?_) (fun hc97 => ?_)
        · exact div (by omega)
        · refine R_iload_n dX12_does_100 rfl ?_
          refine R_bipush dX12_does_101 rfl (by decide +kernel) ?_
          refine R_icmp_ne 119 dX12_does_103 (by decide) (fun hc103 => ?_) (fun hc103 => ?_)
          · refine R_iconst dX12_does_119 rfl rfl ?_
            exact fin false (by simp; omega)
          · exact div (by omega)
  refine R_iload_n dX12_does_0 rfl ?_
  refine R_iconst dX12_does_1 rfl rfl ?_
  refine R_iaddN dX12_does_2 (by unfold inI; omega) ?_
  rw [e1]
  refine R_istore_n dX12_does_3 (by decide) rfl [_, _, _, _] rfl ?_
  refine R_iload_n dX12_does_4 rfl ?_
  refine R_bipush dX12_does_5 rfl (by decide +kernel) ?_
  refine R_icmp_eq 16 dX12_does_7 (by decide) (fun hc7 => ?_) (fun hc7 => ?_)
  · exact logic (by omega)
  · refine R_iload_n dX12_does_10 rfl ?_
    refine R_bipush dX12_does_11 rfl (by decide +kernel) ?_
    refine R_icmp_ne 71 dX12_does_13 (by decide) (fun hc13 => ?_) (fun hc13 => ?_)
    · exact arith (by omega)
    · exact logic (by omega)
theorem m_holds (hr : RS r) (hB : BM g) (c : Nat) (hc6 : c < 6) (hgc : g 74 45 = (c : Int)) (l : List Nat) (hl : FamM g l) (hm : ∀ a ∈ l, a < 10) (hll : l.length ≤ 10) (k : Nat) (hk : k < l.length) (x : Nat) (hx5 : x ≤ 5) (w : Nat) (hw : w < 48) (fr to : Nat) (h91 : g 91 w = (fr : Int)) (h92 : g 92 w = (to : Int)) (hft : fr ≤ to) (hto : to ≤ 640) (X : Bool) (hX : hM (g 93) (g 94) (facA (vM g) c l k x) (to - fr) fr [] = some X) : CT (mX12_holds (rmD 2 0 0)) 0 0 shW [vR (some 74), vI (w : Int), vI (k : Int), vI (x : Int)] g z r (qG shW z r fun v g' => v = some (vI (bi X)) ∧ ∀ c', c' ≠ 104 → c' ≠ 105 → g' c' = g c') := by
  refine CT.of 2 rfl rfl ?_
  generalize hQ : (qG shW z r fun v g' => v = some (vI (bi X)) ∧ ∀ c', c' ≠ 104 → c' ≠ 105 → g' c' = g c') = Q
  have loop : ∀ (n i : Nat) (stk : List (Int × Bool)) (g' : GG), i + n = to → stk.length ≤ 200 → (∀ c', c' ≠ 104 → c' ≠ 105 → g' c' = g c') → SK (g' 104) (stk.map (fun p => p.1)) → SK (g' 105) (stk.map (fun p => bi p.2)) → hM (g 93) (g 94) (facA (vM g) c l k x) n i stk = some X → RJ (mX12_holds (rmD 2 0 0)) 0 0 shW.length Q 0 0 shW 11 [some (vR (some 74)), some (vI ((w : Int))), some (vI ((k : Int))), some (vI ((x : Int))), some (vI (((stk.length : Nat) : Int))), some (vI ((i : Int)))] [] g' z r := by
    intro n
    induction n with
    | zero =>
      intro i stk g' hi hs q1 s1 s2 hx
      match stk, hx with
      | [], hx => exact absurd hx (by simp [hM])
      | p :: p2 :: t, hx => exact absurd hx (by simp [hM])
      | [p], hx =>
        have hx : (!p.2 && decide (p.1 = 1)) = X := by simpa [hM] using hx
        have t1 : g' 104 0 = p.1 := SK_top s1
        have t2 : g' 105 0 = bi p.2 := SK_top s2
        refine R_iload dX12_holds_11 rfl ?_
        refine R_aload_n dX12_holds_13 rfl ?_
        refine R_getR _ (hr _ _ _ rfl) fd12_27 kf12_78 rfl dX12_holds_14 ?_
        refine R_iload_n dX12_holds_17 rfl ?_
        refine R_iald rfl (by omega) (by omega) dX12_holds_18 ?_
        rw [q1 92 (by decide) (by decide), Int.toNat_natCast, h92]
        refine R_icmp_ge 145 dX12_holds_19 (by decide) (fun hc19 => ?_) (fun hc19 => ?_)
        · refine R_aload_n dX12_holds_145 rfl ?_
          refine R_getR _ (hr _ _ _ rfl) fd12_51 kf12_117 rfl dX12_holds_146 ?_
          refine R_iconst dX12_holds_149 rfl rfl ?_
          refine R_zald rfl (by omega) (by omega) dX12_holds_150 ?_
          rw [show (0 : Int).toNat = 0 from rfl, t2]
          cases hp : p.2 with
          | true =>
            rw [hp] at hx
            refine R_if_ne 168 dX12_holds_151 (by decide) (fun hc151 => ?_) (fun hc151 => ?_)
            · refine R_iconst dX12_holds_168 rfl rfl ?_
              refine R_ireturn rfl (by first | rfl | exact nar_b2i | exact nar_bi) (by decide) (by decide) dX12_holds_169 ?_
              rw [← hQ]
              exact ⟨⟨by rw [← hx]; rfl, q1⟩, rfl, rfl, rfl⟩
            · exact absurd hc151 (by decide)
          | false =>
            rw [hp] at hx
            refine R_if_ne 168 dX12_holds_151 (by decide) (fun hc151 => ?_) (fun hc151 => ?_)
            · exact absurd rfl hc151
            refine R_aload_n dX12_holds_154 rfl ?_
            refine R_getR _ (hr _ _ _ rfl) fd12_50 kf12_114 rfl dX12_holds_155 ?_
            refine R_iconst dX12_holds_158 rfl rfl ?_
            refine R_iald rfl (by omega) (by omega) dX12_holds_159 ?_
            rw [show (0 : Int).toNat = 0 from rfl, t1]
            refine R_iconst dX12_holds_160 rfl rfl ?_
            refine R_icmp_ne 168 dX12_holds_161 (by decide) (fun hc161 => ?_) (fun hc161 => ?_)
            · refine R_iconst dX12_holds_168 rfl rfl ?_
              refine R_ireturn rfl (by first | rfl | exact nar_b2i | exact nar_bi) (by decide) (by decide) dX12_holds_169 ?_
              rw [← hQ]
              exact ⟨⟨by rw [← hx]; simp [bi, hc161], q1⟩, rfl, rfl, rfl⟩
            · refine R_iconst dX12_holds_164 rfl rfl ?_
              refine R_goto 169 dX12_holds_165 (by decide) ?_
              refine R_ireturn rfl (by first | rfl | exact nar_b2i | exact nar_bi) (by decide) (by decide) dX12_holds_169 ?_
              rw [← hQ]
              exact ⟨⟨by rw [← hx]; simp [bi, hc161], q1⟩, rfl, rfl, rfl⟩
        · exact absurd (by omega) hc19
    | succ n ih =>
      intro i stk g' hi hs q1 s1 s2 hx
      unfold hM at hx
      have e93 : g' 93 = g 93 := q1 93 (by decide) (by decide)
      have e94 : g' 94 = g 94 := q1 94 (by decide) (by decide)
      refine R_iload dX12_holds_11 rfl ?_
      refine R_aload_n dX12_holds_13 rfl ?_
      refine R_getR _ (hr _ _ _ rfl) fd12_27 kf12_78 rfl dX12_holds_14 ?_
      refine R_iload_n dX12_holds_17 rfl ?_
      refine R_iald rfl (by omega) (by omega) dX12_holds_18 ?_
      rw [q1 92 (by decide) (by decide), Int.toNat_natCast, h92]
      refine R_icmp_ge 145 dX12_holds_19 (by decide) (fun hc19 => ?_) (fun hc19 => ?_)
      · exact absurd hc19 (by omega)
      refine R_aload_n dX12_holds_22 rfl ?_
      refine R_getR _ (hr _ _ _ rfl) fd12_28 kf12_81 rfl dX12_holds_23 ?_
      refine R_iload dX12_holds_26 rfl ?_
      refine R_iald rfl (by omega) (by omega) dX12_holds_28 ?_
      rw [e93, Int.toNat_natCast]
      refine R_iconst dX12_holds_29 rfl rfl ?_
      refine R_icmp_le 54 dX12_holds_30 (by decide) (fun hc30 => ?_) (fun hc30 => ?_)
      · rw [if_neg (by omega)] at hx
        refine R_aload_n dX12_holds_54 rfl ?_
        refine R_getR _ (hr _ _ _ rfl) fd12_28 kf12_81 rfl dX12_holds_55 ?_
        refine R_iload dX12_holds_58 rfl ?_
        refine R_iald rfl (by omega) (by omega) dX12_holds_60 ?_
        rw [e93, Int.toNat_natCast]
        refine R_iconst dX12_holds_61 rfl rfl ?_
        refine R_icmp_ne 88 dX12_holds_62 (by decide) (fun hc62 => ?_) (fun hc62 => ?_)
        · rw [if_neg hc62] at hx
          by_cases hl2 : stk.length < 200
          · rw [if_pos hl2] at hx
            have fin : ∀ (g2 : GG) (v : Int), v = (if g 93 i = 0 then g 94 i else facA (vM g) c l k x (fidx (g 94 i))) → g2 = up2 g' 105 stk.length 0 → RJ (mX12_holds (rmD 2 0 0)) 0 0 shW.length Q 0 0 shW 135 [some (vR (some 74)), some (vI (w : Int)), some (vI (k : Int)), some (vI (x : Int)), some (vI ((stk.length : Nat) : Int)), some (vI (i : Int))] [vI v, vI ((stk.length : Nat) : Int), vR (some 104)] g2 z r := by
              intro g2 v hv hg2
              subst hg2
              refine R_iast rfl (by omega) (by omega) dX12_holds_135 ?_
              refine R_iincN dX12_holds_136 rfl (by decide) rfl (by unfold inI; omega) [_, _, _, _, _, _] rfl ?_
              refine R_iincN dX12_holds_139 rfl (by decide) rfl (by unfold inI; omega) [_, _, _, _, _, _] rfl ?_
              refine R_goto 11 dX12_holds_142 (by decide) ?_
              rw [Int.toNat_natCast]
              have := ih (i + 1) ((v, false) :: stk) (up2 (up2 g' 105 stk.length 0) 104 stk.length v) (by omega) (by simp; omega) (fun c' a b => by rw [up2_ne a, up2_ne b]; exact q1 c' a b) ?_ ?_ (by rw [hv]; exact hx)
              · simp only [List.length_cons] at this
                exact this
              · rw [List.map_cons]
                refine SK_set (o := g' 104) (fun j hj => ?_) ?_ s1
                · rw [List.length_map] at hj; rw [up2_k hj, up2_far (by decide)]
                · rw [List.length_map, up2_s]
              · rw [List.map_cons]
                refine SK_set (o := g' 105) (fun j hj => ?_) ?_ s2
                · rw [List.length_map] at hj; rw [up2_far (by decide), up2_k hj]
                · rw [List.length_map, up2_far (by decide), up2_s]; rfl
            refine R_aload_n dX12_holds_88 rfl ?_
            refine R_getR _ (hr _ _ _ rfl) fd12_51 kf12_117 rfl dX12_holds_89 ?_
            refine R_iload dX12_holds_92 rfl ?_
            refine R_iconst dX12_holds_94 rfl rfl ?_
            refine R_zast rfl (by first | exact Or.inl rfl | exact Or.inr rfl | omega) (by omega) (by omega) dX12_holds_95 ?_
            refine R_aload_n dX12_holds_96 rfl ?_
            refine R_getR _ (hr _ _ _ rfl) fd12_50 kf12_114 rfl dX12_holds_97 ?_
            try simp +decide only [up2_far, up2_s, up2_kk]
            refine R_iload dX12_holds_100 rfl ?_
            refine R_aload_n dX12_holds_102 rfl ?_
            refine R_getR _ (hr _ _ _ rfl) fd12_28 kf12_81 rfl dX12_holds_103 ?_
            try simp +decide only [up2_far, up2_s, up2_kk]
            refine R_iload dX12_holds_106 rfl ?_
            refine R_iald rfl (by omega) (by omega) dX12_holds_108 ?_
            try simp +decide only [up2_far, up2_s, up2_kk]
            simp only [Int.toNat_natCast]
            rw [e93]
            refine R_if_ne 122 dX12_holds_109 (by decide) (fun hc109 => ?_) (fun hc109 => ?_)
            · refine R_aload_n dX12_holds_122 rfl ?_
              refine R_aload_n dX12_holds_123 rfl ?_
              refine R_getR _ (hr _ _ _ rfl) fd12_29 kf12_84 rfl dX12_holds_124 ?_
              refine R_iload dX12_holds_127 rfl ?_
              refine R_iald rfl (by omega) (by omega) dX12_holds_129 ?_
              rw [up2_ne (by decide), e94, Int.toNat_natCast]
              refine R_iload_n dX12_holds_130 rfl ?_
              refine R_iload_n dX12_holds_131 rfl ?_
              have Q2 : ∀ c', c' ≠ 104 → c' ≠ 105 → (up2 g' 105 stk.length 0) c' = g c' := fun c' a b => by rw [up2_ne b]; exact q1 c' a b
              have sm : SM g (up2 g' 105 stk.length 0) := ⟨fun c' a b => Q2 c' (by omega) (by omega), fun k' a b => by rw [Q2 74 (by decide) (by decide)]⟩
              refine R_callV (m_value hr (sm.BM hB) c hc6 (by rw [Q2 74 (by decide) (by decide)]; exact hgc) l ⟨by rw [Q2 74 (by decide) (by decide)]; exact hl.1, by rw [Q2 101 (by decide) (by decide)]; exact hl.2⟩ hm hll k hk x hx5 (g 94 i)) (mvX12_value _) kiX12_value kvX12_value km12_343 rfl rfl (by decide) ⟨rfl, rfl, by decide, by decide⟩ (Nat.le_of_ble_eq_true rfl) dX12_holds_132 (fun v1 sh1 g1 z1 r1 hq => ?_)
              obtain ⟨rfl, rfl, rfl, rfl, rfl⟩ := hq
              rw [sm.vM]
              exact fin _ _ (by rw [if_neg hc109]) rfl
            · refine R_aload_n dX12_holds_112 rfl ?_
              refine R_getR _ (hr _ _ _ rfl) fd12_29 kf12_84 rfl dX12_holds_113 ?_
              refine R_iload dX12_holds_116 rfl ?_
              refine R_iald rfl (by omega) (by omega) dX12_holds_118 ?_
              rw [up2_ne (by decide), e94, Int.toNat_natCast]
              refine R_goto 135 dX12_holds_119 (by decide) ?_
              exact fin _ _ (by rw [if_pos hc109]) rfl
          · rw [if_neg hl2] at hx; exact absurd hx (by simp)
        · rw [if_pos hc62] at hx
          cases stk with
          | nil => exact absurd hx (by simp)
          | cons p t =>
            have hx : hM (g 93) (g 94) (facA (vM g) c l k x) n (i + 1) ((w32 (1 - p.1), p.2) :: t) = some X := hx
            have t1 : g' 104 t.length = p.1 := by have := SK_top s1; rwa [List.length_map] at this
            have hlt : ((p :: t).length : Int) - 1 = ((t.length : Nat) : Int) := by simp
            have hll2 : t.length < 200 := by simp at hs; omega
            refine R_aload_n dX12_holds_65 rfl ?_
            refine R_getR _ (hr _ _ _ rfl) fd12_50 kf12_114 rfl dX12_holds_66 ?_
            refine R_iload dX12_holds_69 rfl ?_
            refine R_iconst dX12_holds_71 rfl rfl ?_
            refine R_isubN dX12_holds_72 (by unfold inI; omega) ?_
            rw [hlt]
            refine R_iconst dX12_holds_73 rfl rfl ?_
            refine R_aload_n dX12_holds_74 rfl ?_
            refine R_getR _ (hr _ _ _ rfl) fd12_50 kf12_114 rfl dX12_holds_75 ?_
            refine R_iload dX12_holds_78 rfl ?_
            refine R_iconst dX12_holds_80 rfl rfl ?_
            refine R_isubN dX12_holds_81 (by unfold inI; omega) ?_
            rw [hlt]
            refine R_iald rfl (by omega) (by omega) dX12_holds_82 ?_
            rw [Int.toNat_natCast, t1]
            refine R_isub dX12_holds_83 ?_
            refine R_iast rfl (by omega) (by omega) dX12_holds_84 ?_
            refine R_goto 139 dX12_holds_85 (by decide) ?_
            refine R_iincN dX12_holds_139 rfl (by decide) rfl (by unfold inI; omega) [_, _, _, _, _, _] rfl ?_
            refine R_goto 11 dX12_holds_142 (by decide) ?_
            rw [Int.toNat_natCast]
            have := ih (i + 1) ((w32 (1 - p.1), p.2) :: t) (up2 g' 104 t.length (w32 (1 - p.1))) (by omega) (by simpa using hs) (fun c' a b => by rw [up2_ne a]; exact q1 c' a b) ?_ ?_ hx
            · simp only [List.length_cons] at this
              exact this
            · rw [List.map_cons]
              refine SK_set (o := g' 104) (fun j hj => ?_) ?_ (SK_tail s1)
              · rw [List.length_map] at hj; rw [up2_k hj]
              · rw [List.length_map, up2_s]
            · rw [List.map_cons]
              rw [up2_ne (by decide)]
              exact s2
      · rw [if_pos (by omega)] at hx
        match stk, hx with
        | [], hx => exact absurd hx (by simp)
        | [p], hx => exact absurd hx (by simp)
        | y :: p :: t, hx =>
          have t1 : g' 104 (t.length + 1) = y.1 := by have := SK_top s1; simpa using this
          have t2 : g' 105 (t.length + 1) = bi y.2 := by have := SK_top s2; simpa using this
          have t3 : g' 104 t.length = p.1 := by have := SK_top (SK_tail s1); simpa using this
          have t4 : g' 105 t.length = bi p.2 := by have := SK_top (SK_tail s2); simpa using this
          have hlt : ((y :: p :: t).length : Int) + -1 = ((t.length + 1 : Nat) : Int) := by simp only [List.length_cons]; omega
          have hlt2 : ((t.length + 1 : Nat) : Int) - 1 = ((t.length : Nat) : Int) := by omega
          have hll2 : t.length + 1 < 200 := by simp at hs; omega
          refine R_iincN dX12_holds_33 rfl (by decide) rfl (by unfold inI; omega) [_, _, _, _, _, _] rfl ?_
          refine R_aload_n dX12_holds_36 rfl ?_
          refine R_aload_n dX12_holds_37 rfl ?_
          refine R_getR _ (hr _ _ _ rfl) fd12_28 kf12_81 rfl dX12_holds_38 ?_
          refine R_iload dX12_holds_41 rfl ?_
          refine R_iald rfl (by omega) (by omega) dX12_holds_43 ?_
          rw [e93, Int.toNat_natCast, hlt]
          refine R_iload dX12_holds_44 rfl ?_
          refine R_iconst dX12_holds_46 rfl rfl ?_
          refine R_isubN dX12_holds_47 (by unfold inI; omega) ?_
          rw [hlt2]
          refine R_callV (m_does hr (g 93 i) t.length hll2 p y t3 t4 t1 t2) (mvX12_does _) kiX12_does kvX12_does km12_340 rfl rfl (by decide) ⟨rfl, rfl, by decide, by decide⟩ (Nat.le_of_ble_eq_true rfl) dX12_holds_48 (fun v1 sh1 g1 z1 r1 hq => ?_)
          obtain ⟨⟨rfl, o1, o2, o3⟩, rfl, rfl, rfl⟩ := hq
          refine R_goto 139 dX12_holds_51 (by decide) ?_
          refine R_iincN dX12_holds_139 rfl (by decide) rfl (by unfold inI; omega) [_, _, _, _, _, _] rfl ?_
          refine R_goto 11 dX12_holds_142 (by decide) ?_
          have := ih (i + 1) (doesM (g 93 i) p y :: t) g1 (by omega) (by simp; omega) (fun c' a b => by rw [o1 c' a b]; exact q1 c' a b) ?_ ?_ hx
          · simp only [List.length_cons] at this
            exact this
          · rw [List.map_cons]
            refine SK_set (o := g' 104) (fun j hj => ?_) ?_ (SK_tail (SK_tail s1))
            · rw [List.length_map] at hj; exact (o3 j hj).1
            · rw [List.length_map]; exact o2.1
          · rw [List.map_cons]
            refine SK_set (o := g' 105) (fun j hj => ?_) ?_ (SK_tail (SK_tail s2))
            · rw [List.length_map] at hj; exact (o3 j hj).2
            · rw [List.length_map]; exact o2.2
  refine R_iconst dX12_holds_0 rfl rfl ?_
  refine R_istore dX12_holds_1 (by decide) rfl [_, _, _, _, _, _] rfl ?_
  refine R_aload_n dX12_holds_3 rfl ?_
  refine R_getR _ (hr _ _ _ rfl) fd12_26 kf12_75 rfl dX12_holds_4 ?_
  refine R_iload_n dX12_holds_7 rfl ?_
  refine R_iald rfl (by omega) (by omega) dX12_holds_8 ?_
  rw [Int.toNat_natCast, h91]
  refine R_istore dX12_holds_9 (by decide) rfl [_, _, _, _, _, _] rfl ?_
  exact loop (to - fr) fr [] g (by omega) (by simp) (fun _ _ _ => rfl) (fun j y hj => by simp at hj) (fun j y hj => by simp at hj) hX
end MHOLD
