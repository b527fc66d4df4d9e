theorem min_ex : ∀ (W : List PR), W ≠ [] → ∃ x ∈ W, ∀ y ∈ W, x.2 ≤ y.2 := by
  intro W
  induction W with
  | nil => intro h; exact absurd rfl h
  | cons y t ih =>
    intro _
    by_cases ht : t = []
    · subst ht
      exact ⟨y, List.mem_cons_self, fun x hx => by rw [List.mem_singleton.mp hx]; exact Nat.le_refl _⟩
    · obtain ⟨x, hx, h1⟩ := ih ht
      by_cases hy : x.2 ≤ y.2
      · exact ⟨x, List.mem_cons_of_mem _ hx, fun u hu => by rcases List.mem_cons.mp hu with rfl | hu; exact hy; exact h1 u hu⟩
      · exact ⟨y, List.mem_cons_self, fun u hu => by rcases List.mem_cons.mp hu with rfl | hu; exact Nat.le_refl _; have := h1 u hu; omega⟩
theorem LeIs.ex {W : List PR} (h : W ≠ []) : ∃ le, LeIs W le := by
  obtain ⟨m, h1, x, hx, h2⟩ := max_ex W h
  have hne : W.filter (fun x => decide (x.1 = m)) ≠ [] := fun e => by
    have : x ∈ W.filter (fun x => decide (x.1 = m)) := List.mem_filter.mpr ⟨hx, by simp [h2]⟩
    rw [e] at this; cases this
  obtain ⟨y, hy, h3⟩ := min_ex _ hne
  obtain ⟨hy1, hy2⟩ := List.mem_filter.mp hy
  rw [decide_eq_true_eq] at hy2
  exact ⟨y.2, m, h1, ⟨y, hy1, hy2, rfl⟩, fun u hu hu2 => h3 u (List.mem_filter.mpr ⟨hu, by simp [hu2]⟩)⟩
/-- who may have whom while the row of i is sought -/
def AlF (le i c : Nat) : Nat → Nat := fun j => if j < i then 2 ^ fld le j else if j = i then 2 ^ c else 127
theorem AlF_lt {le i c : Nat} (hc : c < 8) (j : Nat) : AlF le i c j < 2 ^ 31 := by
  have h8 : ∀ x, x < 8 → (2 : Nat) ^ x < 2 ^ 31 := fun x hx => Nat.pow_lt_pow_right (by decide) (by omega)
  unfold AlF
  split
  · exact h8 _ fld_lt
  · split
    · exact h8 _ hc
    · decide
theorem bit127 : ∀ x, x < 7 → (127 : Nat).testBit x = true := by decide
section MFI
variable {s : VW} {K : Nat → CUS} {a b Y : Int}
theorem WS_fld (h : SBD s K a b Y) {x : PR} (hx : x ∈ WS s K a b Y) {j : Nat} (hj : j < (s 0 2).toNat) : fld x.2 j < 7 := by
  have hr := ((WS_mem h x).mp hx).1
  have hC := h.2.1
  rcases List.mem_cons.mp ((hr.2 j (by have := h.2.2.1; omega)).1 (by rw [whS_bit, decide_eq_true hj])) with e | e
  · omega
  · have := rv_mem.mp e; omega
theorem al_all (h : SBD s K a b Y) {Al : Nat → Nat} (hA : ∀ i, i < 10 → Al i = 127) : (WS s K a b Y).filter (alOK s Al) = WS s K a b Y := by
  rw [List.filter_eq_self]
  intro x hx
  rw [alOK_iff]
  intro i hi
  rw [hA i (by have := h.2.2.1; omega)]
  exact bit127 _ (WS_fld h hx hi)
theorem al_dec (h : SBD s K a b Y) {le i c : Nat} {mo : Int} (hL : LeIs (WS s K a b Y) le) (hmo : (∀ x ∈ WS s K a b Y, x.1 ≤ mo) ∧ ∃ x ∈ WS s K a b Y, x.1 = mo) (hi : i < (s 0 2).toNat) (hc : c ≤ fld le i) : (∃ x ∈ (WS s K a b Y).filter (alOK s (AlF le i c)), x.1 = mo) ↔ c = fld le i := by
  have hle := (hL.col h hi).1
  obtain ⟨m, l1, ⟨y, hy, hy1, hy2⟩, l3⟩ := hL
  have hm : m = mo := by
    obtain ⟨x, hx, hx1⟩ := hmo.2
    have := l1 x hx
    have := hmo.1 y hy
    omega
  subst hm
  constructor
  · rintro ⟨x, hx, hx1⟩
    obtain ⟨hx0, hx2⟩ := List.mem_filter.mp hx
    rw [alOK_iff] at hx2
    have hp : ∀ j, j < i → fld x.2 j = fld le j := fun j hj => by
      have := hx2 j (by omega)
      unfold AlF at this
      rw [if_pos hj, Nat.testBit_two_pow, decide_eq_true_eq] at this
      exact this.symm
    have hq : fld x.2 i = c := by
      have := hx2 i hi
      unfold AlF at this
      rw [if_neg (by omega), if_pos rfl, Nat.testBit_two_pow, decide_eq_true_eq] at this
      exact this.symm
    by_cases e : c = fld le i
    · exact e
    · have hlt := row_lex ((WS_mem h x).mp hx0).1.1 hle (by have := h.2.2.1; omega) hp (by omega)
      have := l3 x hx0 hx1
      omega
  · rintro rfl
    refine ⟨y, List.mem_filter.mpr ⟨hy, alOK_iff.mpr (fun j hj => ?_)⟩, hy1⟩
    unfold AlF
    rw [hy2]
    split
    · rw [Nat.testBit_two_pow, decide_eq_true rfl]
    · split
      · rename_i _ e; subst e; rw [Nat.testBit_two_pow, decide_eq_true rfl]
      · rw [← hy2]; exact bit127 _ (WS_fld h hy hj)
end MFI
/-- the reference's findings stand -/
def FI (g z : GG) (s : VW) (K : Nat → CUS) (a b Y : Int) : Prop := AG4 (-100000000) (WS s K a b Y) (g 74 62) (g 74 63) (z 74 64) (z 74 65) ∧ (∀ c : Nat, (c : Int) < s 0 1 → ∀ S, S ≤ whS s → g 106 (1024 * c + S) = LOWN (GS s K a b Y c S)) ∧ (∀ i, i < 10 → g 115 i = 127) ∧ ∃ le, LeIs (WS s K a b Y) le ∧ ∀ i, i < (s 0 2).toNat → g 116 i = (fld le i : Int)
def ZM (z z' : GG) : Prop := ∀ c', c' ≤ 73 → z' c' = z c'
def FSt (g z g' z' : GG) (K : Nat → CUS) : Prop := FMd g g' ∧ ZM z z' ∧ g' 74 23 = 1 ∧ FI g' z' (vM g) K (g 74 5) (g 74 6) (g 74 7)
/-- what the reference's WAYS rest on -/
def WQ (g z : GG) (r : RR) (K : Nat → CUS) : Prop := MP g r K ∧ (0 ≤ g 74 9 ∧ g 74 9 ≤ 1000) ∧ ((-1 ≤ g 74 5 ∧ g 74 5 < 4) ∧ (-1 ≤ g 74 6 ∧ g 74 6 < 4)) ∧ (g 74 23 = 0 ∨ (g 74 23 = 1 ∧ FI g z (vM g) K (g 74 5) (g 74 6) (g 74 7)))
def WSm (g : GG) (K : Nat → CUS) : List PR := WS (vM g) K (g 74 5) (g 74 6) (g 74 7)
theorem WQ.sbd {g z : GG} {r : RR} {K : Nat → CUS} (H : WQ g z r K) : SBD (vM g) K (g 74 5) (g 74 6) (g 74 7) := H.1.sbd H.2.1 _ _ _
theorem WMz.zm {z z' : GG} (h : WMz z z') : ZM z z' := fun c' a => h c' (by omega) (by omega) (by omega) (by omega)
theorem ZM.trans {z z1 z2 : GG} (h1 : ZM z z1) (h2 : ZM z1 z2) : ZM z z2 := fun c' a => (h2 c' a).trans (h1 c' a)
section MFINDS
variable {g z : GG} {r : RR}
theorem m_worksF (K : Nat → CUS) (H : MP g r K) (hal : 0 ≤ g 74 9 ∧ g 74 9 ≤ 1000) (a b Y : Int) (Al : Nat → Nat) (hAl : ∀ i, i < 10 → g 115 i = (Al i : Int) ∧ Al i < 2 ^ 31) (hbr : ∀ c : Nat, (c : Int) < (vM g) 0 1 → ∀ S, S ≤ whS (vM g) → g 106 (1024 * c + S) = LOWN (GS (vM g) K a b Y c S)) : CT (mX12_works (rmD 3 0 0)) 0 0 shW [vR (some 74)] g z r (qZ shW r fun v g' z' => v = none ∧ WMg g g' ∧ WMz z z' ∧ AG4 (-100000000) ((WS (vM g) K a b Y).filter (alOK (vM g) Al)) (g' 107 (whS (vM g))) (g' 108 (whS (vM g))) (z' 109 (whS (vM g))) (z' 110 (whS (vM g)))) := by
  refine (m_works K H hal a b Y Al hAl hbr).weaken ?_
  rintro v sh' g' z' r' ⟨⟨h1, h2, h3, h4⟩, h5, h6⟩
  exact ⟨⟨h1, h2, h3, AG4_perm (RW_perm (H.sbd hal a b Y)) h4⟩, h5, h6⟩
theorem m_finds (K : Nat → CUS) (H : WQ g z r K) : CT (mX12_finds (rmD 7 0 0)) 0 0 shW [vR (some 74)] g z r (qZ shW r fun v g' z' => v = none ∧ FSt g z g' z' K) := by
  obtain ⟨HM, hal, ⟨hA, hA2⟩, hk⟩ := id H
  obtain ⟨hr, hB, hB2, hK⟩ := id HM
  have hF := hB2.2.2.2.2.2.1
  have hs := H.sbd
  refine CT.of 2 rfl rfl ?_
  generalize hQ : (qZ shW r fun v g' z' => v = none ∧ FSt g z g' z' K) = Q
  have hwh := whS_lt hs
  have hwi := wh_m hF
  have e2 : (vM g) 0 2 = g 74 4 := rfl
  obtain ⟨le, hL⟩ := LeIs.ex (WS_ne hs)
  have hbdW : ∀ x ∈ WS (vM g) K (g 74 5) (g 74 6) (g 74 7), -70000 ≤ x.1 ∧ x.1 ≤ 7000 := fun x hx => (GS_6 hs (by have := hs.2.1; omega)).bd hx
  have hcol : ∀ i, i < (g 74 4).toNat → fld le i < 7 := fun i hi => by
    have h1 := (hL.col hs (i := i) hi).2
    have hC := hs.2.1
    rcases h1 with q | q <;> omega
  have hdec := fun i c mo => al_dec (i := i) (c := c) (mo := mo) hs hL
  rw [e2] at hdec
  generalize hWe : WS (vM g) K (g 74 5) (g 74 6) (g 74 7) = W at *
  have hne : W ≠ [] := by rw [← hWe]; exact WS_ne hs
  have wk : ∀ (g1 z1 : GG) (Al : Nat → Nat), FMd g g1 → (∀ i, i < 10 → g1 115 i = (Al i : Int) ∧ Al i < 2 ^ 31) → (∀ c : Nat, (c : Int) < (vM g) 0 1 → ∀ S, S ≤ whS (vM g) → g1 106 (1024 * c + S) = LOWN (GS (vM g) K (g 74 5) (g 74 6) (g 74 7) c S)) → CT (mX12_works (rmD 3 0 0)) 0 0 shW [vR (some 74)] g1 z1 r (qZ shW r fun v g' z' => v = none ∧ WMg g1 g' ∧ WMz z1 z' ∧ AG4 (-100000000) (W.filter (alOK (vM g) Al)) (g' 107 (whS (vM g))) (g' 108 (whS (vM g))) (z' 109 (whS (vM g))) (z' 110 (whS (vM g)))) := by
    intro g1 z1 Al f1 h1 h2
    have := m_worksF (z := z1) K (f1.MP HM) (by rw [f1.2 9 (by decide) (by decide) (by decide) (by decide) (by decide)]; exact hal) (g 74 5) (g 74 6) (g 74 7) Al h1 (by rw [f1.vM]; exact h2)
    rw [f1.vM, hWe] at this
    exact this
  generalize hwe : whS (vM g) = wh at *
  have loopI : ∀ (n i : Nat) (g1 z1 : GG), (i : Int) + n = g 74 4 → FMd g g1 → ZM z z1 → g1 74 23 = 1 → AG4 (-100000000) W (g1 74 62) (g1 74 63) (z1 74 64) (z1 74 65) → (∀ c : Nat, (c : Int) < (vM g) 0 1 → ∀ S, S ≤ wh → g1 106 (1024 * c + S) = LOWN (GS (vM g) K (g 74 5) (g 74 6) (g 74 7) c S)) → (∀ j, j < i → g1 116 j = (fld le j : Int) ∧ g1 115 j = ((2 ^ fld le j : Nat) : Int)) → (∀ j, i ≤ j → j < 10 → g1 115 j = 127) → RJ (mX12_finds (rmD 7 0 0)) 0 0 shW.length Q 0 0 shW 76 [some (vR (some 74)), some (vI ((wh : Int))), some (vI ((i : Int)))] [] g1 z1 r := by
    intro n
    induction n with
    | zero =>
      intro i g1 z1 hi f1 y1 hkn hag hbr hj1 hj2
      refine R_iload_n dX12_finds_76 rfl ?_
      refine R_aload_n dX12_finds_77 rfl ?_
      refine R_getI fd12_4 kf12_175 rfl dX12_finds_78 ?_
      rw [f1.2 4 (by decide) (by decide) (by decide) (by decide) (by decide)]
      refine R_icmp_ge 163 dX12_finds_81 (by decide) (fun hc81 => ?_) (fun hc81 => ?_)
      · refine R_aload_n dX12_finds_163 rfl ?_
        refine R_callV (m_allows hr) (mvX12_allows _) kiX12_allows kvX12_allows km12_418 rfl rfl (by decide) ⟨rfl, rfl, by decide, by decide⟩ (Nat.le_of_ble_eq_true rfl) dX12_finds_164 (fun v1 sh1 g2 z2 r1 hq => ?_)
        obtain ⟨⟨rfl, o1, o2⟩, rfl, rfl, rfl⟩ := hq
        refine R_return rfl (by decide) (by decide) dX12_finds_167 ?_
        have e74 : g2 74 = g1 74 := o1 74 (by decide)
        rw [← hQ]
        refine ⟨⟨rfl, f1.trans ⟨fun c' a b => o1 c' (by omega), fun k _ _ _ _ _ => by rw [e74]⟩, y1, by rw [e74]; exact hkn, ?_, ?_, o2, le, ?_, ?_⟩, rfl, rfl⟩
        · rw [e74, hWe]; exact hag
        · rw [o1 106 (by decide), hwe]; exact hbr
        · rw [hWe]; exact hL
        · intro j hj
          rw [o1 116 (by decide)]
          rw [e2] at hj
          exact (hj1 j (by omega)).1
      · exact absurd (by omega) hc81
    | succ n ih =>
      intro i g1 z1 hi f1 y1 hkn hag hbr hj1 hj2
      have hfi := hcol i (by omega)
      have loopR : ∀ (m c : Nat) (g2 z2 : GG), c + m = fld le i → FMd g g2 → ZM z z2 → g2 74 23 = 1 → AG4 (-100000000) W (g2 74 62) (g2 74 63) (z2 74 64) (z2 74 65) → (∀ c : Nat, (c : Int) < (vM g) 0 1 → ∀ S, S ≤ wh → g2 106 (1024 * c + S) = LOWN (GS (vM g) K (g 74 5) (g 74 6) (g 74 7) c S)) → (∀ j, j < i → g2 116 j = (fld le j : Int)) → g2 116 i = (c : Int) → (∀ j, j < 10 → g2 115 j = (AlF le i c j : Int)) → AG4 (-100000000) (W.filter (alOK (vM g) (AlF le i c))) (g2 107 wh) (g2 108 wh) (z2 109 wh) (z2 110 wh) → RJ (mX12_finds (rmD 7 0 0)) 0 0 shW.length Q 0 0 shW 102 [some (vR (some 74)), some (vI ((wh : Int))), some (vI ((i : Int)))] [] g2 z2 r := by
        intro m
        induction m with
        | zero =>
          intro c g2 z2 hcm f2 y2 hkn2 hag2 hbr2 h116 h116i h115 hfl
          have hmo := hag2.2.2.2 hne
          obtain ⟨x, hx, hx1⟩ := (hdec i c (g2 74 62) ⟨hmo.1, hmo.2.1⟩ (by omega) (by omega)).mpr (by omega)
          have hfb := hfl.bd (fun x hx => hbdW x (List.mem_filter.mp hx).1) (by decide)
          have hne2 : W.filter (alOK (vM g) (AlF le i c)) ≠ [] := fun e => by rw [e] at hx; cases hx
          have hbe : 1 ≤ z2 109 wh := by rcases hfb.1 with q | q; exact absurd q.1 hne2; exact q.2.2.2
          have hmx : g2 107 wh = g2 74 62 := by
            have h4 := hfl.2.2.2 hne2
            have h5 := h4.1 x hx
            obtain ⟨u, hu, hu1⟩ := h4.2.1
            have := hmo.1 u (List.mem_filter.mp hu).1
            omega
          refine R_aload_n dX12_finds_102 rfl ?_
          refine R_getR _ (hr _ _ _ rfl) fd12_55 kf12_130 rfl dX12_finds_103 ?_
          refine R_iload_n dX12_finds_106 rfl ?_
          refine R_lald rfl (by omega) (by omega) dX12_finds_107 ?_
          try rw [Int.toNat_natCast]
          refine R_lconst dX12_finds_108 ?_
          refine R_lcmp dX12_finds_109 ?_
          refine R_if_eq 126 dX12_finds_110 (by decide) (fun hc110 => ?_) (fun hc110 => ?_)
          · rw [lcm_z] at hc110
            exact absurd hc110 (by show ¬ z2 109 wh = 0; omega)
          refine R_aload_n dX12_finds_113 rfl ?_
          refine R_getR _ (hr _ _ _ rfl) fd12_53 kf12_124 rfl dX12_finds_114 ?_
          refine R_iload_n dX12_finds_117 rfl ?_
          refine R_iald rfl (by omega) (by omega) dX12_finds_118 ?_
          try rw [Int.toNat_natCast]
          refine R_aload_n dX12_finds_119 rfl ?_
          refine R_getI fd12_62 kf12_424 rfl dX12_finds_120 ?_
          refine R_icmp_eq 157 dX12_finds_123 (by decide) (fun hc123 => ?_) (fun hc123 => ?_)
          · refine R_iincN dX12_finds_157 rfl (by decide) rfl (by unfold inI; omega) [_, _, _] rfl ?_
            refine R_goto 76 dX12_finds_160 (by decide) ?_
            refine ih (i + 1) g2 z2 (by omega) f2 y2 hkn2 hag2 hbr2 (fun j hj => ?_) (fun j h1 h2 => ?_)
            · have ha := h115 j (by omega)
              by_cases hji : j = i
              · subst hji
                refine ⟨by rw [h116i]; omega, ?_⟩
                rw [ha]
                unfold AlF
                rw [if_neg (by omega), if_pos rfl, show c = fld le j by omega]
              · refine ⟨h116 j (by omega), ?_⟩
                rw [ha]
                unfold AlF
                rw [if_pos (by omega)]
            · rw [h115 j h2]
              unfold AlF
              rw [if_neg (by omega), if_neg (by omega)]
              rfl
          · exact absurd hmx hc123
        | succ m ihR =>
          intro c g2 z2 hcm f2 y2 hkn2 hag2 hbr2 h116 h116i h115 hfl
          have hmo := hag2.2.2.2 hne
          have hno : ¬ ∃ x ∈ W.filter (alOK (vM g) (AlF le i c)), x.1 = g2 74 62 := fun q => by
            have := (hdec i c (g2 74 62) ⟨hmo.1, hmo.2.1⟩ (by omega) (by omega)).mp q
            omega
          have hfb := hfl.bd (fun x hx => hbdW x (List.mem_filter.mp hx).1) (by decide)
          have go : RJ (mX12_finds (rmD 7 0 0)) 0 0 shW.length Q 0 0 shW 126 [some (vR (some 74)), some (vI ((wh : Int))), some (vI ((i : Int)))] [] g2 z2 r := by
            refine R_aload_n dX12_finds_126 rfl ?_
            refine R_getR _ (hr _ _ _ rfl) fd12_66 kf12_152 rfl dX12_finds_127 ?_
            refine R_iload_n dX12_finds_130 rfl ?_
            refine R_dup2 dX12_finds_131 (fun _ h => by cases h) (fun _ h => by cases h) ?_
            refine R_iald rfl (by omega) (by omega) dX12_finds_132 ?_
            rw [Int.toNat_natCast, h116i]
            refine R_iconst dX12_finds_133 rfl rfl ?_
            refine R_iaddN dX12_finds_134 (by unfold inI; omega) ?_
            refine R_iast rfl (by omega) (by omega) dX12_finds_135 ?_
            rw [Int.toNat_natCast]
            refine R_aload_n dX12_finds_136 rfl ?_
            refine R_getR _ (hr _ _ _ rfl) fd12_61 kf12_149 rfl dX12_finds_137 ?_
            try simp +decide only [up2_far, up2_s, up2_kk]
            refine R_iload_n dX12_finds_140 rfl ?_
            refine R_iconst dX12_finds_141 rfl rfl ?_
            refine R_aload_n dX12_finds_142 rfl ?_
            refine R_getR _ (hr _ _ _ rfl) fd12_66 kf12_152 rfl dX12_finds_143 ?_
            try simp +decide only [up2_far, up2_s, up2_kk]
            refine R_iload_n dX12_finds_146 rfl ?_
            refine R_iald rfl (by omega) (by omega) dX12_finds_147 ?_
            try rw [Int.toNat_natCast]
            try simp +decide only [up2_far, up2_s, up2_kk]
            rw [show (c : Int) + 1 = ((c + 1 : Nat) : Int) by omega]
            refine R_ishl dX12_finds_148 ?_
            rw [bShl_1 (by omega)]
            refine R_iast rfl (by omega) (by omega) dX12_finds_149 ?_
            rw [Int.toNat_natCast]
            refine R_aload_n dX12_finds_150 rfl ?_
            have f3 : FMd g (up2 (up2 g2 116 i ((c + 1 : Nat) : Int)) 115 i ((2 ^ (c + 1) : Nat) : Int)) := f2.trans ⟨fun c' a b => by rw [up2_ne (by omega), up2_ne (by omega)], fun k _ _ _ _ _ => by rw [up2_ne (by decide), up2_ne (by decide)]⟩
            have h115' : ∀ j, j < 10 → up2 (up2 g2 116 i ((c + 1 : Nat) : Int)) 115 i ((2 ^ (c + 1) : Nat) : Int) 115 j = (AlF le i (c + 1) j : Int) := by
              intro j hj
              by_cases hji : j = i
              · subst hji
                rw [up2_s]
                unfold AlF
                rw [if_neg (by omega), if_pos rfl]
              · rw [up2_k hji, up2_ne (by decide), h115 j hj]
                unfold AlF
                rw [if_neg hji, if_neg hji]
            refine R_callV (wk _ z2 (AlF le i (c + 1)) f3 (fun j hj => ⟨h115' j hj, AlF_lt (by omega) j⟩) (by rw [up2_ne (by decide), up2_ne (by decide)]; exact hbr2)) (mvX12_works _) kiX12_works kvX12_works km12_421 rfl rfl (by decide) ⟨rfl, rfl, by decide, by decide⟩ (Nat.le_of_ble_eq_true rfl) dX12_finds_151 (fun v1 sh1 g4 z4 r1 hq => ?_)
            obtain ⟨⟨rfl, w4, y4, hfl4⟩, rfl, rfl⟩ := hq
            refine R_goto 102 dX12_finds_154 (by decide) ?_
            have e74 : g4 74 = g2 74 := by rw [w4 74 (by decide) (by decide) (by decide) (by decide), up2_ne (by decide), up2_ne (by decide)]
            refine ihR (c + 1) g4 z4 (by omega) (f3.trans w4.fmd) (y2.trans y4.zm) (by rw [e74]; exact hkn2) (by rw [e74, y4 74 (by decide) (by decide) (by decide) (by decide)]; exact hag2) ?_ (fun j hj => ?_) ?_ (fun j hj => ?_) hfl4
            · rw [w4 106 (by decide) (by decide) (by decide) (by decide), up2_ne (by decide), up2_ne (by decide)]; exact hbr2
            · rw [w4 116 (by decide) (by decide) (by decide) (by decide), up2_ne (by decide), up2_k (by omega)]; exact h116 j hj
            · rw [w4 116 (by decide) (by decide) (by decide) (by decide), up2_ne (by decide), up2_s]
            · rw [w4 115 (by decide) (by decide) (by decide) (by decide)]; exact h115' j hj
          refine R_aload_n dX12_finds_102 rfl ?_
          refine R_getR _ (hr _ _ _ rfl) fd12_55 kf12_130 rfl dX12_finds_103 ?_
          refine R_iload_n dX12_finds_106 rfl ?_
          refine R_lald rfl (by omega) (by omega) dX12_finds_107 ?_
          try rw [Int.toNat_natCast]
          refine R_lconst dX12_finds_108 ?_
          refine R_lcmp dX12_finds_109 ?_
          refine R_if_eq 126 dX12_finds_110 (by decide) (fun hc110 => ?_) (fun hc110 => ?_)
          · exact go
          rw [lcm_z] at hc110
          have hc110 : ¬ z2 109 wh = 0 := hc110
          have hne2 : W.filter (alOK (vM g) (AlF le i c)) ≠ [] := fun e => by
            have h1 := hfb.2.2.2
            have h2 := hfb.2.2.1
            rw [e] at h1
            simp at h1
            omega
          refine R_aload_n dX12_finds_113 rfl ?_
          refine R_getR _ (hr _ _ _ rfl) fd12_53 kf12_124 rfl dX12_finds_114 ?_
          refine R_iload_n dX12_finds_117 rfl ?_
          refine R_iald rfl (by omega) (by omega) dX12_finds_118 ?_
          try rw [Int.toNat_natCast]
          refine R_aload_n dX12_finds_119 rfl ?_
          refine R_getI fd12_62 kf12_424 rfl dX12_finds_120 ?_
          refine R_icmp_eq 157 dX12_finds_123 (by decide) (fun hc123 => ?_) (fun hc123 => ?_)
          · obtain ⟨u, hu, hu1⟩ := (hfl.2.2.2 hne2).2.1
            exact absurd ⟨u, hu, by rw [hu1]; exact hc123⟩ hno
          · exact go
      refine R_iload_n dX12_finds_76 rfl ?_
      refine R_aload_n dX12_finds_77 rfl ?_
      refine R_getI fd12_4 kf12_175 rfl dX12_finds_78 ?_
      rw [f1.2 4 (by decide) (by decide) (by decide) (by decide) (by decide)]
      refine R_icmp_ge 163 dX12_finds_81 (by decide) (fun hc81 => ?_) (fun hc81 => ?_)
      · exact absurd hc81 (by omega)
      refine R_aload_n dX12_finds_84 rfl ?_
      refine R_getR _ (hr _ _ _ rfl) fd12_66 kf12_152 rfl dX12_finds_85 ?_
      refine R_iload_n dX12_finds_88 rfl ?_
      refine R_iconst dX12_finds_89 rfl rfl ?_
      refine R_iast rfl (by omega) (by omega) dX12_finds_90 ?_
      try rw [Int.toNat_natCast]
      refine R_aload_n dX12_finds_91 rfl ?_
      refine R_getR _ (hr _ _ _ rfl) fd12_61 kf12_149 rfl dX12_finds_92 ?_
      try simp +decide only [up2_far, up2_s, up2_kk]
      refine R_iload_n dX12_finds_95 rfl ?_
      refine R_iconst dX12_finds_96 rfl rfl ?_
      refine R_iast rfl (by omega) (by omega) dX12_finds_97 ?_
      try rw [Int.toNat_natCast]
      refine R_aload_n dX12_finds_98 rfl ?_
      have f3 : FMd g (up2 (up2 g1 116 i 0) 115 i 1) := f1.trans ⟨fun c' a b => by rw [up2_ne (by omega), up2_ne (by omega)], fun k _ _ _ _ _ => by rw [up2_ne (by decide), up2_ne (by decide)]⟩
      have h115' : ∀ j, j < 10 → up2 (up2 g1 116 i 0) 115 i 1 115 j = (AlF le i 0 j : Int) := by
        intro j hj
        unfold AlF
        by_cases hji : j = i
        · subst hji
          rw [up2_s, if_neg (by omega), if_pos rfl]
          rfl
        · rw [up2_k hji, up2_ne (by decide), if_neg hji]
          by_cases hlt : j < i
          · rw [if_pos hlt, (hj1 j hlt).2]
          · rw [if_neg hlt, hj2 j (by omega) hj]
            rfl
      refine R_callV (wk _ z1 (AlF le i 0) f3 (fun j hj => ⟨h115' j hj, AlF_lt (by omega) j⟩) (by rw [up2_ne (by decide), up2_ne (by decide)]; exact hbr)) (mvX12_works _) kiX12_works kvX12_works km12_421 rfl rfl (by decide) ⟨rfl, rfl, by decide, by decide⟩ (Nat.le_of_ble_eq_true rfl) dX12_finds_99 (fun v1 sh1 g4 z4 r1 hq => ?_)
      obtain ⟨⟨rfl, w4, y4, hfl4⟩, rfl, rfl⟩ := hq
      have e74 : g4 74 = g1 74 := by rw [w4 74 (by decide) (by decide) (by decide) (by decide), up2_ne (by decide), up2_ne (by decide)]
      refine loopR (fld le i) 0 g4 z4 (by omega) (f3.trans w4.fmd) (y1.trans y4.zm) (by rw [e74]; exact hkn) (by rw [e74, y4 74 (by decide) (by decide) (by decide) (by decide)]; exact hag) ?_ (fun j hj => ?_) ?_ (fun j hj => ?_) hfl4
      · rw [w4 106 (by decide) (by decide) (by decide) (by decide), up2_ne (by decide), up2_ne (by decide)]; exact hbr
      · rw [w4 116 (by decide) (by decide) (by decide) (by decide), up2_ne (by decide), up2_k (by omega)]; exact (hj1 j hj).1
      · rw [w4 116 (by decide) (by decide) (by decide) (by decide), up2_ne (by decide), up2_s]; rfl
      · rw [w4 115 (by decide) (by decide) (by decide) (by decide)]; exact h115' j hj
  refine R_aload_n dX12_finds_0 rfl ?_
  refine R_getI fd12_23 kf12_182 rfl dX12_finds_1 ?_
  refine R_if_eq 8 dX12_finds_4 (by decide) (fun hc4 => ?_) (fun hc4 => ?_)
  rotate_left
  · refine R_return rfl (by decide) (by decide) dX12_finds_7 ?_
    rcases hk with q | q
    · exact absurd q hc4
    · rw [← hQ]
      exact ⟨⟨rfl, FMd.rfl, fun _ _ => rfl, q.1, q.2⟩, rfl, rfl⟩
  refine R_aload_n dX12_finds_8 rfl ?_
  refine R_iconst dX12_finds_9 rfl rfl ?_
  refine R_putZ (by first | exact Or.inl rfl | exact Or.inr rfl | omega) fd12_23 rfl kf12_182 rfl dX12_finds_10 ?_
  refine R_aload_n dX12_finds_13 rfl ?_
  have f0 : FMd g (up2 g 74 23 1) := ⟨fun c' a b => up2_ne a, fun k _ _ h _ _ => up2_k h⟩
  refine R_callV (m_families K (f0.MP HM) hal hA hA2) (mvX12_families _) kiX12_families kvX12_families km12_415 rfl rfl (by decide) ⟨rfl, rfl, by decide, by decide⟩ (Nat.le_of_ble_eq_true rfl) dX12_finds_14 (fun v1 sh1 g1 z1 r1 hq => ?_)
  obtain ⟨⟨rfl, s1, hbr⟩, rfl, rfl, rfl⟩ := hq
  rw [f0.vM, hwe] at hbr
  have f1 := f0.trans s1.fmd
  have hkn1 : g1 74 23 = 1 := by rw [s1.2 23 (by decide) (by decide), up2_s]
  refine R_aload_n dX12_finds_17 rfl ?_
  refine R_callV (m_allows hr) (mvX12_allows _) kiX12_allows kvX12_allows km12_418 rfl rfl (by decide) ⟨rfl, rfl, by decide, by decide⟩ (Nat.le_of_ble_eq_true rfl) dX12_finds_18 (fun v1 sh1 g2 z2 r1 hq => ?_)
  obtain ⟨⟨rfl, o1, o2⟩, rfl, rfl, rfl⟩ := hq
  have f2 : FMd g g2 := f1.trans ⟨fun c' a b => o1 c' (by omega), fun k _ _ _ _ _ => by rw [o1 74 (by decide)]⟩
  have hbr2 : ∀ c : Nat, (c : Int) < (vM g) 0 1 → ∀ S, S ≤ wh → g2 106 (1024 * c + S) = LOWN (GS (vM g) K (g 74 5) (g 74 6) (g 74 7) c S) := by
    rw [o1 106 (by decide)]; exact hbr
  refine R_aload_n dX12_finds_21 rfl ?_
  refine R_callV (wk g2 _ (fun _ => 127) f2 (fun j hj => ⟨o2 j hj, by decide⟩) hbr2) (mvX12_works _) kiX12_works kvX12_works km12_421 rfl rfl (by decide) ⟨rfl, rfl, by decide, by decide⟩ (Nat.le_of_ble_eq_true rfl) dX12_finds_22 (fun v1 sh1 g3 z3 r1 hq => ?_)
  obtain ⟨⟨rfl, w3, y3, hfl⟩, rfl, rfl⟩ := hq
  have hall := al_all hs (Al := fun _ => 127) (fun _ _ => rfl)
  rw [hWe] at hall
  rw [hall] at hfl
  have f3 := f2.trans w3.fmd
  refine R_iconst dX12_finds_25 rfl rfl ?_
  refine R_aload_n dX12_finds_26 rfl ?_
  refine R_getI fd12_4 kf12_175 rfl dX12_finds_27 ?_
  rw [f3.2 4 (by decide) (by decide) (by decide) (by decide) (by decide)]
  refine R_ishl dX12_finds_30 ?_
  rw [hwi]
  refine R_iconst dX12_finds_31 rfl rfl ?_
  refine R_isubN dX12_finds_32 (by unfold inI; omega) ?_
  rw [show ((wh + 1 : Nat) : Int) - 1 = (wh : Int) by omega]
  refine R_istore_n dX12_finds_33 (by decide) rfl [_, _, _] rfl ?_
  refine R_aload_n dX12_finds_34 rfl ?_
  refine R_aload_n dX12_finds_35 rfl ?_
  refine R_getR _ (hr _ _ _ rfl) fd12_53 kf12_124 rfl dX12_finds_36 ?_
  refine R_iload_n dX12_finds_39 rfl ?_
  refine R_iald rfl (by omega) (by omega) dX12_finds_40 ?_
  try rw [Int.toNat_natCast]
  refine R_putI fd12_62 rfl kf12_424 rfl dX12_finds_41 ?_
  refine R_aload_n dX12_finds_44 rfl ?_
  refine R_aload_n dX12_finds_45 rfl ?_
  refine R_getR _ (hr _ _ _ rfl) fd12_54 kf12_127 rfl dX12_finds_46 ?_
  try simp +decide only [up2_far, up2_s, up2_kk]
  refine R_iload_n dX12_finds_49 rfl ?_
  refine R_iald rfl (by omega) (by omega) dX12_finds_50 ?_
  try rw [Int.toNat_natCast]
  try simp +decide only [up2_far, up2_s, up2_kk]
  refine R_putI fd12_63 rfl kf12_427 rfl dX12_finds_51 ?_
  refine R_aload_n dX12_finds_54 rfl ?_
  refine R_aload_n dX12_finds_55 rfl ?_
  refine R_getR _ (hr _ _ _ rfl) fd12_55 kf12_130 rfl dX12_finds_56 ?_
  try simp +decide only [up2_far, up2_s, up2_kk]
  refine R_iload_n dX12_finds_59 rfl ?_
  refine R_lald rfl (by omega) (by omega) dX12_finds_60 ?_
  try rw [Int.toNat_natCast]
  try simp +decide only [up2_far, up2_s, up2_kk]
  refine R_putJ fd12_64 rfl kf12_430 rfl dX12_finds_61 ?_
  refine R_aload_n dX12_finds_64 rfl ?_
  refine R_aload_n dX12_finds_65 rfl ?_
  refine R_getR _ (hr _ _ _ rfl) fd12_56 kf12_134 rfl dX12_finds_66 ?_
  try simp +decide only [up2_far, up2_s, up2_kk]
  refine R_iload_n dX12_finds_69 rfl ?_
  refine R_lald rfl (by omega) (by omega) dX12_finds_70 ?_
  try rw [Int.toNat_natCast]
  try simp +decide only [up2_far, up2_s, up2_kk]
  refine R_putJ fd12_65 rfl kf12_434 rfl dX12_finds_71 ?_
  refine R_iconst dX12_finds_74 rfl rfl ?_
  refine R_istore_n dX12_finds_75 (by decide) rfl [_, _, _] rfl ?_
  try simp +decide only [up2_far, up2_s, up2_kk]
  refine loopI (g 74 4).toNat 0 _ _ (by omega) (f3.trans ⟨fun c' a b => by rw [up2_ne a, up2_ne a], fun k _ _ _ h1 h2 => by rw [up2_k h2, up2_k h1]⟩) (y3.zm.trans (fun c' a => by rw [up2_ne (by omega), up2_ne (by omega)])) ?_ ?_ ?_ (fun j hj => by omega) (fun j _ hj => ?_)
  · rw [up2_k (by decide), up2_k (by decide), w3 74 (by decide) (by decide) (by decide) (by decide), o1 74 (by decide)]; exact hkn1
  · simp [up2]
    exact hfl
  · rw [up2_ne (by decide), up2_ne (by decide), w3 106 (by decide) (by decide) (by decide) (by decide)]; exact hbr2
  · rw [up2_ne (by decide), up2_ne (by decide), w3 115 (by decide) (by decide) (by decide) (by decide)]; exact o2 j hj
end MFINDS
