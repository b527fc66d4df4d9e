/-- how the reference looks at two children j before k -/
def prM (s : VW) (l : List Nat) (k j : Nat) : Prop := ¬ (s 9 (l.getD k 0) - s 9 (l.getD j 0) = 1) ∧ ¬ (s 9 (l.getD k 0) - s 9 (l.getD j 0) = 0 ∧ 1 < (k : Int) - (j : Int)) ∧ (s 8 (l.getD j 0) = s 8 (l.getD k 0) → isGone s (l.getD j 0) (s 9 (l.getD k 0)) = true)
theorem getD_take {l : List Nat} {k j : Nat} (h : j < k) : (l.take k).getD j 0 = l.getD j 0 := by
  rw [List.getD_eq_getElem?_getD, List.getD_eq_getElem?_getD, List.getElem?_take_of_lt h]
theorem mem_take {l : List Nat} {k e : Nat} (hk : k ≤ l.length) (h : e ∈ l.take k) : ∃ j, j < k ∧ l.getD j 0 = e := by
  obtain ⟨j, hj, rfl⟩ := List.mem_iff_getElem.mp h
  rw [List.length_take] at hj
  refine ⟨j, by omega, ?_⟩
  rw [List.getD_eq_getElem?_getD, List.getElem?_eq_getElem (by omega), List.getElem_take]
  rfl
theorem take_mem {l : List Nat} {k j : Nat} (hk : k ≤ l.length) (h : j < k) : l.getD j 0 ∈ l.take k := by
  rw [← getD_take h]
  exact getD_mem (by rw [List.length_take]; omega)
theorem sorted_le {s : VW} {l : List Nat} (hs : l.Pairwise (fun a b => s 9 a ≤ s 9 b)) {i j : Nat} (hij : i < j) (hj : j < l.length) : s 9 (l.getD i 0) ≤ s 9 (l.getD j 0) := by
  have := List.pairwise_iff_getElem.mp hs i j (by omega) hj hij
  rw [List.getD_eq_getElem?_getD, List.getD_eq_getElem?_getD, List.getElem?_eq_getElem (by omega), List.getElem?_eq_getElem hj]
  exact this
theorem fits_prM {s : VW} {l : List Nat} (hs : l.Pairwise (fun a b => s 9 a ≤ s 9 b)) {k : Nat} (hk : k < l.length) : fits s (l.take k) (l.getD k 0) = true ↔ ∀ j, j < k → prM s l k j := by
  unfold fits
  rw [Bool.and_eq_true, List.all_eq_true, decide_eq_true_eq]
  constructor
  · rintro ⟨h1, h2⟩ j hj
    have hf := h1 _ (take_mem (by omega) hj)
    unfold fit1 at hf
    rw [Bool.and_eq_true, decide_eq_true_eq, Bool.or_eq_true, decide_eq_true_eq] at hf
    refine ⟨by omega, ?_, fun hn => ?_⟩
    · rintro ⟨hg, hd⟩
      have hj2 : j < k - 1 := by omega
      have hle := sorted_le hs hj2 (by omega)
      have hle2 := sorted_le hs (show k - 1 < k by omega) hk
      have htk : l.take k = l.take (k - 1) ++ [l.getD (k - 1) 0] := by
        have : k = (k - 1) + 1 := by omega
        conv => lhs; rw [this]
        rw [List.take_add_one, List.getElem?_eq_getElem (by omega), List.getD_eq_getElem?_getD, List.getElem?_eq_getElem (by omega)]
        rfl
      unfold twn at h2
      rw [htk, List.filter_append, List.length_append] at h2
      have q1 : 0 < ((l.take (k - 1)).filter (fun e => decide (s 9 e = s 9 (l.getD k 0)))).length := by
        rw [List.length_pos_iff_exists_mem]
        exact ⟨l.getD j 0, List.mem_filter.mpr ⟨take_mem (by omega) hj2, by rw [decide_eq_true_eq]; omega⟩⟩
      have q2 : ([l.getD (k - 1) 0].filter (fun e => decide (s 9 e = s 9 (l.getD k 0)))).length = 1 := by
        rw [List.filter_cons, if_pos (by rw [decide_eq_true_eq]; omega)]
        rfl
      omega
    · rcases hf.2 with q | q
      · exact absurd hn q
      · exact q
  · intro h
    refine ⟨fun e he => ?_, ?_⟩
    · obtain ⟨j, hj, rfl⟩ := mem_take (by omega) he
      obtain ⟨p1, p2, p3⟩ := h j hj
      unfold fit1
      rw [Bool.and_eq_true, decide_eq_true_eq, Bool.or_eq_true, decide_eq_true_eq]
      refine ⟨by omega, ?_⟩
      by_cases hn : s 8 (l.getD j 0) = s 8 (l.getD k 0)
      · exact Or.inr (p3 hn)
      · exact Or.inl hn
    · unfold twn
      cases k with
      | zero => simp
      | succ m =>
        have htk : l.take (m + 1) = l.take m ++ [l.getD m 0] := by
          rw [List.take_add_one, List.getElem?_eq_getElem (by omega), List.getD_eq_getElem?_getD, List.getElem?_eq_getElem (by omega)]
          rfl
        rw [htk, List.filter_append, List.length_append]
        have q1 : (l.take m).filter (fun e => decide (s 9 e = s 9 (l.getD (m + 1) 0))) = [] := by
          rw [List.filter_eq_nil_iff]
          intro e he
          obtain ⟨j, hj, rfl⟩ := mem_take (by omega) he
          obtain ⟨p1, p2, p3⟩ := h j (by omega)
          rw [decide_eq_true_eq]
          intro q
          exact p2 ⟨by omega, by omega⟩
        rw [q1]
        have := List.length_filter_le (fun e => decide (s 9 e = s 9 (l.getD (m + 1) 0))) [l.getD m 0]
        simp at this ⊢
        omega
section MCAN
variable {g z : GG} {r : RR}
theorem famM_at {l : List Nat} {g : GG} (hl : FamM g l) {j : Nat} (hj : j < l.length) : g 101 j = ((l.getD j 0 : Nat) : Int) := hl.2 j _ (by rw [List.getD_eq_getElem?_getD, List.getElem?_eq_getElem hj]; rfl)
def BM (g : GG) : Prop := (∀ j, 0 ≤ g 84 j ∧ g 84 j ≤ 299) ∧ (∀ j, 0 ≤ g 83 j ∧ g 83 j ≤ 15) ∧ (∀ j, g 76 j = 0 ∨ g 76 j = 1) ∧ (∀ j, 0 ≤ g 80 j ∧ g 80 j ≤ 299) ∧ (∀ j, 0 ≤ g 77 j ∧ g 77 j ≤ 100) ∧ 0 ≤ g 74 8 ∧ g 74 8 ≤ 100
theorem m_canBe (hr : RS r) (hB : BM g) (c : Nat) (hc6 : c < 6) (hgc : g 74 45 = (c : Int)) (l : List Nat) (hl : FamM g l) (hm : ∀ a ∈ l, a < 10) (hll : l.length ≤ 10) (hs : l.Pairwise (fun a b => g 84 a ≤ g 84 b)) : CT (mX12_canBe (rmD 2 0 0)) 0 0 shW [vR (some 74)] g z r (qP shW g z r (some (vI (bi (cbS (vM g) c [] l))))) := by
  refine CT.of 3 rfl rfl ?_
  generalize hX : cbS (vM g) c [] l = X
  generalize hQ : (qP shW g z r (some (vI (bi X)))) = Q
  have hs' : l.Pairwise (fun a b => (vM g) 9 a ≤ (vM g) 9 b) := hs
  have outer : ∀ (n k : Nat) (a2 a3 : Option AV), k + n = l.length → cbS (vM g) c (l.take k) (l.drop k) = X → RJ (mX12_canBe (rmD 2 0 0)) 0 0 shW.length Q 0 0 shW 2 [some (vR (some 74)), some (vI (k : Int)), a2, a3] [] g z r := by
    intro n
    induction n with
    | zero =>
      intro k a2 a3 hk hx
      rw [List.drop_of_length_le (by omega), cbS] at hx
      refine R_iload_n dX12_canBe_2 rfl ?_
      refine R_aload_n dX12_canBe_3 rfl ?_
      refine R_getI fd12_46 kf12_321 rfl dX12_canBe_4 ?_
      rw [hl.1]
      refine R_icmp_ge 141 dX12_canBe_7 (by decide) (fun hc7 => ?_) (fun hc7 => ?_)
      · refine R_iconst dX12_canBe_141 rfl rfl ?_
        refine R_ireturn rfl (by first | rfl | exact nar_b2i | exact nar_bi) (by decide) (by decide) dX12_canBe_142 ?_
        rw [← hQ, ← hx]
        exact ⟨rfl, rfl, rfl, rfl, rfl⟩
      · exact absurd (by omega) hc7
    | succ n ih =>
      intro k a2 a3 hk hx
      have hkl : k < l.length := by omega
      have hi10 := hm _ (getD_mem hkl)
      have hgk := famM_at hl hkl
      have hgd : l[k] = l.getD k 0 := by rw [List.getD_eq_getElem?_getD, List.getElem?_eq_getElem hkl]; rfl
      have htk : l.take (k + 1) = l.take k ++ [l.getD k 0] := by
        rw [List.take_add_one, List.getElem?_eq_getElem hkl, hgd]; rfl
      rw [List.drop_eq_getElem_cons hkl, hgd, cbS, ← htk] at hx
      have fls : ∀ (pc : Nat) (ls : List (Option AV)), X = false → decode cX12_canBe pc = .ok (.ireturn, 1) → RJ (mX12_canBe (rmD 2 0 0)) 0 0 shW.length Q 0 0 shW pc ls [vI 0] g z r := by
        intro pc ls hf hd
        refine R_ireturn rfl (by rfl) (by decide) (by decide) hd ?_
        rw [← hQ, hf]
        exact ⟨rfl, rfl, rfl, rfl, rfl⟩
      have hfp := fits_prM hs' hkl
      have hyk := hB.1 (l.getD k 0)
      have inner : canTie (vM g) (l.getD k 0) c = true → ∀ (m j : Nat) (a3 : Option AV), j + m = k → (∀ j', j' < j → prM (vM g) l k j') → RJ (mX12_canBe (rmD 2 0 0)) 0 0 shW.length Q 0 0 shW 31 [some (vR (some 74)), some (vI (k : Int)), some (vI (j : Int)), a3] [] g z r := by
        intro hct m
        induction m with
        | zero =>
          intro j a3 hj hp
          have hft := hfp.mpr (fun j' h' => hp j' (by omega))
          rw [hct, hft, Bool.true_and, Bool.true_and] at hx
          refine R_iload_n dX12_canBe_31 rfl ?_
          refine R_iload_n dX12_canBe_32 rfl ?_
          refine R_icmp_ge 135 dX12_canBe_33 (by decide) (fun hc33 => ?_) (fun hc33 => ?_)
          · refine R_iincN dX12_canBe_135 rfl (by decide) rfl (by unfold inI; omega) [_, _, _, _] rfl ?_
            refine R_goto 2 dX12_canBe_138 (by decide) ?_
            exact ih (k + 1) _ _ (by omega) hx
          · exact absurd (by omega) hc33
        | succ m ihm =>
          intro j a3 hj hp
          have hjl : j < l.length := by omega
          have hj10 := hm _ (getD_mem hjl)
          have hgj := famM_at hl hjl
          have hyj := hB.1 (l.getD j 0)
          have bad : ¬ prM (vM g) l k j → X = false := by
            intro hno
            have : ¬ fits (vM g) (l.take k) (l.getD k 0) = true := fun q => hno (hfp.mp q j (by omega))
            rw [Bool.eq_false_iff.mpr this, Bool.and_false, Bool.false_and] at hx
            exact hx.symm
          have ep : prM (vM g) l k j ↔ (¬ (g 84 (l.getD k 0) - g 84 (l.getD j 0) = 1) ∧ ¬ (g 84 (l.getD k 0) - g 84 (l.getD j 0) = 0 ∧ 1 < (k : Int) - (j : Int)) ∧ (g 83 (l.getD j 0) = g 83 (l.getD k 0) → isGone (vM g) (l.getD j 0) (g 84 (l.getD k 0)) = true)) := Iff.rfl
          have next : prM (vM g) l k j → ∀ a3, RJ (mX12_canBe (rmD 2 0 0)) 0 0 shW.length Q 0 0 shW 129 [some (vR (some 74)), some (vI (k : Int)), some (vI (j : Int)), a3] [] g z r := by
            intro hpr a3
            refine R_iincN dX12_canBe_129 rfl (by decide) rfl (by unfold inI; omega) [_, _, _, _] rfl ?_
            refine R_goto 31 dX12_canBe_132 (by decide) ?_
            exact ihm (j + 1) _ (by omega) (fun j' h' => by
              by_cases hjj : j' = j
              · subst hjj; exact hpr
              · exact hp j' (by omega))
          have names : ¬ (g 84 (l.getD k 0) - g 84 (l.getD j 0) = 1) → ¬ (g 84 (l.getD k 0) - g 84 (l.getD j 0) = 0 ∧ 1 < (k : Int) - (j : Int)) → ∀ a3, RJ (mX12_canBe (rmD 2 0 0)) 0 0 shW.length Q 0 0 shW 78 [some (vR (some 74)), some (vI (k : Int)), some (vI (j : Int)), a3] [] g z r := by
            intro n1 n2 a3
            refine R_aload_n dX12_canBe_78 rfl ?_
            refine R_getR _ (hr _ _ _ rfl) fd12_17 kf12_51 rfl dX12_canBe_79 ?_
            refine R_aload_n dX12_canBe_82 rfl ?_
            refine R_getR _ (hr _ _ _ rfl) fd12_47 kf12_105 rfl dX12_canBe_83 ?_
            refine R_iload_n dX12_canBe_86 rfl ?_
            refine R_iald rfl (by omega) (by omega) dX12_canBe_87 ?_
            rw [Int.toNat_natCast, hgj]
            refine R_iald rfl (by omega) (by omega) dX12_canBe_88 ?_
            rw [Int.toNat_natCast]
            refine R_aload_n dX12_canBe_89 rfl ?_
            refine R_getR _ (hr _ _ _ rfl) fd12_17 kf12_51 rfl dX12_canBe_90 ?_
            refine R_aload_n dX12_canBe_93 rfl ?_
            refine R_getR _ (hr _ _ _ rfl) fd12_47 kf12_105 rfl dX12_canBe_94 ?_
            refine R_iload_n dX12_canBe_97 rfl ?_
            refine R_iald rfl (by omega) (by omega) dX12_canBe_98 ?_
            rw [Int.toNat_natCast, hgk]
            refine R_iald rfl (by omega) (by omega) dX12_canBe_99 ?_
            rw [Int.toNat_natCast]
            refine R_icmp_ne 129 dX12_canBe_100 (by decide) (fun hc100 => ?_) (fun hc100 => ?_)
            · exact next (ep.mpr ⟨n1, n2, fun q => absurd q hc100⟩) a3
            · refine R_aload_n dX12_canBe_103 rfl ?_
              refine R_aload_n dX12_canBe_104 rfl ?_
              refine R_getR _ (hr _ _ _ rfl) fd12_47 kf12_105 rfl dX12_canBe_105 ?_
              refine R_iload_n dX12_canBe_108 rfl ?_
              refine R_iald rfl (by omega) (by omega) dX12_canBe_109 ?_
              rw [Int.toNat_natCast, hgj]
              refine R_aload_n dX12_canBe_110 rfl ?_
              refine R_getR _ (hr _ _ _ rfl) fd12_18 kf12_54 rfl dX12_canBe_111 ?_
              refine R_aload_n dX12_canBe_114 rfl ?_
              refine R_getR _ (hr _ _ _ rfl) fd12_47 kf12_105 rfl dX12_canBe_115 ?_
              refine R_iload_n dX12_canBe_118 rfl ?_
              refine R_iald rfl (by omega) (by omega) dX12_canBe_119 ?_
              rw [Int.toNat_natCast, hgk]
              refine R_iald rfl (by omega) (by omega) dX12_canBe_120 ?_
              rw [Int.toNat_natCast]
              refine R_callV (m_isGone hr ((l.getD j 0 : Nat) : Int) (g 84 (l.getD k 0)) (by omega)) (mvX12_isGone _) kiX12_isGone kvX12_isGone km12_333 rfl rfl (by decide) ⟨rfl, rfl, by decide, by decide⟩ (Nat.le_of_ble_eq_true rfl) dX12_canBe_121 (fun v1 sh1 g1 z1 r1 hq => ?_)
              obtain ⟨rfl, rfl, rfl, rfl, rfl⟩ := hq
              rw [Int.toNat_natCast]
              by_cases hg : isGone (vM g) (l.getD j 0) (g 84 (l.getD k 0)) = true
              · rw [bi_t hg]
                refine R_if_ne 129 dX12_canBe_124 (by decide) (fun hc124 => ?_) (fun hc124 => ?_)
                · exact next (ep.mpr ⟨n1, n2, fun _ => hg⟩) a3
                · exact absurd hc124 (by decide)
              · rw [bi_f hg]
                refine R_if_ne 129 dX12_canBe_124 (by decide) (fun hc124 => ?_) (fun hc124 => ?_)
                · exact absurd rfl hc124
                · refine R_iconst dX12_canBe_127 rfl rfl ?_
                  exact fls 128 _ (bad (fun q => hg ((ep.mp q).2.2 hc100))) dX12_canBe_128
          refine R_iload_n dX12_canBe_31 rfl ?_
          refine R_iload_n dX12_canBe_32 rfl ?_
          refine R_icmp_ge 135 dX12_canBe_33 (by decide) (fun hc33 => ?_) (fun hc33 => ?_)
          · exact absurd hc33 (by omega)
          refine R_aload_n dX12_canBe_36 rfl ?_
          refine R_getR _ (hr _ _ _ rfl) fd12_18 kf12_54 rfl dX12_canBe_37 ?_
          refine R_aload_n dX12_canBe_40 rfl ?_
          refine R_getR _ (hr _ _ _ rfl) fd12_47 kf12_105 rfl dX12_canBe_41 ?_
          refine R_iload_n dX12_canBe_44 rfl ?_
          refine R_iald rfl (by omega) (by omega) dX12_canBe_45 ?_
          rw [Int.toNat_natCast, hgk]
          refine R_iald rfl (by omega) (by omega) dX12_canBe_46 ?_
          rw [Int.toNat_natCast]
          refine R_aload_n dX12_canBe_47 rfl ?_
          refine R_getR _ (hr _ _ _ rfl) fd12_18 kf12_54 rfl dX12_canBe_48 ?_
          refine R_aload_n dX12_canBe_51 rfl ?_
          refine R_getR _ (hr _ _ _ rfl) fd12_47 kf12_105 rfl dX12_canBe_52 ?_
          refine R_iload_n dX12_canBe_55 rfl ?_
          refine R_iald rfl (by omega) (by omega) dX12_canBe_56 ?_
          rw [Int.toNat_natCast, hgj]
          refine R_iald rfl (by omega) (by omega) dX12_canBe_57 ?_
          rw [Int.toNat_natCast]
          refine R_isubN dX12_canBe_58 (by unfold inI; omega) ?_
          refine R_istore_n dX12_canBe_59 (by decide) rfl [_, _, _, _] rfl ?_
          refine R_iload_n dX12_canBe_60 rfl ?_
          refine R_iconst dX12_canBe_61 rfl rfl ?_
          refine R_icmp_eq 76 dX12_canBe_62 (by decide) (fun hc62 => ?_) (fun hc62 => ?_)
          · refine R_iconst dX12_canBe_76 rfl rfl ?_
            exact fls 77 _ (bad (fun q => by have q1 := (ep.mp q).1; have q2 := (ep.mp q).2.1; omega)) dX12_canBe_77
          · refine R_iload_n dX12_canBe_65 rfl ?_
            refine R_if_ne 78 dX12_canBe_66 (by decide) (fun hc66 => ?_) (fun hc66 => ?_)
            · exact names (by omega) (by omega) _
            · refine R_iload_n dX12_canBe_69 rfl ?_
              refine R_iload_n dX12_canBe_70 rfl ?_
              refine R_isubN dX12_canBe_71 (by unfold inI; omega) ?_
              refine R_iconst dX12_canBe_72 rfl rfl ?_
              refine R_icmp_le 78 dX12_canBe_73 (by decide) (fun hc73 => ?_) (fun hc73 => ?_)
              · exact names (by omega) (by omega) _
              · refine R_iconst dX12_canBe_76 rfl rfl ?_
                exact fls 77 _ (bad (fun q => by have q1 := (ep.mp q).1; have q2 := (ep.mp q).2.1; omega)) dX12_canBe_77
      refine R_iload_n dX12_canBe_2 rfl ?_
      refine R_aload_n dX12_canBe_3 rfl ?_
      refine R_getI fd12_46 kf12_321 rfl dX12_canBe_4 ?_
      rw [hl.1]
      refine R_icmp_ge 141 dX12_canBe_7 (by decide) (fun hc7 => ?_) (fun hc7 => ?_)
      · exact absurd hc7 (by omega)
      refine R_aload_n dX12_canBe_10 rfl ?_
      refine R_aload_n dX12_canBe_11 rfl ?_
      refine R_getR _ (hr _ _ _ rfl) fd12_47 kf12_105 rfl dX12_canBe_12 ?_
      refine R_iload_n dX12_canBe_15 rfl ?_
      refine R_iald rfl (by omega) (by omega) dX12_canBe_16 ?_
      rw [Int.toNat_natCast, hgk]
      refine R_aload_n dX12_canBe_17 rfl ?_
      refine R_getI fd12_45 kf12_318 rfl dX12_canBe_18 ?_
      rw [hgc]
      refine R_callV (m_canTie hr ((l.getD k 0 : Nat) : Int) (c : Int) (by omega) (by omega)) (mvX12_canTie _) kiX12_canTie kvX12_canTie km12_330 rfl rfl (by decide) ⟨rfl, rfl, by decide, by decide⟩ (Nat.le_of_ble_eq_true rfl) dX12_canBe_21 (fun v1 sh1 g1 z1 r1 hq => ?_)
      obtain ⟨rfl, rfl, rfl, rfl, rfl⟩ := hq
      rw [Int.toNat_natCast, Int.toNat_natCast]
      by_cases hct : canTie (vM g) (l.getD k 0) c = true
      · rw [bi_t hct]
        refine R_if_ne 29 dX12_canBe_24 (by decide) (fun hc24 => ?_) (fun hc24 => ?_)
        · refine R_iconst dX12_canBe_29 rfl rfl ?_
          refine R_istore_n dX12_canBe_30 (by decide) rfl [_, _, _, _] rfl ?_
          exact inner hct k 0 _ (by omega) (fun j' h' => absurd h' (by omega))
        · exact absurd hc24 (by decide)
      · rw [bi_f hct]
        refine R_if_ne 29 dX12_canBe_24 (by decide) (fun hc24 => ?_) (fun hc24 => ?_)
        · exact absurd rfl hc24
        · refine R_iconst dX12_canBe_27 rfl rfl ?_
          exact fls 28 _ (by rw [← hx, Bool.eq_false_iff.mpr hct]; simp) dX12_canBe_28
  refine R_iconst dX12_canBe_0 rfl rfl ?_
  refine R_istore_n dX12_canBe_1 (by decide) rfl [_, _, _, _] rfl ?_
  exact outer l.length 0 none none (by omega) (by rw [List.take_zero, List.drop_zero]; exact hX)
/-- nothing but the reference's own children has changed -/
def SM (g g' : GG) : Prop := (∀ c', c' ≠ 74 → c' ≤ 100 ∨ 106 ≤ c' → g' c' = g c') ∧ ∀ k, k ≠ 45 → k ≠ 46 → g' 74 k = g 74 k
theorem SM.rfl {g : GG} : SM g g := ⟨fun _ _ _ => Eq.refl _, fun _ _ _ => Eq.refl _⟩
theorem SM.trans {g g1 g2 : GG} (h1 : SM g g1) (h2 : SM g1 g2) : SM g g2 := ⟨fun c' a b => (h2.1 c' a b).trans (h1.1 c' a b), fun k a b => (h2.2 k a b).trans (h1.2 k a b)⟩
theorem SM.vM {g g' : GG} (h : SM g g') : vM g' = vM g := vM_cong (fun c a b => h.1 c (by omega) (by omega)) (fun k a b => h.2 k (by omega) (by omega))
theorem SM.BM {g g' : GG} (h : SM g g') (hB : BM g) : BM g' := by
  show _ ∧ _
  rw [h.1 84 (by decide) (by decide), h.1 83 (by decide) (by decide), h.1 76 (by decide) (by decide), h.1 80 (by decide) (by decide), h.1 77 (by decide) (by decide), h.2 8 (by decide) (by decide)]
  exact hB
end MCAN
