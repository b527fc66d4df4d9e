theorem ddN_of {s : VW} (hn : ∀ i, 0 ≤ s 8 i) {i : Nat} {p : List Nat} : ddN s i p = -1 ↔ dd s i p.reverse [] = none := by
  unfold ddN
  cases h : dd s i p.reverse [] with
  | none => simp
  | some e => have := hn e; simp; omega
section MLET2
variable {g z : GG} {r : RR}
theorem m_isThere (hr : RS r) (hB : BM g) (l : List Nat) (hl : FamM g l) (hm : ∀ a ∈ l, a < 10) (hll : l.length ≤ 10) (k : Nat) (hk : k < l.length) (t : Int) : CT (mX12_isThere (rmD 2 0 0)) 0 0 shW [vR (some 74), vI t, vI (k : Int)] g z r (qP shW g z r (some (vI (bi (thereM (vM g) l k t))))) := by
  refine CT.of 1 rfl rfl ?_
  have hi10 := hm _ (getD_mem hk)
  have hgk := famM_at hl hk
  have hnk := hB.2.1 (l.getD k 0)
  have hsx : sx (vM g) (l.getD k 0) = g 76 (g 83 (l.getD k 0)).toNat := rfl
  have hsp : (vM g) 12 (l.getD k 0) = g 87 (l.getD k 0) := rfl
  have hdd := ddN_of (s := vM g) (fun i => (hB.2.1 i).1) (i := l.getD k 0) (p := l.take k)
  refine R_aload_n dX12_isThere_0 rfl ?_
  refine R_getR _ (hr _ _ _ rfl) fd12_10 kf12_29 rfl dX12_isThere_1 ?_
  refine R_aload_n dX12_isThere_4 rfl ?_
  refine R_getR _ (hr _ _ _ rfl) fd12_17 kf12_51 rfl dX12_isThere_5 ?_
  refine R_aload_n dX12_isThere_8 rfl ?_
  refine R_getR _ (hr _ _ _ rfl) fd12_47 kf12_105 rfl dX12_isThere_9 ?_
  refine R_iload_n dX12_isThere_12 rfl ?_
  refine R_iald rfl (by omega) (by omega) dX12_isThere_13 ?_
  rw [Int.toNat_natCast, hgk]
  refine R_iald rfl (by omega) (by omega) dX12_isThere_14 ?_
  rw [Int.toNat_natCast]
  refine R_iald rfl (by omega) (by omega) dX12_isThere_15 ?_
  refine R_istore_n dX12_isThere_16 (by decide) rfl [_, _, _, _] rfl ?_
  refine R_iload_n dX12_isThere_17 rfl ?_
  refine R_bipush dX12_isThere_18 rfl (by decide +kernel) ?_
  refine R_icmp_ne 44 dX12_isThere_20 (by decide) (fun hc20 => ?_) (fun hc20 => ?_)
  · refine R_iload_n dX12_isThere_44 rfl ?_
    refine R_bipush dX12_isThere_45 rfl (by decide +kernel) ?_
    refine R_icmp_ne 65 dX12_isThere_47 (by decide) (fun hc47 => ?_) (fun hc47 => ?_)
    · refine R_iload_n dX12_isThere_65 rfl ?_
      refine R_if_ne 95 dX12_isThere_66 (by decide) (fun hc66 => ?_) (fun hc66 => ?_)
      · refine R_iload_n dX12_isThere_95 rfl ?_
        refine R_bipush dX12_isThere_96 rfl (by decide +kernel) ?_
        refine R_icmp_eq 113 dX12_isThere_98 (by decide) (fun hc98 => ?_) (fun hc98 => ?_)
        · refine R_iconst dX12_isThere_113 rfl rfl ?_
          refine R_goto 118 dX12_isThere_114 (by decide) ?_
          refine R_ireturn rfl (by first | rfl | exact nar_b2i | exact nar_bi) (by decide) (by decide) dX12_isThere_118 ?_
          exact ⟨congrArg (fun x => some (vI x)) (by unfold thereM; rw [if_neg hc20, if_neg hc47, hsx]; first | (rw [if_pos hc66]; simp [bi, *]) | (rw [if_neg hc66]; simp [bi, *])), rfl, rfl, rfl, rfl⟩
        · refine R_iload_n dX12_isThere_101 rfl ?_
          refine R_bipush dX12_isThere_102 rfl (by decide +kernel) ?_
          refine R_icmp_eq 113 dX12_isThere_104 (by decide) (fun hc104 => ?_) (fun hc104 => ?_)
          · refine R_iconst dX12_isThere_113 rfl rfl ?_
            refine R_goto 118 dX12_isThere_114 (by decide) ?_
            refine R_ireturn rfl (by first | rfl | exact nar_b2i | exact nar_bi) (by decide) (by decide) dX12_isThere_118 ?_
            exact ⟨congrArg (fun x => some (vI x)) (by unfold thereM; rw [if_neg hc20, if_neg hc47, hsx]; first | (rw [if_pos hc66]; simp [bi, *]) | (rw [if_neg hc66]; simp [bi, *])), rfl, rfl, rfl, rfl⟩
          · refine R_iload_n dX12_isThere_107 rfl ?_
            refine R_bipush dX12_isThere_108 rfl (by decide +kernel) ?_
            refine R_icmp_ne 117 dX12_isThere_110 (by decide) (fun hc110 => ?_) (fun hc110 => ?_)
            · refine R_iconst dX12_isThere_117 rfl rfl ?_
              refine R_ireturn rfl (by first | rfl | exact nar_b2i | exact nar_bi) (by decide) (by decide) dX12_isThere_118 ?_
              exact ⟨congrArg (fun x => some (vI x)) (by unfold thereM; rw [if_neg hc20, if_neg hc47, hsx]; first | (rw [if_pos hc66]; simp [bi, *]) | (rw [if_neg hc66]; simp [bi, *])), rfl, rfl, rfl, rfl⟩
            · refine R_iconst dX12_isThere_113 rfl rfl ?_
              refine R_goto 118 dX12_isThere_114 (by decide) ?_
              refine R_ireturn rfl (by first | rfl | exact nar_b2i | exact nar_bi) (by decide) (by decide) dX12_isThere_118 ?_
              exact ⟨congrArg (fun x => some (vI x)) (by unfold thereM; rw [if_neg hc20, if_neg hc47, hsx]; first | (rw [if_pos hc66]; simp [bi, *]) | (rw [if_neg hc66]; simp [bi, *])), rfl, rfl, rfl, rfl⟩
      · refine R_iload_n dX12_isThere_69 rfl ?_
        refine R_bipush dX12_isThere_70 rfl (by decide +kernel) ?_
        refine R_icmp_eq 87 dX12_isThere_72 (by decide) (fun hc72 => ?_) (fun hc72 => ?_)
        · refine R_iconst dX12_isThere_87 rfl rfl ?_
          refine R_goto 118 dX12_isThere_88 (by decide) ?_
          refine R_ireturn rfl (by first | rfl | exact nar_b2i | exact nar_bi) (by decide) (by decide) dX12_isThere_118 ?_
          exact ⟨congrArg (fun x => some (vI x)) (by unfold thereM; rw [if_neg hc20, if_neg hc47, hsx]; first | (rw [if_pos hc66]; simp [bi, *]) | (rw [if_neg hc66]; simp [bi, *])), rfl, rfl, rfl, rfl⟩
        · refine R_iload_n dX12_isThere_75 rfl ?_
          refine R_bipush dX12_isThere_76 rfl (by decide +kernel) ?_
          refine R_icmp_eq 87 dX12_isThere_78 (by decide) (fun hc78 => ?_) (fun hc78 => ?_)
          · refine R_iconst dX12_isThere_87 rfl rfl ?_
            refine R_goto 118 dX12_isThere_88 (by decide) ?_
            refine R_ireturn rfl (by first | rfl | exact nar_b2i | exact nar_bi) (by decide) (by decide) dX12_isThere_118 ?_
            exact ⟨congrArg (fun x => some (vI x)) (by unfold thereM; rw [if_neg hc20, if_neg hc47, hsx]; first | (rw [if_pos hc66]; simp [bi, *]) | (rw [if_neg hc66]; simp [bi, *])), rfl, rfl, rfl, rfl⟩
          · refine R_iload_n dX12_isThere_81 rfl ?_
            refine R_bipush dX12_isThere_82 rfl (by decide +kernel) ?_
            refine R_icmp_ne 91 dX12_isThere_84 (by decide) (fun hc84 => ?_) (fun hc84 => ?_)
            · refine R_iconst dX12_isThere_91 rfl rfl ?_
              refine R_goto 118 dX12_isThere_92 (by decide) ?_
              refine R_ireturn rfl (by first | rfl | exact nar_b2i | exact nar_bi) (by decide) (by decide) dX12_isThere_118 ?_
              exact ⟨congrArg (fun x => some (vI x)) (by unfold thereM; rw [if_neg hc20, if_neg hc47, hsx]; first | (rw [if_pos hc66]; simp [bi, *]) | (rw [if_neg hc66]; simp [bi, *])), rfl, rfl, rfl, rfl⟩
            · refine R_iconst dX12_isThere_87 rfl rfl ?_
              refine R_goto 118 dX12_isThere_88 (by decide) ?_
              refine R_ireturn rfl (by first | rfl | exact nar_b2i | exact nar_bi) (by decide) (by decide) dX12_isThere_118 ?_
              exact ⟨congrArg (fun x => some (vI x)) (by unfold thereM; rw [if_neg hc20, if_neg hc47, hsx]; first | (rw [if_pos hc66]; simp [bi, *]) | (rw [if_neg hc66]; simp [bi, *])), rfl, rfl, rfl, rfl⟩
    · refine R_aload_n dX12_isThere_50 rfl ?_
      refine R_iload_n dX12_isThere_51 rfl ?_
      refine R_callV (m_deadOf hr hB l hl hm hll k hk) (mvX12_deadOf _) kiX12_deadOf kvX12_deadOf km12_346 rfl rfl (by decide) ⟨rfl, rfl, by decide, by decide⟩ (Nat.le_of_ble_eq_true rfl) dX12_isThere_52 (fun v1 sh1 g1 z1 r1 hq => ?_)
      obtain ⟨rfl, rfl, rfl, rfl, rfl⟩ := hq
      cases hd : dd (vM g) (l.getD k 0) (l.take k).reverse [] with
      | none =>
        have e : thereM (vM g) l k t = false := by unfold thereM; rw [if_neg hc20, if_pos hc47]; simp only [decide_eq_false_iff_not, ne_eq, Classical.not_not]; exact hdd.mpr hd
        refine R_iconst dX12_isThere_55 rfl rfl ?_
        refine R_icmp_eq 63 dX12_isThere_56 (by decide) (fun hc56 => ?_) (fun hc56 => ?_)
        · refine R_iconst dX12_isThere_63 rfl rfl ?_
          refine R_ireturn rfl (by first | rfl | exact nar_b2i | exact nar_bi) (by decide) (by decide) dX12_isThere_64 ?_
          exact ⟨by rw [e]; rfl, rfl, rfl, rfl, rfl⟩
        · exact absurd rfl hc56
      | some i =>
        have e : thereM (vM g) l k t = true := by unfold thereM; rw [if_neg hc20, if_pos hc47, decide_eq_true_eq]; exact fun q => by rw [hdd, hd] at q; cases q
        have ei : oI (some i) = (i : Int) := rfl
        rw [ei]
        refine R_iconst dX12_isThere_55 rfl rfl ?_
        refine R_icmp_eq 63 dX12_isThere_56 (by decide) (fun hc56 => ?_) (fun hc56 => ?_)
        · exact absurd hc56 (by omega)
        · refine R_iconst dX12_isThere_59 rfl rfl ?_
          refine R_goto 64 dX12_isThere_60 (by decide) ?_
          refine R_ireturn rfl (by first | rfl | exact nar_b2i | exact nar_bi) (by decide) (by decide) dX12_isThere_64 ?_
          exact ⟨by rw [e]; rfl, rfl, rfl, rfl, rfl⟩
  · refine R_aload_n dX12_isThere_23 rfl ?_
    refine R_getR _ (hr _ _ _ rfl) fd12_21 kf12_63 rfl dX12_isThere_24 ?_
    refine R_aload_n dX12_isThere_27 rfl ?_
    refine R_getR _ (hr _ _ _ rfl) fd12_47 kf12_105 rfl dX12_isThere_28 ?_
    refine R_iload_n dX12_isThere_31 rfl ?_
    refine R_iald rfl (by omega) (by omega) dX12_isThere_32 ?_
    rw [Int.toNat_natCast, hgk]
    refine R_iald rfl (by omega) (by omega) dX12_isThere_33 ?_
    rw [Int.toNat_natCast]
    refine R_iconst dX12_isThere_34 rfl rfl ?_
    refine R_icmp_eq 42 dX12_isThere_35 (by decide) (fun hc35 => ?_) (fun hc35 => ?_)
    · refine R_iconst dX12_isThere_42 rfl rfl ?_
      refine R_ireturn rfl (by first | rfl | exact nar_b2i | exact nar_bi) (by decide) (by decide) dX12_isThere_43 ?_
      exact ⟨by rw [thereM, if_pos hc20, hsp, hc35]; rfl, rfl, rfl, rfl, rfl⟩
    · refine R_iconst dX12_isThere_38 rfl rfl ?_
      refine R_goto 43 dX12_isThere_39 (by decide) ?_
      refine R_ireturn rfl (by first | rfl | exact nar_b2i | exact nar_bi) (by decide) (by decide) dX12_isThere_43 ?_
      exact ⟨by rw [thereM, if_pos hc20, hsp, decide_eq_true hc35]; rfl, rfl, rfl, rfl, rfl⟩
theorem m_letterOf (hr : RS r) (hB : BM g) (K : Nat → CUS) (hK : kmK g K) (c : Nat) (hc6 : c < 6) (hgc : g 74 45 = (c : Int)) (l : List Nat) (hl : FamM g l) (hm : ∀ a ∈ l, a < 10) (hll : l.length ≤ 10) (k : Nat) (hk : k < l.length) (x : Nat) (hx5 : x ≤ 5) (hA : -1 ≤ g 74 5 ∧ g 74 5 < 4) (hA2 : -1 ≤ g 74 6 ∧ g 74 6 < 4) : CT (mX12_letterOf (rmD 3 0 0)) 0 0 shW [vR (some 74), vI (k : Int), vI (x : Int)] g z r (qG shW z r fun v g' => v = some (vI (chL (ltA (vM g) K (g 74 5) (g 74 6) (g 74 7) c l k x))) ∧ ∀ c', c' ≠ 104 → c' ≠ 105 → g' c' = g c') := by
  refine CT.of 2 rfl rfl ?_
  have hi10 := hm _ (getD_mem hk)
  have hgk := famM_at hl hk
  have hL : ltA (vM g) K (g 74 5) (g 74 6) (g 74 7) c l k x = fF (selK K (g 74 5) (g 74 6) (g 74 7) (g 84 (l.getD k 0))) (thS (vM g) l k) (facA (vM g) c l k x) := rfl
  rw [hL]
  generalize hQ : (qG shW z r fun v g' => v = some (vI (chL (fF (selK K (g 74 5) (g 74 6) (g 74 7) (g 84 (l.getD k 0))) (thS (vM g) l k) (facA (vM g) c l k x)))) ∧ ∀ c', c' ≠ 104 → c' ≠ 105 → g' c' = g c') = Q
  have main : ∀ (q : Int), (-1 ≤ q ∧ q < 4) → q = (if g 84 (l.getD k 0) < g 74 7 then g 74 5 else g 74 6) → RJ (mX12_letterOf (rmD 3 0 0)) 0 0 shW.length Q 0 0 shW 29 [some (vR (some 74)), some (vI (k : Int)), some (vI (x : Int)), none, none] [vI q] g z r := by
    intro q hq4 hqe
    have hsel : selK K (g 74 5) (g 74 6) (g 74 7) (g 84 (l.getD k 0)) = if 0 ≤ q ∧ q < 4 then K q.toNat else [] := by unfold selK; rw [← hqe]
    rw [hsel] at hQ
    refine R_istore_n dX12_letterOf_29 (by decide) rfl [_, _, _, _, _] rfl ?_
    refine R_iload_n dX12_letterOf_30 rfl ?_
    refine R_iconst dX12_letterOf_31 rfl rfl ?_
    refine R_icmp_ne 37 dX12_letterOf_32 (by decide) (fun hc32 => ?_) (fun hc32 => ?_)
    · obtain ⟨n, rfl⟩ : ∃ n : Nat, q = (n : Int) := ⟨q.toNat, by omega⟩
      rw [if_pos (by omega), Int.toNat_natCast] at hQ
      have hKn := hK n (by omega)
      obtain ⟨k1, k2, k3⟩ := hKn
      have loop : ∀ (m j : Nat) (g' : GG), j + m = (K n).length → (∀ c', c' ≠ 104 → c' ≠ 105 → g' c' = g c') → fF ((K n).drop j) (thS (vM g) l k) (facA (vM g) c l k x) = fF (K n) (thS (vM g) l k) (facA (vM g) c l k x) → RJ (mX12_letterOf (rmD 3 0 0)) 0 0 shW.length Q 0 0 shW 43 [some (vR (some 74)), some (vI (k : Int)), some (vI (x : Int)), some (vI (n : Int)), some (vI (((12 * n + j : Nat)) : Int))] [] g' z r := by
        intro m
        induction m with
        | zero =>
          intro j g' hj q1 hx
          rw [List.drop_of_length_le (by omega)] at hx
          refine R_iload dX12_letterOf_43 rfl ?_
          refine R_bipush dX12_letterOf_45 rfl (by decide +kernel) ?_
          refine R_iload_n dX12_letterOf_47 rfl ?_
          refine R_imulN dX12_letterOf_48 (by unfold inI; omega) ?_
          refine R_aload_n dX12_letterOf_49 rfl ?_
          refine R_getR _ (hr _ _ _ rfl) fd12_24 kf12_69 rfl dX12_letterOf_50 ?_
          refine R_iload_n dX12_letterOf_53 rfl ?_
          refine R_iald rfl (by omega) (by omega) dX12_letterOf_54 ?_
          rw [q1 89 (by decide) (by decide), Int.toNat_natCast, k1]
          refine R_iaddN dX12_letterOf_55 (by unfold inI; omega) ?_
          refine R_icmp_ge 99 dX12_letterOf_56 (by decide) (fun hc56 => ?_) (fun hc56 => ?_)
          · refine R_iconst dX12_letterOf_99 rfl rfl ?_
            refine R_ireturn rfl (by first | rfl | exact nar_b2i | exact nar_bi) (by decide) (by decide) dX12_letterOf_100 ?_
            rw [← hQ, ← hx]
            exact ⟨⟨rfl, q1⟩, rfl, rfl, rfl⟩
          · exact absurd (by omega) hc56
        | succ m ih =>
          intro j g' hj q1 hx
          have hjl : j < (K n).length := by omega
          obtain ⟨p, hp⟩ : ∃ p, (K n)[j]? = some p := ⟨_, List.getElem?_eq_getElem hjl⟩
          have hpe : (K n)[j] = p := by rw [List.getElem?_eq_getElem hjl] at hp; exact Option.some.inj hp
          obtain ⟨p1, p2, fr, to, p3, p4, p5, p6, p7⟩ := k3 j p hp
          rw [List.drop_eq_getElem_cons hjl, hpe] at hx
          have e90 : ∀ g2 : GG, (∀ c', c' ≠ 104 → c' ≠ 105 → g2 c' = g c') → g2 90 (12 * n + j) = chL (p.1 : Int) := fun g2 h2 => by rw [h2 90 (by decide) (by decide)]; exact p1
          have next : ∀ (g2 : GG), (∀ c', c' ≠ 104 → c' ≠ 105 → g2 c' = g c') → ((thS (vM g) l k).testBit p.1 && p.2 (facA (vM g) c l k x)) = false → RJ (mX12_letterOf (rmD 3 0 0)) 0 0 shW.length Q 0 0 shW 93 [some (vR (some 74)), some (vI (k : Int)), some (vI (x : Int)), some (vI (n : Int)), some (vI (((12 * n + j : Nat)) : Int))] [] g2 z r := by
            intro g2 h2 hf
            refine R_iincN dX12_letterOf_93 rfl (by decide) rfl (by unfold inI; omega) [_, _, _, _, _] rfl ?_
            refine R_goto 43 dX12_letterOf_96 (by decide) ?_
            rw [show ((12 * n + j : Nat) : Int) + 1 = ((12 * n + (j + 1) : Nat) : Int) by omega]
            refine ih (j + 1) g2 (by omega) h2 ?_
            rw [← hx, fF, fF, List.find?_cons, hf]
          have sm : SM g g' := ⟨fun c' a b => q1 c' (by omega) (by omega), fun k' a b => by rw [q1 74 (by decide) (by decide)]⟩
          have hl' : FamM g' l := FamM_cong (by rw [q1 74 (by decide) (by decide)]) (q1 101 (by decide) (by decide)) hl
          refine R_iload dX12_letterOf_43 rfl ?_
          refine R_bipush dX12_letterOf_45 rfl (by decide +kernel) ?_
          refine R_iload_n dX12_letterOf_47 rfl ?_
          refine R_imulN dX12_letterOf_48 (by unfold inI; omega) ?_
          refine R_aload_n dX12_letterOf_49 rfl ?_
          refine R_getR _ (hr _ _ _ rfl) fd12_24 kf12_69 rfl dX12_letterOf_50 ?_
          refine R_iload_n dX12_letterOf_53 rfl ?_
          refine R_iald rfl (by omega) (by omega) dX12_letterOf_54 ?_
          rw [q1 89 (by decide) (by decide), Int.toNat_natCast, k1]
          refine R_iaddN dX12_letterOf_55 (by unfold inI; omega) ?_
          refine R_icmp_ge 99 dX12_letterOf_56 (by decide) (fun hc56 => ?_) (fun hc56 => ?_)
          · exact absurd hc56 (by omega)
          refine R_aload_n dX12_letterOf_59 rfl ?_
          refine R_aload_n dX12_letterOf_60 rfl ?_
          refine R_getR _ (hr _ _ _ rfl) fd12_25 kf12_72 rfl dX12_letterOf_61 ?_
          refine R_iload dX12_letterOf_64 rfl ?_
          refine R_iald rfl (by omega) (by omega) dX12_letterOf_66 ?_
          rw [Int.toNat_natCast, e90 g' q1]
          refine R_iload_n dX12_letterOf_67 rfl ?_
          refine R_callV (m_isThere hr (sm.BM hB) l hl' hm hll k hk (chL (p.1 : Int))) (mvX12_isThere _) kiX12_isThere kvX12_isThere km12_350 rfl rfl (by decide) ⟨rfl, rfl, by decide, by decide⟩ (Nat.le_of_ble_eq_true rfl) dX12_letterOf_68 (fun v1 sh1 g1 z1 r1 hq => ?_)
          obtain ⟨rfl, rfl, rfl, rfl, rfl⟩ := hq
          rw [sm.vM, thereM_ch p2]
          by_cases ht : (thS (vM g) l k).testBit p.1 = true
          · rw [bi_t ht]
            refine R_if_eq 93 dX12_letterOf_71 (by decide) (fun hc71 => ?_) (fun hc71 => ?_)
            · exact absurd hc71 (by decide)
            refine R_aload_n dX12_letterOf_74 rfl ?_
            refine R_iload dX12_letterOf_75 rfl ?_
            refine R_iload_n dX12_letterOf_77 rfl ?_
            refine R_iload_n dX12_letterOf_78 rfl ?_
            refine R_callV (m_holds hr (sm.BM hB) c hc6 (by rw [q1 74 (by decide) (by decide)]; exact hgc) l hl' hm hll k hk x hx5 (12 * n + j) (by omega) fr to (by rw [q1 91 (by decide) (by decide)]; exact p3) (by rw [q1 92 (by decide) (by decide)]; exact p4) p5 p6 (p.2 (facA (vM g) c l k x)) (by rw [sm.vM, q1 93 (by decide) (by decide), q1 94 (by decide) (by decide)]; exact p7 _)) (mvX12_holds _) kiX12_holds kvX12_holds km12_353 rfl rfl (by decide) ⟨rfl, rfl, by decide, by decide⟩ (Nat.le_of_ble_eq_true rfl) dX12_letterOf_79 (fun v1 sh1 g1 z1 r1 hq => ?_)
            obtain ⟨⟨rfl, o1⟩, rfl, rfl, rfl⟩ := hq
            have h2 : ∀ c', c' ≠ 104 → c' ≠ 105 → g1 c' = g c' := fun c' a b => (o1 c' a b).trans (q1 c' a b)
            by_cases hh : p.2 (facA (vM g) c l k x) = true
            · rw [bi_t hh]
              refine R_if_eq 93 dX12_letterOf_82 (by decide) (fun hc82 => ?_) (fun hc82 => ?_)
              · exact absurd hc82 (by decide)
              refine R_aload_n dX12_letterOf_85 rfl ?_
              refine R_getR _ (hr _ _ _ rfl) fd12_25 kf12_72 rfl dX12_letterOf_86 ?_
              refine R_iload dX12_letterOf_89 rfl ?_
              refine R_iald rfl (by omega) (by omega) dX12_letterOf_91 ?_
              rw [Int.toNat_natCast, e90 g1 h2]
              refine R_ireturn rfl (by first | rfl | exact nar_b2i | exact nar_bi) (by decide) (by decide) dX12_letterOf_92 ?_
              rw [← hQ, ← hx]
              refine ⟨⟨?_, h2⟩, rfl, rfl, rfl⟩
              rw [fF, List.find?_cons, ht, hh]
              rfl
            · rw [bi_f hh]
              refine R_if_eq 93 dX12_letterOf_82 (by decide) (fun hc82 => ?_) (fun hc82 => ?_)
              · exact next g1 h2 (by rw [Bool.eq_false_iff.mpr hh, Bool.and_false])
              · exact absurd rfl hc82
          · rw [bi_f ht]
            refine R_if_eq 93 dX12_letterOf_71 (by decide) (fun hc71 => ?_) (fun hc71 => ?_)
            · exact next g' q1 (by rw [Bool.eq_false_iff.mpr ht, Bool.false_and])
            · exact absurd rfl hc71
      refine R_bipush dX12_letterOf_37 rfl (by decide +kernel) ?_
      refine R_iload_n dX12_letterOf_39 rfl ?_
      refine R_imulN dX12_letterOf_40 (by unfold inI; omega) ?_
      refine R_istore dX12_letterOf_41 (by decide) rfl [_, _, _, _, _] rfl ?_
      have := loop (K n).length 0 g (by omega) (fun _ _ _ => rfl) (by rw [List.drop_zero])
      rw [show ((12 * n + 0 : Nat) : Int) = 12 * (n : Int) by omega] at this
      exact this
    · rw [if_neg (by omega)] at hQ
      refine R_iconst dX12_letterOf_35 rfl rfl ?_
      refine R_ireturn rfl (by first | rfl | exact nar_b2i | exact nar_bi) (by decide) (by decide) dX12_letterOf_36 ?_
      rw [← hQ]
      exact ⟨⟨rfl, fun _ _ _ => rfl⟩, rfl, rfl, rfl⟩
  refine R_aload_n dX12_letterOf_0 rfl ?_
  refine R_getR _ (hr _ _ _ rfl) fd12_18 kf12_54 rfl dX12_letterOf_1 ?_
  refine R_aload_n dX12_letterOf_4 rfl ?_
  refine R_getR _ (hr _ _ _ rfl) fd12_47 kf12_105 rfl dX12_letterOf_5 ?_
  refine R_iload_n dX12_letterOf_8 rfl ?_
  refine R_iald rfl (by omega) (by omega) dX12_letterOf_9 ?_
  rw [Int.toNat_natCast, hgk]
  refine R_iald rfl (by omega) (by omega) dX12_letterOf_10 ?_
  rw [Int.toNat_natCast]
  refine R_aload_n dX12_letterOf_11 rfl ?_
  refine R_getI fd12_7 kf12_20 rfl dX12_letterOf_12 ?_
  refine R_icmp_ge 25 dX12_letterOf_15 (by decide) (fun hc15 => ?_) (fun hc15 => ?_)
  · refine R_aload_n dX12_letterOf_25 rfl ?_
    refine R_getI fd12_6 kf12_17 rfl dX12_letterOf_26 ?_
    exact main _ (by omega) (by rw [if_neg (by omega)])
  · refine R_aload_n dX12_letterOf_18 rfl ?_
    refine R_getI fd12_5 kf12_13 rfl dX12_letterOf_19 ?_
    refine R_goto 29 dX12_letterOf_22 (by decide) ?_
    exact main _ (by omega) (by rw [if_pos (by omega)])
theorem m_told (hr : RS r) (hB : BM g) (c : Nat) (hc6 : c < 6) (hgc : g 74 45 = (c : Int)) (l : List Nat) (hl : FamM g l) (hm : ∀ a ∈ l, a < 10) (hll : l.length ≤ 10) (k : Nat) (hk : k < l.length) (q : Nat) (hq8 : q < 8) (hq7 : q = 7 → ddN (vM g) (l.getD k 0) (l.take k) ≠ -1) : CT (mX12_told (rmD 2 0 0)) 0 0 shW [vR (some 74), vI (chL (q : Int)), vI (k : Int)] g z r (qP shW g z r (some (vI (toldS (vM g) c l k q)))) := by
  refine CT.of 0 rfl rfl ?_
  have hi10 := hm _ (getD_mem hk)
  have hgk := famM_at hl hk
  refine R_iload_n dX12_told_0 rfl ?_
  have par : q < 4 → ∀ t : Int, t = chL (q : Int) → RJ (mX12_told (rmD 2 0 0)) 0 0 shW.length (qP shW g z r (some (vI (toldS (vM g) c l k q)))) 0 0 shW 87 [some (vR (some 74)), some (vI t), some (vI (k : Int))] [] g z r := by
    intro q4 t ht
    subst ht
    refine R_aload_n dX12_told_87 rfl ?_
    refine R_getR _ (hr _ _ _ rfl) fd12_16 kf12_48 rfl dX12_told_88 ?_
    refine R_iconst dX12_told_91 rfl rfl ?_
    refine R_aload_n dX12_told_92 rfl ?_
    refine R_getI fd12_45 kf12_318 rfl dX12_told_93 ?_
    rw [hgc]
    refine R_imulN dX12_told_96 (by unfold inI; omega) ?_
    refine R_iload_n dX12_told_97 rfl ?_
    refine R_callS (m_parentBy (chL (q : Int))) (mvX12_parentBy _) ksX12_parentBy km12_357 ⟨rfl, rfl, by decide, by decide⟩ (Nat.le_of_ble_eq_true rfl) dX12_told_98 (fun v1 sh1 g1 z1 r1 hq => ?_)
    obtain ⟨rfl, rfl, rfl, rfl, rfl⟩ := hq
    rw [pbM_ch (by omega), if_pos (by omega)]
    refine R_iaddN dX12_told_101 (by unfold inI; omega) ?_
    refine R_iald rfl (by omega) (by omega) dX12_told_102 ?_
    rw [show (4 * (c : Int) + (q : Int)).toNat = c * 4 + q by omega]
    refine R_ireturn rfl (by first | rfl | exact nar_b2i | exact nar_bi) (by decide) (by decide) dX12_told_103 ?_
    exact ⟨by rw [toldS, if_pos q4]; rfl, rfl, rfl, rfl, rfl⟩
  rcases (show q = 0 ∨ q = 1 ∨ q = 2 ∨ q = 3 ∨ q = 4 ∨ q = 5 ∨ q = 6 ∨ q = 7 by omega) with rfl | rfl | rfl | rfl | rfl | rfl | rfl | rfl
  · exact R_look 87 dX12_told_1 (by decide) (off := 86) rfl (by decide) (par (by omega) _ rfl)
  · exact R_look 87 dX12_told_1 (by decide) (off := 86) rfl (by decide) (par (by omega) _ rfl)
  · exact R_look 87 dX12_told_1 (by decide) (off := 86) rfl (by decide) (par (by omega) _ rfl)
  · exact R_look 87 dX12_told_1 (by decide) (off := 86) rfl (by decide) (par (by omega) _ rfl)
  · refine R_look 67 dX12_told_1 (by decide) (off := 66) rfl (by decide) ?_
    refine R_aload_n dX12_told_67 rfl ?_
    refine R_getR _ (hr _ _ _ rfl) fd12_12 kf12_36 rfl dX12_told_68 ?_
    refine R_aload_n dX12_told_71 rfl ?_
    refine R_getI fd12_45 kf12_318 rfl dX12_told_72 ?_
    rw [hgc]
    refine R_iald rfl (by omega) (by omega) dX12_told_75 ?_
    rw [Int.toNat_natCast]
    refine R_ireturn rfl (by first | rfl | exact nar_b2i | exact nar_bi) (by decide) (by decide) dX12_told_76 ?_
    exact ⟨rfl, rfl, rfl, rfl, rfl⟩
  · refine R_look 77 dX12_told_1 (by decide) (off := 76) rfl (by decide) ?_
    refine R_aload_n dX12_told_77 rfl ?_
    refine R_getR _ (hr _ _ _ rfl) fd12_13 kf12_39 rfl dX12_told_78 ?_
    refine R_aload_n dX12_told_81 rfl ?_
    refine R_getI fd12_45 kf12_318 rfl dX12_told_82 ?_
    rw [hgc]
    refine R_iald rfl (by omega) (by omega) dX12_told_85 ?_
    rw [Int.toNat_natCast]
    refine R_ireturn rfl (by first | rfl | exact nar_b2i | exact nar_bi) (by decide) (by decide) dX12_told_86 ?_
    exact ⟨rfl, rfl, rfl, rfl, rfl⟩
  · refine R_look 44 dX12_told_1 (by decide) (off := 43) rfl (by decide) ?_
    refine R_aload_n dX12_told_44 rfl ?_
    refine R_getR _ (hr _ _ _ rfl) fd12_21 kf12_63 rfl dX12_told_45 ?_
    refine R_aload_n dX12_told_48 rfl ?_
    refine R_getR _ (hr _ _ _ rfl) fd12_47 kf12_105 rfl dX12_told_49 ?_
    refine R_iload_n dX12_told_52 rfl ?_
    refine R_iald rfl (by omega) (by omega) dX12_told_53 ?_
    rw [Int.toNat_natCast, hgk]
    refine R_iald rfl (by omega) (by omega) dX12_told_54 ?_
    rw [Int.toNat_natCast]
    refine R_ireturn rfl (by first | rfl | exact nar_b2i | exact nar_bi) (by decide) (by decide) dX12_told_55 ?_
    exact ⟨rfl, rfl, rfl, rfl, rfl⟩
  · have h7 := hq7 rfl
    have hN : toldS (vM g) c l k 7 = ddN (vM g) (l.getD k 0) (l.take k) := rfl
    rw [hN]
    refine R_look 56 dX12_told_1 (by decide) (off := 55) rfl (by decide) ?_
    refine R_aload_n dX12_told_56 rfl ?_
    refine R_getR _ (hr _ _ _ rfl) fd12_17 kf12_51 rfl dX12_told_57 ?_
    refine R_aload_n dX12_told_60 rfl ?_
    refine R_iload_n dX12_told_61 rfl ?_
    refine R_callV (m_deadOf hr hB l hl hm hll k hk) (mvX12_deadOf _) kiX12_deadOf kvX12_deadOf km12_346 rfl rfl (by decide) ⟨rfl, rfl, by decide, by decide⟩ (Nat.le_of_ble_eq_true rfl) dX12_told_62 (fun v1 sh1 g1 z1 r1 hq => ?_)
    obtain ⟨rfl, rfl, rfl, rfl, rfl⟩ := hq
    unfold ddN at h7 ⊢
    cases hd : dd (vM g) (l.getD k 0) (l.take k).reverse [] with
    | none => rw [hd] at h7; exact absurd rfl h7
    | some e =>
      have he := dd_name _ _ _ hd
      have he10 : e < 10 := hm e (List.mem_of_mem_take (List.mem_reverse.mp he))
      have ei : oI (some e) = (e : Int) := rfl
      rw [ei]
      refine R_iald rfl (by omega) (by omega) dX12_told_65 ?_
      rw [Int.toNat_natCast]
      refine R_ireturn rfl (by first | rfl | exact nar_b2i | exact nar_bi) (by decide) (by decide) dX12_told_66 ?_
      exact ⟨rfl, rfl, rfl, rfl, rfl⟩
theorem m_pointsBy (hr : RS r) (hB : BM g) (l : List Nat) (hl : FamM g l) (hm : ∀ a ∈ l, a < 10) (hll : l.length ≤ 10) (k : Nat) (hk : k < l.length) (v : Int) (hv : v ≠ -2) : CT (mX12_pointsBy (rmD 0 0 0)) 0 0 shW [vR (some 74), vI v, vI (k : Int)] g z r (qP shW g z r (some (vI (gainS (vM g) (l.getD k 0) v)))) := by
  refine CT.of 0 rfl rfl ?_
  have e : gainS (vM g) (l.getD k 0) v = if v = -2 then 0 else if g 83 (l.getD k 0) = v then g 77 (g 83 (l.getD k 0)).toNat else - g 74 8 := rfl
  rw [e, if_neg hv]
  have hi10 := hm _ (getD_mem hk)
  have hgk := famM_at hl hk
  have hnk := hB.2.1 (l.getD k 0)
  have hlo := hB.2.2.2.2.2
  refine R_aload_n dX12_pointsBy_0 rfl ?_
  refine R_getR _ (hr _ _ _ rfl) fd12_17 kf12_51 rfl dX12_pointsBy_1 ?_
  refine R_aload_n dX12_pointsBy_4 rfl ?_
  refine R_getR _ (hr _ _ _ rfl) fd12_47 kf12_105 rfl dX12_pointsBy_5 ?_
  refine R_iload_n dX12_pointsBy_8 rfl ?_
  refine R_iald rfl (by omega) (by omega) dX12_pointsBy_9 ?_
  rw [Int.toNat_natCast, hgk]
  refine R_iald rfl (by omega) (by omega) dX12_pointsBy_10 ?_
  rw [Int.toNat_natCast]
  refine R_iload_n dX12_pointsBy_11 rfl ?_
  refine R_icmp_ne 24 dX12_pointsBy_12 (by decide) (fun hc12 => ?_) (fun hc12 => ?_)
  · refine R_aload_n dX12_pointsBy_24 rfl ?_
    refine R_getI fd12_8 kf12_23 rfl dX12_pointsBy_25 ?_
    refine R_inegN dX12_pointsBy_28 (by unfold inI; omega) ?_
    refine R_ireturn rfl (by first | rfl | exact nar_b2i | exact nar_bi) (by decide) (by decide) dX12_pointsBy_29 ?_
    exact ⟨by rw [if_neg hc12], rfl, rfl, rfl, rfl⟩
  · refine R_aload_n dX12_pointsBy_15 rfl ?_
    refine R_getR _ (hr _ _ _ rfl) fd12_11 kf12_33 rfl dX12_pointsBy_16 ?_
    refine R_iload_n dX12_pointsBy_19 rfl ?_
    refine R_iald rfl (by omega) (by omega) dX12_pointsBy_20 ?_
    refine R_goto 29 dX12_pointsBy_21 (by decide) ?_
    refine R_ireturn rfl (by first | rfl | exact nar_b2i | exact nar_bi) (by decide) (by decide) dX12_pointsBy_29 ?_
    exact ⟨by rw [if_pos hc12, hc12], rfl, rfl, rfl, rfl⟩
theorem m_isBy (hr : RS r) (L : Nat → Int) (k : Nat) (hk : k < 10) (h2 : g 102 k = chL (L k)) (hL : -1 ≤ L k ∧ L k < 8) (w : Nat) (hw : w < 4) : CT (mX12_isBy (rmD 1 0 0)) 0 0 shW [vR (some 74), vI (k : Int), vI (w : Int)] g z r (qP shW g z r (some (vI (bi (decide (L k = (w : Int))))))) := by
  refine CT.of 0 rfl rfl ?_
  have hz := chL_z hL
  have hp := pbM_ch hL
  refine R_aload_n dX12_isBy_0 rfl ?_
  refine R_getR _ (hr _ _ _ rfl) fd12_48 kf12_108 rfl dX12_isBy_1 ?_
  refine R_iload_n dX12_isBy_4 rfl ?_
  refine R_iald rfl (by omega) (by omega) dX12_isBy_5 ?_
  rw [Int.toNat_natCast, h2]
  refine R_if_eq 26 dX12_isBy_6 (by decide) (fun hc6 => ?_) (fun hc6 => ?_)
  · refine R_iconst dX12_isBy_26 rfl rfl ?_
    refine R_ireturn rfl (by first | rfl | exact nar_b2i | exact nar_bi) (by decide) (by decide) dX12_isBy_27 ?_
    exact ⟨by rw [bi_f (by rw [decide_eq_true_eq]; have := hz.mp hc6; omega)], rfl, rfl, rfl, rfl⟩
  · refine R_aload_n dX12_isBy_9 rfl ?_
    refine R_getR _ (hr _ _ _ rfl) fd12_48 kf12_108 rfl dX12_isBy_10 ?_
    refine R_iload_n dX12_isBy_13 rfl ?_
    refine R_iald rfl (by omega) (by omega) dX12_isBy_14 ?_
    rw [Int.toNat_natCast, h2]
    refine R_callS (m_parentBy (chL (L k))) (mvX12_parentBy _) ksX12_parentBy km12_357 ⟨rfl, rfl, by decide, by decide⟩ (Nat.le_of_ble_eq_true rfl) dX12_isBy_15 (fun v1 sh1 g1 z1 r1 hq => ?_)
    obtain ⟨rfl, rfl, rfl, rfl, rfl⟩ := hq
    rw [hp]
    refine R_iload_n dX12_isBy_18 rfl ?_
    refine R_icmp_ne 26 dX12_isBy_19 (by decide) (fun hc19 => ?_) (fun hc19 => ?_)
    · refine R_iconst dX12_isBy_26 rfl rfl ?_
      refine R_ireturn rfl (by first | rfl | exact nar_b2i | exact nar_bi) (by decide) (by decide) dX12_isBy_27 ?_
      exact ⟨by rw [bi_f (by rw [decide_eq_true_eq]; intro q; apply hc19; rw [if_pos (by omega)]; exact q)], rfl, rfl, rfl, rfl⟩
    · refine R_iconst dX12_isBy_22 rfl rfl ?_
      refine R_goto 27 dX12_isBy_23 (by decide) ?_
      refine R_ireturn rfl (by first | rfl | exact nar_b2i | exact nar_bi) (by decide) (by decide) dX12_isBy_27 ?_
      exact ⟨by rw [bi_t (by rw [decide_eq_true_eq]; by_cases q : 0 ≤ L k ∧ L k < 4; rw [if_pos q] at hc19; exact hc19; rw [if_neg q] at hc19; omega)], rfl, rfl, rfl, rfl⟩
end MLET2
