def fidx (c : Int) : Nat := if c = 110 then 0 else if c = 98 then 1 else if c = 120 then 2 else if c = 121 then 3 else if c = 119 then 4 else if c = 116 then 5 else if c = 97 then 6 else if c = 101 then 7 else 8
section MVAL
variable {g z : GG} {r : RR}
theorem m_worked (s a b : Int) : CT (mX12_worked (rmD 0 0 0)) 0 0 shW [vI s, vI a, vI b] g z r (qP shW g z r (some (vI (reck s a b)))) := by
  refine CT.of 0 rfl rfl ?_
  refine R_iload_n dX12_worked_0 rfl ?_
  by_cases h1 : s = 43
  · subst h1
    refine R_look 68 dX12_worked_1 (by decide) rfl (by decide) ?_
    refine R_iload_n dX12_worked_68 rfl ?_
    refine R_iload_n dX12_worked_69 rfl ?_
    refine R_iadd dX12_worked_70 ?_
    refine R_ireturn rfl (by first | rfl | exact nar_b2i | exact nar_bi) (by decide) (by decide) dX12_worked_71 ?_
    exact ⟨rfl, rfl, rfl, rfl, rfl⟩
  by_cases h2 : s = 45
  · subst h2
    refine R_look 72 dX12_worked_1 (by decide) rfl (by decide) ?_
    refine R_iload_n dX12_worked_72 rfl ?_
    refine R_iload_n dX12_worked_73 rfl ?_
    refine R_isub dX12_worked_74 ?_
    refine R_ireturn rfl (by first | rfl | exact nar_b2i | exact nar_bi) (by decide) (by decide) dX12_worked_75 ?_
    exact ⟨rfl, rfl, rfl, rfl, rfl⟩
  by_cases h3 : s = 42
  · subst h3
    refine R_look 76 dX12_worked_1 (by decide) rfl (by decide) ?_
    refine R_iload_n dX12_worked_76 rfl ?_
    refine R_iload_n dX12_worked_77 rfl ?_
    refine R_imul dX12_worked_78 ?_
    refine R_ireturn rfl (by first | rfl | exact nar_b2i | exact nar_bi) (by decide) (by decide) dX12_worked_79 ?_
    exact ⟨rfl, rfl, rfl, rfl, rfl⟩
  by_cases h4 : s = 47
  · subst h4
    refine R_look 80 dX12_worked_1 (by decide) rfl (by decide) ?_
    refine R_iload_n dX12_worked_80 rfl ?_
    refine R_if_ne 88 dX12_worked_81 (by decide) (fun hc81 => ?_) (fun hc81 => ?_)
    · refine R_iload_n dX12_worked_88 rfl ?_
      refine R_iload_n dX12_worked_89 rfl ?_
      refine R_idiv dX12_worked_90 (by assumption) ?_
      refine R_ireturn rfl (by first | rfl | exact nar_b2i | exact nar_bi) (by decide) (by decide) dX12_worked_91 ?_
      exact ⟨by simp [reck, hc81], rfl, rfl, rfl, rfl⟩
    · refine R_iconst dX12_worked_84 rfl rfl ?_
      refine R_goto 91 dX12_worked_85 (by decide) ?_
      refine R_ireturn rfl (by first | rfl | exact nar_b2i | exact nar_bi) (by decide) (by decide) dX12_worked_91 ?_
      exact ⟨by simp [reck, hc81], rfl, rfl, rfl, rfl⟩
  by_cases h5 : s = 37
  · subst h5
    refine R_look 92 dX12_worked_1 (by decide) rfl (by decide) ?_
    refine R_iload_n dX12_worked_92 rfl ?_
    refine R_if_ne 100 dX12_worked_93 (by decide) (fun hc93 => ?_) (fun hc93 => ?_)
    · refine R_iload_n dX12_worked_100 rfl ?_
      refine R_iload_n dX12_worked_101 rfl ?_
      refine R_irem dX12_worked_102 (by assumption) ?_
      refine R_ireturn rfl (by first | rfl | exact nar_b2i | exact nar_bi) (by decide) (by decide) dX12_worked_103 ?_
      exact ⟨by simp [reck, hc93], rfl, rfl, rfl, rfl⟩
    · refine R_iconst dX12_worked_96 rfl rfl ?_
      refine R_goto 103 dX12_worked_97 (by decide) ?_
      refine R_ireturn rfl (by first | rfl | exact nar_b2i | exact nar_bi) (by decide) (by decide) dX12_worked_103 ?_
      exact ⟨by simp [reck, hc93], rfl, rfl, rfl, rfl⟩
  by_cases h6 : s = 60
  · subst h6
    refine R_look 104 dX12_worked_1 (by decide) rfl (by decide) ?_
    refine R_iload_n dX12_worked_104 rfl ?_
    refine R_iload_n dX12_worked_105 rfl ?_
    refine R_icmp_ge 113 dX12_worked_106 (by decide) (fun hc106 => ?_) (fun hc106 => ?_)
    · refine R_iconst dX12_worked_113 rfl rfl ?_
      refine R_ireturn rfl (by first | rfl | exact nar_b2i | exact nar_bi) (by decide) (by decide) dX12_worked_114 ?_
      exact ⟨by simp [reck, b2i]; omega, rfl, rfl, rfl, rfl⟩
    · refine R_iconst dX12_worked_109 rfl rfl ?_
      refine R_goto 114 dX12_worked_110 (by decide) ?_
      refine R_ireturn rfl (by first | rfl | exact nar_b2i | exact nar_bi) (by decide) (by decide) dX12_worked_114 ?_
      exact ⟨by simp [reck, b2i]; omega, rfl, rfl, rfl, rfl⟩
  by_cases h7 : s = 62
  · subst h7
    refine R_look 115 dX12_worked_1 (by decide) rfl (by decide) ?_
    refine R_iload_n dX12_worked_115 rfl ?_
    refine R_iload_n dX12_worked_116 rfl ?_
    refine R_icmp_le 124 dX12_worked_117 (by decide) (fun hc117 => ?_) (fun hc117 => ?_)
    · refine R_iconst dX12_worked_124 rfl rfl ?_
      refine R_ireturn rfl (by first | rfl | exact nar_b2i | exact nar_bi) (by decide) (by decide) dX12_worked_125 ?_
      exact ⟨by simp [reck, b2i]; omega, rfl, rfl, rfl, rfl⟩
    · refine R_iconst dX12_worked_120 rfl rfl ?_
      refine R_goto 125 dX12_worked_121 (by decide) ?_
      refine R_ireturn rfl (by first | rfl | exact nar_b2i | exact nar_bi) (by decide) (by decide) dX12_worked_125 ?_
      exact ⟨by simp [reck, b2i]; omega, rfl, rfl, rfl, rfl⟩
  refine R_look 126 dX12_worked_1 (by decide) (off := 125) (by simp [Op.lookupswitch.offset, h1, h2, h3, h4, h5, h6, h7]; omega) (by decide) ?_
  refine R_iload_n dX12_worked_126 rfl ?_
  refine R_iload_n dX12_worked_127 rfl ?_
  refine R_icmp_ne 135 dX12_worked_128 (by decide) (fun hc128 => ?_) (fun hc128 => ?_)
  · refine R_iconst dX12_worked_135 rfl rfl ?_
    refine R_ireturn rfl (by first | rfl | exact nar_b2i | exact nar_bi) (by decide) (by decide) dX12_worked_136 ?_
    exact ⟨by simp [reck, b2i, h1, h2, h3, h4, h5, h6, h7]; omega, rfl, rfl, rfl, rfl⟩
  · refine R_iconst dX12_worked_131 rfl rfl ?_
    refine R_goto 136 dX12_worked_132 (by decide) ?_
    refine R_ireturn rfl (by first | rfl | exact nar_b2i | exact nar_bi) (by decide) (by decide) dX12_worked_136 ?_
    exact ⟨by simp [reck, b2i, h1, h2, h3, h4, h5, h6, h7]; omega, rfl, rfl, rfl, rfl⟩
theorem m_value (hr : RS r) (hB : BM g) (c : Nat) (hc6 : c < 6) (hgc : g 74 45 = (c : Int)) (l : List Nat) (hl : FamM g l) (hm : ∀ a ∈ l, a < 10) (hll : l.length ≤ 10) (k : Nat) (hk : k < l.length) (x : Nat) (hx : x ≤ 5) (ca : Int) : CT (mX12_value (rmD 1 0 0)) 0 0 shW [vR (some 74), vI ca, vI (k : Int), vI (x : Int)] g z r (qP shW g z r (some (vI (facA (vM g) c l k x (fidx ca))))) := by
  refine CT.of 4 rfl rfl ?_
  generalize hQ : (qP shW g z r (some (vI (facA (vM g) c l k x (fidx ca))))) = Q
  have hi10 := hm _ (getD_mem hk)
  have hgi := famM_at hl hk
  have hyk := hB.1 (l.getD k 0)
  have hni := hB.2.1 (l.getD k 0)
  have hwed := hB.2.2.2.1 c
  have hcS : ∀ m, m ≤ 10 → (cntS (vM g) (l.getD k 0) (l.take m) : Int) ≤ m := by
    intro m _
    have h1 : cntS (vM g) (l.getD k 0) (l.take m) ≤ (l.take m).length := List.length_filter_le _ _
    have h2 : (l.take m).length ≤ m := by rw [List.length_take]; omega
    omega
  have hcG : ∀ m, m ≤ 10 → (cntG (vM g) (l.getD k 0) (l.take m) : Int) ≤ m := by
    intro m _
    have h1 : cntG (vM g) (l.getD k 0) (l.take m) ≤ (l.take m).length := List.length_filter_le _ _
    have h2 : (l.take m).length ≤ m := by rw [List.length_take]; omega
    omega
  have etw : twin (vM g) l k = ((decide (0 < k) && decide (g 84 (l.getD (k - 1) 0) = g 84 (l.getD k 0))) || (decide (k + 1 < l.length) && decide (g 84 (l.getD (k + 1) 0) = g 84 (l.getD k 0)))) := rfl
  have hj1 : 0 < k → g 101 (((k : Int) - 1).toNat) = ((l.getD (k - 1) 0 : Nat) : Int) := fun h => by rw [show ((k : Int) - 1).toNat = k - 1 by omega]; exact famM_at hl (by omega)
  have hj2 : k + 1 < l.length → g 101 (((k : Int) + 1).toNat) = ((l.getD (k + 1) 0 : Nat) : Int) := fun h => by rw [show ((k : Int) + 1).toNat = k + 1 by omega]; exact famM_at hl (by omega)
  have hm1 : 0 < k → l.getD (k - 1) 0 < 10 := fun h => hm _ (getD_mem (by omega))
  have hm2 : k + 1 < l.length → l.getD (k + 1) 0 < 10 := fun h => hm _ (getD_mem (by omega))
  have second : ∀ (a5 a6 a7 : Option AV), facA (vM g) c l k x (fidx ca) = bi (twin (vM g) l k) → ¬ (0 < k ∧ g 84 (l.getD (k - 1) 0) = g 84 (l.getD k 0)) → RJ (mX12_value (rmD 1 0 0)) 0 0 shW.length Q 0 0 shW 287 [some (vR (some 74)), some (vI ca), some (vI (k : Int)), some (vI (x : Int)), some (vI ((l.getD k 0 : Nat) : Int)), a5, a6, a7] [] g z r := by
    intro a5 a6 a7 hf hno
    refine R_iload_n dX12_value_287 rfl ?_
    refine R_iconst dX12_value_288 rfl rfl ?_
    refine R_iaddN dX12_value_289 (by unfold inI; omega) ?_
    refine R_aload_n dX12_value_290 rfl ?_
    refine R_getI fd12_46 kf12_321 rfl dX12_value_291 ?_
    rw [hl.1]
    refine R_icmp_ge 324 dX12_value_294 (by decide) (fun hc294 => ?_) (fun hc294 => ?_)
    · refine R_iconst dX12_value_324 rfl rfl ?_
      refine R_ireturn rfl (by first | rfl | exact nar_b2i | exact nar_bi) (by decide) (by decide) dX12_value_325 ?_
      rw [← hQ, hf]
      exact ⟨by rw [bi_f (by rw [etw]; simp only [Bool.or_eq_true, Bool.and_eq_true, decide_eq_true_eq]; omega)], rfl, rfl, rfl, rfl⟩
    refine R_aload_n dX12_value_297 rfl ?_
    refine R_getR _ (hr _ _ _ rfl) fd12_18 kf12_54 rfl dX12_value_298 ?_
    refine R_aload_n dX12_value_301 rfl ?_
    refine R_getR _ (hr _ _ _ rfl) fd12_47 kf12_105 rfl dX12_value_302 ?_
    refine R_iload_n dX12_value_305 rfl ?_
    refine R_iconst dX12_value_306 rfl rfl ?_
    refine R_iaddN dX12_value_307 (by unfold inI; omega) ?_
    refine R_iald rfl (by omega) (by omega) dX12_value_308 ?_
    rw [hj2 (by omega)]
    have hmm := hm2 (by omega)
    refine R_iald rfl (by omega) (by omega) dX12_value_309 ?_
    rw [Int.toNat_natCast]
    refine R_aload_n dX12_value_310 rfl ?_
    refine R_getR _ (hr _ _ _ rfl) fd12_18 kf12_54 rfl dX12_value_311 ?_
    refine R_iload dX12_value_314 rfl ?_
    refine R_iald rfl (by omega) (by omega) dX12_value_316 ?_
    rw [Int.toNat_natCast]
    refine R_icmp_ne 324 dX12_value_317 (by decide) (fun hc317 => ?_) (fun hc317 => ?_)
    · refine R_iconst dX12_value_324 rfl rfl ?_
      refine R_ireturn rfl (by first | rfl | exact nar_b2i | exact nar_bi) (by decide) (by decide) dX12_value_325 ?_
      rw [← hQ, hf]
      exact ⟨by rw [bi_f (by rw [etw]; simp only [Bool.or_eq_true, Bool.and_eq_true, decide_eq_true_eq]; omega)], rfl, rfl, rfl, rfl⟩
    · refine R_iconst dX12_value_320 rfl rfl ?_
      refine R_goto 325 dX12_value_321 (by decide) ?_
      refine R_ireturn rfl (by first | rfl | exact nar_b2i | exact nar_bi) (by decide) (by decide) dX12_value_325 ?_
      rw [← hQ, hf]
      exact ⟨by rw [bi_t (by rw [etw]; simp only [Bool.or_eq_true, Bool.and_eq_true, decide_eq_true_eq]; omega)], rfl, rfl, rfl, rfl⟩
  have tw : ∀ (a5 a6 a7 : Option AV), facA (vM g) c l k x (fidx ca) = bi (twin (vM g) l k) → RJ (mX12_value (rmD 1 0 0)) 0 0 shW.length Q 0 0 shW 260 [some (vR (some 74)), some (vI ca), some (vI (k : Int)), some (vI (x : Int)), some (vI ((l.getD k 0 : Nat) : Int)), a5, a6, a7] [] g z r := by
    intro a5 a6 a7 hf
    refine R_iload_n dX12_value_260 rfl ?_
    refine R_if_le 287 dX12_value_261 (by decide) (fun hc261 => ?_) (fun hc261 => ?_)
    · exact second _ _ _ hf (by omega)
    refine R_aload_n dX12_value_264 rfl ?_
    refine R_getR _ (hr _ _ _ rfl) fd12_18 kf12_54 rfl dX12_value_265 ?_
    refine R_aload_n dX12_value_268 rfl ?_
    refine R_getR _ (hr _ _ _ rfl) fd12_47 kf12_105 rfl dX12_value_269 ?_
    refine R_iload_n dX12_value_272 rfl ?_
    refine R_iconst dX12_value_273 rfl rfl ?_
    refine R_isubN dX12_value_274 (by unfold inI; omega) ?_
    refine R_iald rfl (by omega) (by omega) dX12_value_275 ?_
    rw [hj1 (by omega)]
    have hmm := hm1 (by omega)
    refine R_iald rfl (by omega) (by omega) dX12_value_276 ?_
    rw [Int.toNat_natCast]
    refine R_aload_n dX12_value_277 rfl ?_
    refine R_getR _ (hr _ _ _ rfl) fd12_18 kf12_54 rfl dX12_value_278 ?_
    refine R_iload dX12_value_281 rfl ?_
    refine R_iald rfl (by omega) (by omega) dX12_value_283 ?_
    rw [Int.toNat_natCast]
    refine R_icmp_eq 320 dX12_value_284 (by decide) (fun hc284 => ?_) (fun hc284 => ?_)
    · refine R_iconst dX12_value_320 rfl rfl ?_
      refine R_goto 325 dX12_value_321 (by decide) ?_
      refine R_ireturn rfl (by first | rfl | exact nar_b2i | exact nar_bi) (by decide) (by decide) dX12_value_325 ?_
      rw [← hQ, hf]
      exact ⟨by rw [bi_t (by rw [etw]; simp only [Bool.or_eq_true, Bool.and_eq_true, decide_eq_true_eq]; omega)], rfl, rfl, rfl, rfl⟩
    · exact second _ _ _ hf (by omega)
  have fin : ∀ (a7 : Option AV), RJ (mX12_value (rmD 1 0 0)) 0 0 shW.length Q 0 0 shW 100 [some (vR (some 74)), some (vI ca), some (vI (k : Int)), some (vI (x : Int)), some (vI ((l.getD k 0 : Nat) : Int)), some (vI (1 + (x : Int) + (cntS (vM g) (l.getD k 0) (l.take k) : Int))), some (vI (cntG (vM g) (l.getD k 0) (l.take k) : Int)), a7] [] g z r := by
    intro a7
    have hnn : 0 ≤ g 83 (l.getD k 0) ∧ g 83 (l.getD k 0) < 16 := by omega
    refine R_iload_n dX12_value_100 rfl ?_
    refine R_ts [326, 219, 337, 337, 334, 337, 337, 337, 337, 337, 337, 337, 337, 216, 337, 337, 337, 337, 337, 260, 337, 337, 242, 221, 234] 337 dX12_value_101 (by decide) (by decide) (by decide) (fun i101 t101 ht101 ha101 => ?_) (fun hc101 => ?_)
    · match i101, ht101 with
      | 0, ht101 =>
        cases ht101
        refine R_aload_n dX12_value_326 rfl ?_
        refine R_getR _ (hr _ _ _ rfl) fd12_17 kf12_51 rfl dX12_value_327 ?_
        refine R_iload dX12_value_330 rfl ?_
        refine R_iald rfl (by first | omega | (rw [Int.toNat_natCast]; omega) | (rw [hgc]; omega)) (by first | omega | (rw [Int.toNat_natCast]; omega) | (rw [hgc]; omega)) dX12_value_332 ?_
        refine R_ireturn rfl (by first | rfl | exact nar_b2i | exact nar_bi) (by decide) (by decide) dX12_value_333 ?_
        rw [← hQ]; first | exact ⟨by rw [ha101]; rfl, rfl, rfl, rfl, rfl⟩ | exact ⟨by rw [ha101, Int.toNat_natCast]; rfl, rfl, rfl, rfl, rfl⟩ | exact ⟨by rw [ha101, Int.toNat_natCast, hgc]; rfl, rfl, rfl, rfl, rfl⟩ | exact ⟨by rw [ha101, hl.1]; rfl, rfl, rfl, rfl, rfl⟩ | exact ⟨by rw [hl.1, fidx, if_neg (by omega), if_neg (by omega), if_neg (by omega), if_neg (by omega), if_neg (by omega), if_neg (by omega), if_neg (by omega), if_neg (by omega)]; rfl, rfl, rfl, rfl, rfl⟩ | exact ⟨by rw [ha101]; congr 2; show _ = facS (vM g) c l k 0 + (x : Int); unfold facS; simp only; omega, rfl, rfl, rfl, rfl⟩
      | 1, ht101 =>
        cases ht101
        refine R_iload_n dX12_value_219 rfl ?_
        refine R_ireturn rfl (by first | rfl | exact nar_b2i | exact nar_bi) (by decide) (by decide) dX12_value_220 ?_
        rw [← hQ]; first | exact ⟨by rw [ha101]; rfl, rfl, rfl, rfl, rfl⟩ | exact ⟨by rw [ha101, Int.toNat_natCast]; rfl, rfl, rfl, rfl, rfl⟩ | exact ⟨by rw [ha101, Int.toNat_natCast, hgc]; rfl, rfl, rfl, rfl, rfl⟩ | exact ⟨by rw [ha101, hl.1]; rfl, rfl, rfl, rfl, rfl⟩ | exact ⟨by rw [hl.1, fidx, if_neg (by omega), if_neg (by omega), if_neg (by omega), if_neg (by omega), if_neg (by omega), if_neg (by omega), if_neg (by omega), if_neg (by omega)]; rfl, rfl, rfl, rfl, rfl⟩ | exact ⟨by rw [ha101]; congr 2; show _ = facS (vM g) c l k 0 + (x : Int); unfold facS; simp only; omega, rfl, rfl, rfl, rfl⟩
      | 2, ht101 =>
        cases ht101
        refine R_aload_n dX12_value_337 rfl ?_
        refine R_getI fd12_46 kf12_321 rfl dX12_value_338 ?_
        refine R_ireturn rfl (by first | rfl | exact nar_b2i | exact nar_bi) (by decide) (by decide) dX12_value_341 ?_
        rw [← hQ]; first | exact ⟨by rw [ha101]; rfl, rfl, rfl, rfl, rfl⟩ | exact ⟨by rw [ha101, Int.toNat_natCast]; rfl, rfl, rfl, rfl, rfl⟩ | exact ⟨by rw [ha101, Int.toNat_natCast, hgc]; rfl, rfl, rfl, rfl, rfl⟩ | exact ⟨by rw [ha101, hl.1]; rfl, rfl, rfl, rfl, rfl⟩ | exact ⟨by rw [hl.1, fidx, if_neg (by omega), if_neg (by omega), if_neg (by omega), if_neg (by omega), if_neg (by omega), if_neg (by omega), if_neg (by omega), if_neg (by omega)]; rfl, rfl, rfl, rfl, rfl⟩ | exact ⟨by rw [ha101]; congr 2; show _ = facS (vM g) c l k 0 + (x : Int); unfold facS; simp only; omega, rfl, rfl, rfl, rfl⟩
      | 3, ht101 =>
        cases ht101
        refine R_aload_n dX12_value_337 rfl ?_
        refine R_getI fd12_46 kf12_321 rfl dX12_value_338 ?_
        refine R_ireturn rfl (by first | rfl | exact nar_b2i | exact nar_bi) (by decide) (by decide) dX12_value_341 ?_
        rw [← hQ]; first | exact ⟨by rw [ha101]; rfl, rfl, rfl, rfl, rfl⟩ | exact ⟨by rw [ha101, Int.toNat_natCast]; rfl, rfl, rfl, rfl, rfl⟩ | exact ⟨by rw [ha101, Int.toNat_natCast, hgc]; rfl, rfl, rfl, rfl, rfl⟩ | exact ⟨by rw [ha101, hl.1]; rfl, rfl, rfl, rfl, rfl⟩ | exact ⟨by rw [hl.1, fidx, if_neg (by omega), if_neg (by omega), if_neg (by omega), if_neg (by omega), if_neg (by omega), if_neg (by omega), if_neg (by omega), if_neg (by omega)]; rfl, rfl, rfl, rfl, rfl⟩ | exact ⟨by rw [ha101]; congr 2; show _ = facS (vM g) c l k 0 + (x : Int); unfold facS; simp only; omega, rfl, rfl, rfl, rfl⟩
      | 4, ht101 =>
        cases ht101
        refine R_iload dX12_value_334 rfl ?_
        refine R_ireturn rfl (by first | rfl | exact nar_b2i | exact nar_bi) (by decide) (by decide) dX12_value_336 ?_
        rw [← hQ]; first | exact ⟨by rw [ha101]; rfl, rfl, rfl, rfl, rfl⟩ | exact ⟨by rw [ha101, Int.toNat_natCast]; rfl, rfl, rfl, rfl, rfl⟩ | exact ⟨by rw [ha101, Int.toNat_natCast, hgc]; rfl, rfl, rfl, rfl, rfl⟩ | exact ⟨by rw [ha101, hl.1]; rfl, rfl, rfl, rfl, rfl⟩ | exact ⟨by rw [hl.1, fidx, if_neg (by omega), if_neg (by omega), if_neg (by omega), if_neg (by omega), if_neg (by omega), if_neg (by omega), if_neg (by omega), if_neg (by omega)]; rfl, rfl, rfl, rfl, rfl⟩ | exact ⟨by rw [ha101]; congr 2; show _ = facS (vM g) c l k 0 + (x : Int); unfold facS; simp only; omega, rfl, rfl, rfl, rfl⟩
      | 5, ht101 =>
        cases ht101
        refine R_aload_n dX12_value_337 rfl ?_
        refine R_getI fd12_46 kf12_321 rfl dX12_value_338 ?_
        refine R_ireturn rfl (by first | rfl | exact nar_b2i | exact nar_bi) (by decide) (by decide) dX12_value_341 ?_
        rw [← hQ]; first | exact ⟨by rw [ha101]; rfl, rfl, rfl, rfl, rfl⟩ | exact ⟨by rw [ha101, Int.toNat_natCast]; rfl, rfl, rfl, rfl, rfl⟩ | exact ⟨by rw [ha101, Int.toNat_natCast, hgc]; rfl, rfl, rfl, rfl, rfl⟩ | exact ⟨by rw [ha101, hl.1]; rfl, rfl, rfl, rfl, rfl⟩ | exact ⟨by rw [hl.1, fidx, if_neg (by omega), if_neg (by omega), if_neg (by omega), if_neg (by omega), if_neg (by omega), if_neg (by omega), if_neg (by omega), if_neg (by omega)]; rfl, rfl, rfl, rfl, rfl⟩ | exact ⟨by rw [ha101]; congr 2; show _ = facS (vM g) c l k 0 + (x : Int); unfold facS; simp only; omega, rfl, rfl, rfl, rfl⟩
      | 6, ht101 =>
        cases ht101
        refine R_aload_n dX12_value_337 rfl ?_
        refine R_getI fd12_46 kf12_321 rfl dX12_value_338 ?_
        refine R_ireturn rfl (by first | rfl | exact nar_b2i | exact nar_bi) (by decide) (by decide) dX12_value_341 ?_
        rw [← hQ]; first | exact ⟨by rw [ha101]; rfl, rfl, rfl, rfl, rfl⟩ | exact ⟨by rw [ha101, Int.toNat_natCast]; rfl, rfl, rfl, rfl, rfl⟩ | exact ⟨by rw [ha101, Int.toNat_natCast, hgc]; rfl, rfl, rfl, rfl, rfl⟩ | exact ⟨by rw [ha101, hl.1]; rfl, rfl, rfl, rfl, rfl⟩ | exact ⟨by rw [hl.1, fidx, if_neg (by omega), if_neg (by omega), if_neg (by omega), if_neg (by omega), if_neg (by omega), if_neg (by omega), if_neg (by omega), if_neg (by omega)]; rfl, rfl, rfl, rfl, rfl⟩ | exact ⟨by rw [ha101]; congr 2; show _ = facS (vM g) c l k 0 + (x : Int); unfold facS; simp only; omega, rfl, rfl, rfl, rfl⟩
      | 7, ht101 =>
        cases ht101
        refine R_aload_n dX12_value_337 rfl ?_
        refine R_getI fd12_46 kf12_321 rfl dX12_value_338 ?_
        refine R_ireturn rfl (by first | rfl | exact nar_b2i | exact nar_bi) (by decide) (by decide) dX12_value_341 ?_
        rw [← hQ]; first | exact ⟨by rw [ha101]; rfl, rfl, rfl, rfl, rfl⟩ | exact ⟨by rw [ha101, Int.toNat_natCast]; rfl, rfl, rfl, rfl, rfl⟩ | exact ⟨by rw [ha101, Int.toNat_natCast, hgc]; rfl, rfl, rfl, rfl, rfl⟩ | exact ⟨by rw [ha101, hl.1]; rfl, rfl, rfl, rfl, rfl⟩ | exact ⟨by rw [hl.1, fidx, if_neg (by omega), if_neg (by omega), if_neg (by omega), if_neg (by omega), if_neg (by omega), if_neg (by omega), if_neg (by omega), if_neg (by omega)]; rfl, rfl, rfl, rfl, rfl⟩ | exact ⟨by rw [ha101]; congr 2; show _ = facS (vM g) c l k 0 + (x : Int); unfold facS; simp only; omega, rfl, rfl, rfl, rfl⟩
      | 8, ht101 =>
        cases ht101
        refine R_aload_n dX12_value_337 rfl ?_
        refine R_getI fd12_46 kf12_321 rfl dX12_value_338 ?_
        refine R_ireturn rfl (by first | rfl | exact nar_b2i | exact nar_bi) (by decide) (by decide) dX12_value_341 ?_
        rw [← hQ]; first | exact ⟨by rw [ha101]; rfl, rfl, rfl, rfl, rfl⟩ | exact ⟨by rw [ha101, Int.toNat_natCast]; rfl, rfl, rfl, rfl, rfl⟩ | exact ⟨by rw [ha101, Int.toNat_natCast, hgc]; rfl, rfl, rfl, rfl, rfl⟩ | exact ⟨by rw [ha101, hl.1]; rfl, rfl, rfl, rfl, rfl⟩ | exact ⟨by rw [hl.1, fidx, if_neg (by omega), if_neg (by omega), if_neg (by omega), if_neg (by omega), if_neg (by omega), if_neg (by omega), if_neg (by omega), if_neg (by omega)]; rfl, rfl, rfl, rfl, rfl⟩ | exact ⟨by rw [ha101]; congr 2; show _ = facS (vM g) c l k 0 + (x : Int); unfold facS; simp only; omega, rfl, rfl, rfl, rfl⟩
      | 9, ht101 =>
        cases ht101
        refine R_aload_n dX12_value_337 rfl ?_
        refine R_getI fd12_46 kf12_321 rfl dX12_value_338 ?_
        refine R_ireturn rfl (by first | rfl | exact nar_b2i | exact nar_bi) (by decide) (by decide) dX12_value_341 ?_
        rw [← hQ]; first | exact ⟨by rw [ha101]; rfl, rfl, rfl, rfl, rfl⟩ | exact ⟨by rw [ha101, Int.toNat_natCast]; rfl, rfl, rfl, rfl, rfl⟩ | exact ⟨by rw [ha101, Int.toNat_natCast, hgc]; rfl, rfl, rfl, rfl, rfl⟩ | exact ⟨by rw [ha101, hl.1]; rfl, rfl, rfl, rfl, rfl⟩ | exact ⟨by rw [hl.1, fidx, if_neg (by omega), if_neg (by omega), if_neg (by omega), if_neg (by omega), if_neg (by omega), if_neg (by omega), if_neg (by omega), if_neg (by omega)]; rfl, rfl, rfl, rfl, rfl⟩ | exact ⟨by rw [ha101]; congr 2; show _ = facS (vM g) c l k 0 + (x : Int); unfold facS; simp only; omega, rfl, rfl, rfl, rfl⟩
      | 10, ht101 =>
        cases ht101
        refine R_aload_n dX12_value_337 rfl ?_
        refine R_getI fd12_46 kf12_321 rfl dX12_value_338 ?_
        refine R_ireturn rfl (by first | rfl | exact nar_b2i | exact nar_bi) (by decide) (by decide) dX12_value_341 ?_
        rw [← hQ]; first | exact ⟨by rw [ha101]; rfl, rfl, rfl, rfl, rfl⟩ | exact ⟨by rw [ha101, Int.toNat_natCast]; rfl, rfl, rfl, rfl, rfl⟩ | exact ⟨by rw [ha101, Int.toNat_natCast, hgc]; rfl, rfl, rfl, rfl, rfl⟩ | exact ⟨by rw [ha101, hl.1]; rfl, rfl, rfl, rfl, rfl⟩ | exact ⟨by rw [hl.1, fidx, if_neg (by omega), if_neg (by omega), if_neg (by omega), if_neg (by omega), if_neg (by omega), if_neg (by omega), if_neg (by omega), if_neg (by omega)]; rfl, rfl, rfl, rfl, rfl⟩ | exact ⟨by rw [ha101]; congr 2; show _ = facS (vM g) c l k 0 + (x : Int); unfold facS; simp only; omega, rfl, rfl, rfl, rfl⟩
      | 11, ht101 =>
        cases ht101
        refine R_aload_n dX12_value_337 rfl ?_
        refine R_getI fd12_46 kf12_321 rfl dX12_value_338 ?_
        refine R_ireturn rfl (by first | rfl | exact nar_b2i | exact nar_bi) (by decide) (by decide) dX12_value_341 ?_
        rw [← hQ]; first | exact ⟨by rw [ha101]; rfl, rfl, rfl, rfl, rfl⟩ | exact ⟨by rw [ha101, Int.toNat_natCast]; rfl, rfl, rfl, rfl, rfl⟩ | exact ⟨by rw [ha101, Int.toNat_natCast, hgc]; rfl, rfl, rfl, rfl, rfl⟩ | exact ⟨by rw [ha101, hl.1]; rfl, rfl, rfl, rfl, rfl⟩ | exact ⟨by rw [hl.1, fidx, if_neg (by omega), if_neg (by omega), if_neg (by omega), if_neg (by omega), if_neg (by omega), if_neg (by omega), if_neg (by omega), if_neg (by omega)]; rfl, rfl, rfl, rfl, rfl⟩ | exact ⟨by rw [ha101]; congr 2; show _ = facS (vM g) c l k 0 + (x : Int); unfold facS; simp only; omega, rfl, rfl, rfl, rfl⟩
      | 12, ht101 =>
        cases ht101
        refine R_aload_n dX12_value_337 rfl ?_
        refine R_getI fd12_46 kf12_321 rfl dX12_value_338 ?_
        refine R_ireturn rfl (by first | rfl | exact nar_b2i | exact nar_bi) (by decide) (by decide) dX12_value_341 ?_
        rw [← hQ]; first | exact ⟨by rw [ha101]; rfl, rfl, rfl, rfl, rfl⟩ | exact ⟨by rw [ha101, Int.toNat_natCast]; rfl, rfl, rfl, rfl, rfl⟩ | exact ⟨by rw [ha101, Int.toNat_natCast, hgc]; rfl, rfl, rfl, rfl, rfl⟩ | exact ⟨by rw [ha101, hl.1]; rfl, rfl, rfl, rfl, rfl⟩ | exact ⟨by rw [hl.1, fidx, if_neg (by omega), if_neg (by omega), if_neg (by omega), if_neg (by omega), if_neg (by omega), if_neg (by omega), if_neg (by omega), if_neg (by omega)]; rfl, rfl, rfl, rfl, rfl⟩ | exact ⟨by rw [ha101]; congr 2; show _ = facS (vM g) c l k 0 + (x : Int); unfold facS; simp only; omega, rfl, rfl, rfl, rfl⟩
      | 13, ht101 =>
        cases ht101
        refine R_iload dX12_value_216 rfl ?_
        refine R_ireturn rfl (by first | rfl | exact nar_b2i | exact nar_bi) (by decide) (by decide) dX12_value_218 ?_
        rw [← hQ]; first | exact ⟨by rw [ha101]; rfl, rfl, rfl, rfl, rfl⟩ | exact ⟨by rw [ha101, Int.toNat_natCast]; rfl, rfl, rfl, rfl, rfl⟩ | exact ⟨by rw [ha101, Int.toNat_natCast, hgc]; rfl, rfl, rfl, rfl, rfl⟩ | exact ⟨by rw [ha101, hl.1]; rfl, rfl, rfl, rfl, rfl⟩ | exact ⟨by rw [hl.1, fidx, if_neg (by omega), if_neg (by omega), if_neg (by omega), if_neg (by omega), if_neg (by omega), if_neg (by omega), if_neg (by omega), if_neg (by omega)]; rfl, rfl, rfl, rfl, rfl⟩ | exact ⟨by rw [ha101]; congr 2; show _ = facS (vM g) c l k 0 + (x : Int); unfold facS; simp only; omega, rfl, rfl, rfl, rfl⟩
      | 14, ht101 =>
        cases ht101
        refine R_aload_n dX12_value_337 rfl ?_
        refine R_getI fd12_46 kf12_321 rfl dX12_value_338 ?_
        refine R_ireturn rfl (by first | rfl | exact nar_b2i | exact nar_bi) (by decide) (by decide) dX12_value_341 ?_
        rw [← hQ]; first | exact ⟨by rw [ha101]; rfl, rfl, rfl, rfl, rfl⟩ | exact ⟨by rw [ha101, Int.toNat_natCast]; rfl, rfl, rfl, rfl, rfl⟩ | exact ⟨by rw [ha101, Int.toNat_natCast, hgc]; rfl, rfl, rfl, rfl, rfl⟩ | exact ⟨by rw [ha101, hl.1]; rfl, rfl, rfl, rfl, rfl⟩ | exact ⟨by rw [hl.1, fidx, if_neg (by omega), if_neg (by omega), if_neg (by omega), if_neg (by omega), if_neg (by omega), if_neg (by omega), if_neg (by omega), if_neg (by omega)]; rfl, rfl, rfl, rfl, rfl⟩ | exact ⟨by rw [ha101]; congr 2; show _ = facS (vM g) c l k 0 + (x : Int); unfold facS; simp only; omega, rfl, rfl, rfl, rfl⟩
      | 15, ht101 =>
        cases ht101
        refine R_aload_n dX12_value_337 rfl ?_
        refine R_getI fd12_46 kf12_321 rfl dX12_value_338 ?_
        refine R_ireturn rfl (by first | rfl | exact nar_b2i | exact nar_bi) (by decide) (by decide) dX12_value_341 ?_
        rw [← hQ]; first | exact ⟨by rw [ha101]; rfl, rfl, rfl, rfl, rfl⟩ | exact ⟨by rw [ha101, Int.toNat_natCast]; rfl, rfl, rfl, rfl, rfl⟩ | exact ⟨by rw [ha101, Int.toNat_natCast, hgc]; rfl, rfl, rfl, rfl, rfl⟩ | exact ⟨by rw [ha101, hl.1]; rfl, rfl, rfl, rfl, rfl⟩ | exact ⟨by rw [hl.1, fidx, if_neg (by omega), if_neg (by omega), if_neg (by omega), if_neg (by omega), if_neg (by omega), if_neg (by omega), if_neg (by omega), if_neg (by omega)]; rfl, rfl, rfl, rfl, rfl⟩ | exact ⟨by rw [ha101]; congr 2; show _ = facS (vM g) c l k 0 + (x : Int); unfold facS; simp only; omega, rfl, rfl, rfl, rfl⟩
      | 16, ht101 =>
        cases ht101
        refine R_aload_n dX12_value_337 rfl ?_
        refine R_getI fd12_46 kf12_321 rfl dX12_value_338 ?_
        refine R_ireturn rfl (by first | rfl | exact nar_b2i | exact nar_bi) (by decide) (by decide) dX12_value_341 ?_
        rw [← hQ]; first | exact ⟨by rw [ha101]; rfl, rfl, rfl, rfl, rfl⟩ | exact ⟨by rw [ha101, Int.toNat_natCast]; rfl, rfl, rfl, rfl, rfl⟩ | exact ⟨by rw [ha101, Int.toNat_natCast, hgc]; rfl, rfl, rfl, rfl, rfl⟩ | exact ⟨by rw [ha101, hl.1]; rfl, rfl, rfl, rfl, rfl⟩ | exact ⟨by rw [hl.1, fidx, if_neg (by omega), if_neg (by omega), if_neg (by omega), if_neg (by omega), if_neg (by omega), if_neg (by omega), if_neg (by omega), if_neg (by omega)]; rfl, rfl, rfl, rfl, rfl⟩ | exact ⟨by rw [ha101]; congr 2; show _ = facS (vM g) c l k 0 + (x : Int); unfold facS; simp only; omega, rfl, rfl, rfl, rfl⟩
      | 17, ht101 =>
        cases ht101
        refine R_aload_n dX12_value_337 rfl ?_
        refine R_getI fd12_46 kf12_321 rfl dX12_value_338 ?_
        refine R_ireturn rfl (by first | rfl | exact nar_b2i | exact nar_bi) (by decide) (by decide) dX12_value_341 ?_
        rw [← hQ]; first | exact ⟨by rw [ha101]; rfl, rfl, rfl, rfl, rfl⟩ | exact ⟨by rw [ha101, Int.toNat_natCast]; rfl, rfl, rfl, rfl, rfl⟩ | exact ⟨by rw [ha101, Int.toNat_natCast, hgc]; rfl, rfl, rfl, rfl, rfl⟩ | exact ⟨by rw [ha101, hl.1]; rfl, rfl, rfl, rfl, rfl⟩ | exact ⟨by rw [hl.1, fidx, if_neg (by omega), if_neg (by omega), if_neg (by omega), if_neg (by omega), if_neg (by omega), if_neg (by omega), if_neg (by omega), if_neg (by omega)]; rfl, rfl, rfl, rfl, rfl⟩ | exact ⟨by rw [ha101]; congr 2; show _ = facS (vM g) c l k 0 + (x : Int); unfold facS; simp only; omega, rfl, rfl, rfl, rfl⟩
      | 18, ht101 =>
        cases ht101
        refine R_aload_n dX12_value_337 rfl ?_
        refine R_getI fd12_46 kf12_321 rfl dX12_value_338 ?_
        refine R_ireturn rfl (by first | rfl | exact nar_b2i | exact nar_bi) (by decide) (by decide) dX12_value_341 ?_
        rw [← hQ]; first | exact ⟨by rw [ha101]; rfl, rfl, rfl, rfl, rfl⟩ | exact ⟨by rw [ha101, Int.toNat_natCast]; rfl, rfl, rfl, rfl, rfl⟩ | exact ⟨by rw [ha101, Int.toNat_natCast, hgc]; rfl, rfl, rfl, rfl, rfl⟩ | exact ⟨by rw [ha101, hl.1]; rfl, rfl, rfl, rfl, rfl⟩ | exact ⟨by rw [hl.1, fidx, if_neg (by omega), if_neg (by omega), if_neg (by omega), if_neg (by omega), if_neg (by omega), if_neg (by omega), if_neg (by omega), if_neg (by omega)]; rfl, rfl, rfl, rfl, rfl⟩ | exact ⟨by rw [ha101]; congr 2; show _ = facS (vM g) c l k 0 + (x : Int); unfold facS; simp only; omega, rfl, rfl, rfl, rfl⟩
      | 19, ht101 =>
        cases ht101
        exact tw _ _ _ (by rw [ha101]; rfl)
      | 20, ht101 =>
        cases ht101
        refine R_aload_n dX12_value_337 rfl ?_
        refine R_getI fd12_46 kf12_321 rfl dX12_value_338 ?_
        refine R_ireturn rfl (by first | rfl | exact nar_b2i | exact nar_bi) (by decide) (by decide) dX12_value_341 ?_
        rw [← hQ]; first | exact ⟨by rw [ha101]; rfl, rfl, rfl, rfl, rfl⟩ | exact ⟨by rw [ha101, Int.toNat_natCast]; rfl, rfl, rfl, rfl, rfl⟩ | exact ⟨by rw [ha101, Int.toNat_natCast, hgc]; rfl, rfl, rfl, rfl, rfl⟩ | exact ⟨by rw [ha101, hl.1]; rfl, rfl, rfl, rfl, rfl⟩ | exact ⟨by rw [hl.1, fidx, if_neg (by omega), if_neg (by omega), if_neg (by omega), if_neg (by omega), if_neg (by omega), if_neg (by omega), if_neg (by omega), if_neg (by omega)]; rfl, rfl, rfl, rfl, rfl⟩ | exact ⟨by rw [ha101]; congr 2; show _ = facS (vM g) c l k 0 + (x : Int); unfold facS; simp only; omega, rfl, rfl, rfl, rfl⟩
      | 21, ht101 =>
        cases ht101
        refine R_aload_n dX12_value_337 rfl ?_
        refine R_getI fd12_46 kf12_321 rfl dX12_value_338 ?_
        refine R_ireturn rfl (by first | rfl | exact nar_b2i | exact nar_bi) (by decide) (by decide) dX12_value_341 ?_
        rw [← hQ]; first | exact ⟨by rw [ha101]; rfl, rfl, rfl, rfl, rfl⟩ | exact ⟨by rw [ha101, Int.toNat_natCast]; rfl, rfl, rfl, rfl, rfl⟩ | exact ⟨by rw [ha101, Int.toNat_natCast, hgc]; rfl, rfl, rfl, rfl, rfl⟩ | exact ⟨by rw [ha101, hl.1]; rfl, rfl, rfl, rfl, rfl⟩ | exact ⟨by rw [hl.1, fidx, if_neg (by omega), if_neg (by omega), if_neg (by omega), if_neg (by omega), if_neg (by omega), if_neg (by omega), if_neg (by omega), if_neg (by omega)]; rfl, rfl, rfl, rfl, rfl⟩ | exact ⟨by rw [ha101]; congr 2; show _ = facS (vM g) c l k 0 + (x : Int); unfold facS; simp only; omega, rfl, rfl, rfl, rfl⟩
      | 22, ht101 =>
        cases ht101
        refine R_aload_n dX12_value_242 rfl ?_
        refine R_getR _ (hr _ _ _ rfl) fd12_18 kf12_54 rfl dX12_value_243 ?_
        refine R_iload dX12_value_246 rfl ?_
        refine R_iald rfl (by first | omega | (rw [Int.toNat_natCast]; omega) | (rw [hgc]; omega)) (by first | omega | (rw [Int.toNat_natCast]; omega) | (rw [hgc]; omega)) dX12_value_248 ?_
        refine R_aload_n dX12_value_249 rfl ?_
        refine R_getR _ (hr _ _ _ rfl) fd12_14 kf12_42 rfl dX12_value_250 ?_
        refine R_aload_n dX12_value_253 rfl ?_
        refine R_getI fd12_45 kf12_318 rfl dX12_value_254 ?_
        refine R_iald rfl (by first | omega | (rw [Int.toNat_natCast]; omega) | (rw [hgc]; omega)) (by first | omega | (rw [Int.toNat_natCast]; omega) | (rw [hgc]; omega)) dX12_value_257 ?_
        refine R_isubN dX12_value_258 (by have q1 := hB.1 ((l.getD k 0 : Nat) : Int).toNat; have q2 := hB.2.2.2.1 (g 74 45).toNat; unfold inI; omega) ?_
        refine R_ireturn rfl (by first | rfl | exact nar_b2i | exact nar_bi) (by decide) (by decide) dX12_value_259 ?_
        rw [← hQ]; first | exact ⟨by rw [ha101]; rfl, rfl, rfl, rfl, rfl⟩ | exact ⟨by rw [ha101, Int.toNat_natCast]; rfl, rfl, rfl, rfl, rfl⟩ | exact ⟨by rw [ha101, Int.toNat_natCast, hgc]; rfl, rfl, rfl, rfl, rfl⟩ | exact ⟨by rw [ha101, hl.1]; rfl, rfl, rfl, rfl, rfl⟩ | exact ⟨by rw [hl.1, fidx, if_neg (by omega), if_neg (by omega), if_neg (by omega), if_neg (by omega), if_neg (by omega), if_neg (by omega), if_neg (by omega), if_neg (by omega)]; rfl, rfl, rfl, rfl, rfl⟩ | exact ⟨by rw [ha101]; congr 2; show _ = facS (vM g) c l k 0 + (x : Int); unfold facS; simp only; omega, rfl, rfl, rfl, rfl⟩
      | 23, ht101 =>
        cases ht101
        refine R_aload_n dX12_value_221 rfl ?_
        refine R_getR _ (hr _ _ _ rfl) fd12_10 kf12_29 rfl dX12_value_222 ?_
        refine R_aload_n dX12_value_225 rfl ?_
        refine R_getR _ (hr _ _ _ rfl) fd12_17 kf12_51 rfl dX12_value_226 ?_
        refine R_iload dX12_value_229 rfl ?_
        refine R_iald rfl (by first | omega | (rw [Int.toNat_natCast]; omega) | (rw [hgc]; omega)) (by first | omega | (rw [Int.toNat_natCast]; omega) | (rw [hgc]; omega)) dX12_value_231 ?_
        refine R_iald rfl (by first | omega | (rw [Int.toNat_natCast]; omega) | (rw [hgc]; omega)) (by first | omega | (rw [Int.toNat_natCast]; omega) | (rw [hgc]; omega)) dX12_value_232 ?_
        refine R_ireturn rfl (by first | rfl | exact nar_b2i | exact nar_bi) (by decide) (by decide) dX12_value_233 ?_
        rw [← hQ]; first | exact ⟨by rw [ha101]; rfl, rfl, rfl, rfl, rfl⟩ | exact ⟨by rw [ha101, Int.toNat_natCast]; rfl, rfl, rfl, rfl, rfl⟩ | exact ⟨by rw [ha101, Int.toNat_natCast, hgc]; rfl, rfl, rfl, rfl, rfl⟩ | exact ⟨by rw [ha101, hl.1]; rfl, rfl, rfl, rfl, rfl⟩ | exact ⟨by rw [hl.1, fidx, if_neg (by omega), if_neg (by omega), if_neg (by omega), if_neg (by omega), if_neg (by omega), if_neg (by omega), if_neg (by omega), if_neg (by omega)]; rfl, rfl, rfl, rfl, rfl⟩ | exact ⟨by rw [ha101]; congr 2; show _ = facS (vM g) c l k 0 + (x : Int); unfold facS; simp only; omega, rfl, rfl, rfl, rfl⟩
      | 24, ht101 =>
        cases ht101
        refine R_aload_n dX12_value_234 rfl ?_
        refine R_getR _ (hr _ _ _ rfl) fd12_18 kf12_54 rfl dX12_value_235 ?_
        refine R_iload dX12_value_238 rfl ?_
        refine R_iald rfl (by first | omega | (rw [Int.toNat_natCast]; omega) | (rw [hgc]; omega)) (by first | omega | (rw [Int.toNat_natCast]; omega) | (rw [hgc]; omega)) dX12_value_240 ?_
        refine R_ireturn rfl (by first | rfl | exact nar_b2i | exact nar_bi) (by decide) (by decide) dX12_value_241 ?_
        rw [← hQ]; first | exact ⟨by rw [ha101]; rfl, rfl, rfl, rfl, rfl⟩ | exact ⟨by rw [ha101, Int.toNat_natCast]; rfl, rfl, rfl, rfl, rfl⟩ | exact ⟨by rw [ha101, Int.toNat_natCast, hgc]; rfl, rfl, rfl, rfl, rfl⟩ | exact ⟨by rw [ha101, hl.1]; rfl, rfl, rfl, rfl, rfl⟩ | exact ⟨by rw [hl.1, fidx, if_neg (by omega), if_neg (by omega), if_neg (by omega), if_neg (by omega), if_neg (by omega), if_neg (by omega), if_neg (by omega), if_neg (by omega)]; rfl, rfl, rfl, rfl, rfl⟩ | exact ⟨by rw [ha101]; congr 2; show _ = facS (vM g) c l k 0 + (x : Int); unfold facS; simp only; omega, rfl, rfl, rfl, rfl⟩
      | n101 + 25, ht101 => exact absurd (List.getElem?_eq_some_iff.mp ht101).1 (by simp)
    · refine R_aload_n dX12_value_337 rfl ?_
      refine R_getI fd12_46 kf12_321 rfl dX12_value_338 ?_
      refine R_ireturn rfl (by first | rfl | exact nar_b2i | exact nar_bi) (by decide) (by decide) dX12_value_341 ?_
      rw [← hQ]; first | exact ⟨by rw [ha101]; rfl, rfl, rfl, rfl, rfl⟩ | exact ⟨by rw [ha101, Int.toNat_natCast]; rfl, rfl, rfl, rfl, rfl⟩ | exact ⟨by rw [ha101, Int.toNat_natCast, hgc]; rfl, rfl, rfl, rfl, rfl⟩ | exact ⟨by rw [ha101, hl.1]; rfl, rfl, rfl, rfl, rfl⟩ | exact ⟨by rw [hl.1, fidx, if_neg (by omega), if_neg (by omega), if_neg (by omega), if_neg (by omega), if_neg (by omega), if_neg (by omega), if_neg (by omega), if_neg (by omega)]; rfl, rfl, rfl, rfl, rfl⟩ | exact ⟨by rw [ha101]; congr 2; show _ = facS (vM g) c l k 0 + (x : Int); unfold facS; simp only; omega, rfl, rfl, rfl, rfl⟩
  have loop : ∀ (n j : Nat), j + n = k → RJ (mX12_value (rmD 1 0 0)) 0 0 shW.length Q 0 0 shW 19 [some (vR (some 74)), some (vI (ca)), some (vI ((k : Int))), some (vI ((x : Int))), some (vI (((l.getD k 0 : Nat) : Int))), some (vI (1 + (x : Int) + (cntS (vM g) (l.getD k 0) (l.take j) : Int))), some (vI ((cntG (vM g) (l.getD k 0) (l.take j) : Int))), some (vI ((j : Int)))] [] g z r := by
    intro n
    induction n with
    | zero =>
      intro j hj
      obtain rfl : j = k := by omega
      refine R_iload dX12_value_19 rfl ?_
      refine R_iload_n dX12_value_21 rfl ?_
      refine R_icmp_ge 100 dX12_value_22 (by decide) (fun hc22 => ?_) (fun hc22 => ?_)
      · exact fin _
      · exact absurd (by omega) hc22
    | succ n ih =>
      intro j hj
      have hjl : j < l.length := by omega
      have hj10 := hm _ (getD_mem hjl)
      have hgj := famM_at hl hjl
      have hnj := hB.2.1 (l.getD j 0)
      have hn1 := ih (j + 1) (by omega)
      have htk : l.take (j + 1) = l.take j ++ [l.getD j 0] := by
        rw [List.take_add_one, List.getElem?_eq_getElem hjl, List.getD_eq_getElem?_getD, List.getElem?_eq_getElem hjl]; rfl
      have e1 : cntS (vM g) (l.getD k 0) (l.take (j + 1)) = cntS (vM g) (l.getD k 0) (l.take j) + (if sx (vM g) (l.getD j 0) = sx (vM g) (l.getD k 0) then 1 else 0) := by
        unfold cntS
        rw [htk, List.filter_append, List.length_append, List.filter_cons]
        generalize l.getD j 0 = a
        generalize l.getD k 0 = b
        by_cases h : sx (vM g) a = sx (vM g) b <;> simp [h]
      have e2 : cntG (vM g) (l.getD k 0) (l.take (j + 1)) = cntG (vM g) (l.getD k 0) (l.take j) + (if sx (vM g) (l.getD j 0) = sx (vM g) (l.getD k 0) ∧ isGone (vM g) (l.getD j 0) (g 84 (l.getD k 0)) = true then 1 else 0) := by
        unfold cntG
        rw [htk, List.filter_append, List.length_append, List.filter_cons]
        have : (vM g) 9 (l.getD k 0) = g 84 (l.getD k 0) := rfl
        rw [this]
        generalize l.getD j 0 = a
        generalize l.getD k 0 = b
        by_cases h : sx (vM g) a = sx (vM g) b <;> by_cases h' : isGone (vM g) a (g 84 b) = true <;> simp [h, h']
      rw [e1, e2] at hn1
      have hb1 := hcS j (by omega)
      have hb2 := hcG j (by omega)
      have hsx : ∀ i, sx (vM g) i = g 76 (g 83 i).toNat := fun _ => rfl
      rw [hsx, hsx] at hn1
      refine R_iload dX12_value_19 rfl ?_
      refine R_iload_n dX12_value_21 rfl ?_
      refine R_icmp_ge 100 dX12_value_22 (by decide) (fun hc22 => ?_) (fun hc22 => ?_)
      · exact absurd hc22 (by omega)
      refine R_aload_n dX12_value_25 rfl ?_
      refine R_getR _ (hr _ _ _ rfl) fd12_10 kf12_29 rfl dX12_value_26 ?_
      refine R_aload_n dX12_value_29 rfl ?_
      refine R_getR _ (hr _ _ _ rfl) fd12_17 kf12_51 rfl dX12_value_30 ?_
      refine R_aload_n dX12_value_33 rfl ?_
      refine R_getR _ (hr _ _ _ rfl) fd12_47 kf12_105 rfl dX12_value_34 ?_
      refine R_iload dX12_value_37 rfl ?_
      refine R_iald rfl (by omega) (by omega) dX12_value_39 ?_
      rw [Int.toNat_natCast, hgj]
      refine R_iald rfl (by omega) (by omega) dX12_value_40 ?_
      rw [Int.toNat_natCast]
      refine R_iald rfl (by omega) (by omega) dX12_value_41 ?_
      refine R_aload_n dX12_value_42 rfl ?_
      refine R_getR _ (hr _ _ _ rfl) fd12_10 kf12_29 rfl dX12_value_43 ?_
      refine R_aload_n dX12_value_46 rfl ?_
      refine R_getR _ (hr _ _ _ rfl) fd12_17 kf12_51 rfl dX12_value_47 ?_
      refine R_iload dX12_value_50 rfl ?_
      refine R_iald rfl (by omega) (by omega) dX12_value_52 ?_
      rw [Int.toNat_natCast]
      refine R_iald rfl (by omega) (by omega) dX12_value_53 ?_
      refine R_icmp_eq 60 dX12_value_54 (by decide) (fun hc54 => ?_) (fun hc54 => ?_)
      · rw [if_pos hc54] at hn1
        refine R_iincN dX12_value_60 rfl (by decide) rfl (by unfold inI; omega) [_, _, _, _, _, _, _, _] rfl ?_
        refine R_iload dX12_value_63 rfl ?_
        refine R_aload_n dX12_value_65 rfl ?_
        refine R_aload_n dX12_value_66 rfl ?_
        refine R_getR _ (hr _ _ _ rfl) fd12_47 kf12_105 rfl dX12_value_67 ?_
        refine R_iload dX12_value_70 rfl ?_
        refine R_iald rfl (by omega) (by omega) dX12_value_72 ?_
        rw [Int.toNat_natCast, hgj]
        refine R_aload_n dX12_value_73 rfl ?_
        refine R_getR _ (hr _ _ _ rfl) fd12_18 kf12_54 rfl dX12_value_74 ?_
        refine R_iload dX12_value_77 rfl ?_
        refine R_iald rfl (by omega) (by omega) dX12_value_79 ?_
        rw [Int.toNat_natCast]
        refine R_callV (m_isGone hr ((l.getD j 0 : Nat) : Int) (g 84 (l.getD k 0)) (by omega)) (mvX12_isGone _) kiX12_isGone kvX12_isGone km12_333 rfl rfl (by decide) ⟨rfl, rfl, by decide, by decide⟩ (Nat.le_of_ble_eq_true rfl) dX12_value_80 (fun v1 sh1 g1 z1 r1 hq => ?_)
        obtain ⟨rfl, rfl, rfl, rfl, rfl⟩ := hq
        rw [Int.toNat_natCast]
        by_cases hg : isGone (vM g) (l.getD j 0) (g 84 (l.getD k 0)) = true
        · rw [bi_t hg]
          rw [if_pos ⟨hc54, hg⟩] at hn1
          refine R_if_eq 90 dX12_value_83 (by decide) (fun hc83 => ?_) (fun hc83 => ?_)
          · exact absurd hc83 (by decide)
          refine R_iconst dX12_value_86 rfl rfl ?_
          refine R_goto 91 dX12_value_87 (by decide) ?_
          refine R_iaddN dX12_value_91 (by unfold inI; omega) ?_
          refine R_istore dX12_value_92 (by decide) rfl [_, _, _, _, _, _, _, _] rfl ?_
          refine R_iincN dX12_value_94 rfl (by decide) rfl (by unfold inI; omega) [_, _, _, _, _, _, _, _] rfl ?_
          refine R_goto 19 dX12_value_97 (by decide) ?_
          rw [show 1 + (x : Int) + (cntS (vM g) (l.getD k 0) (l.take j) : Int) + 1 = 1 + (x : Int) + ((cntS (vM g) (l.getD k 0) (l.take j) + 1 : Nat) : Int) by omega]
          exact hn1
        · rw [bi_f hg]
          rw [if_neg (fun q => hg q.2)] at hn1
          refine R_if_eq 90 dX12_value_83 (by decide) (fun hc83 => ?_) (fun hc83 => ?_)
          · refine R_iconst dX12_value_90 rfl rfl ?_
            refine R_iaddN dX12_value_91 (by unfold inI; omega) ?_
            refine R_istore dX12_value_92 (by decide) rfl [_, _, _, _, _, _, _, _] rfl ?_
            refine R_iincN dX12_value_94 rfl (by decide) rfl (by unfold inI; omega) [_, _, _, _, _, _, _, _] rfl ?_
            refine R_goto 19 dX12_value_97 (by decide) ?_
            rw [show 1 + (x : Int) + (cntS (vM g) (l.getD k 0) (l.take j) : Int) + 1 = 1 + (x : Int) + ((cntS (vM g) (l.getD k 0) (l.take j) + 1 : Nat) : Int) by omega, Int.add_zero]
            exact hn1
          · exact absurd rfl hc83
      · rw [if_neg hc54, if_neg (fun q => hc54 q.1)] at hn1
        refine R_goto 94 dX12_value_57 (by decide) ?_
        refine R_iincN dX12_value_94 rfl (by decide) rfl (by unfold inI; omega) [_, _, _, _, _, _, _, _] rfl ?_
        refine R_goto 19 dX12_value_97 (by decide) ?_
        exact hn1
  refine R_aload_n dX12_value_0 rfl ?_
  refine R_getR _ (hr _ _ _ rfl) fd12_47 kf12_105 rfl dX12_value_1 ?_
  refine R_iload_n dX12_value_4 rfl ?_
  refine R_iald rfl (by omega) (by omega) dX12_value_5 ?_
  rw [Int.toNat_natCast, hgi]
  refine R_istore dX12_value_6 (by decide) rfl [_, _, _, _, _, _, _, _] rfl ?_
  refine R_iconst dX12_value_8 rfl rfl ?_
  refine R_iload_n dX12_value_9 rfl ?_
  refine R_iaddN dX12_value_10 (by unfold inI; omega) ?_
  refine R_istore dX12_value_11 (by decide) rfl [_, _, _, _, _, _, _, _] rfl ?_
  refine R_iconst dX12_value_13 rfl rfl ?_
  refine R_istore dX12_value_14 (by decide) rfl [_, _, _, _, _, _, _, _] rfl ?_
  refine R_iconst dX12_value_16 rfl rfl ?_
  refine R_istore dX12_value_17 (by decide) rfl [_, _, _, _, _, _, _, _] rfl ?_
  have := loop k 0 (by omega)
  rw [List.take_zero] at this
  exact this
end MVAL
