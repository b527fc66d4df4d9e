theorem FSt.sm {g z g1 z1 g2 : GG} {K : Nat → CUS} (h : FSt g z g1 z1 K) (s : SM g1 g2) : FSt g z g2 z1 K := by
  obtain ⟨h1, h2, h3, h4, h5, h6, le, h7, h8⟩ := h
  refine ⟨h1.trans s.fmd, h2, by rw [s.2 23 (by decide) (by decide)]; exact h3, by rw [s.2 62 (by decide) (by decide), s.2 63 (by decide) (by decide)]; exact h4, by rw [s.1 106 (by decide) (by decide)]; exact h5, by rw [s.1 115 (by decide) (by decide)]; exact h6, le, h7, by rw [s.1 116 (by decide) (by decide)]; exact h8⟩
theorem FSt.at {g z g' z' : GG} {K : Nat → CUS} (h : FSt g z g' z' K) {k : Nat} (h1 : k ≠ 45) (h2 : k ≠ 46) (h3 : k ≠ 23) (h4 : k ≠ 62) (h5 : k ≠ 63) : g' 74 k = g 74 k := h.1.2 k h1 h2 h3 h4 h5
theorem sureL {N : Int} {W : List PR} {mo nx be al m2 n2 b2 a2 : Int} {i c : Nat} {P : PR → Bool} (hP : ∀ x ∈ W, P x = true ↔ fld x.2 i = c) (hne : W ≠ []) (h : AG4 N W mo nx be al) (h2 : AG4 N (W.filter P) m2 n2 b2 a2) : SureIs W i c (if (if 0 < b2 ∧ m2 = mo then b2 else 0) = be then 2 else if a2 = 0 then 0 else 1) := by
  obtain ⟨-, hbe, -, h4⟩ := h
  obtain ⟨q1, ⟨y, hy, hy1⟩, -, -⟩ := h4 hne
  obtain ⟨ha2, hb2, -, k4⟩ := h2
  refine ⟨mo, q1, ⟨y, hy, hy1⟩, ?_⟩
  have hn : (if 0 < b2 ∧ m2 = mo then b2 else 0) = (((W.filter P).filter (fun x => decide (x.1 = mo))).length : Int) := by
    by_cases e : W.filter P = []
    · rw [e] at hb2 ⊢
      simp at hb2 ⊢
      omega
    · obtain ⟨r1, ⟨u, hu, hu1⟩, -, -⟩ := k4 e
      by_cases hm : m2 = mo
      · subst hm
        have : 0 < b2 := by
          rw [hb2]
          have : u ∈ (W.filter P).filter (fun x => decide (x.1 = m2)) := List.mem_filter.mpr ⟨hu, by simp [hu1]⟩
          have := List.length_pos_of_mem this
          omega
        rw [if_pos ⟨this, rfl⟩, hb2]
      · rw [if_neg (fun q => hm q.2)]
        have hlt : m2 < mo := by have := q1 u (List.mem_filter.mp hu).1; omega
        rw [flt_lt r1 hlt]
        rfl
  rw [hn, hbe]
  have hcm : (W.filter P).filter (fun x => decide (x.1 = mo)) = (W.filter (fun x => decide (x.1 = mo))).filter P := by
    rw [List.filter_filter, List.filter_filter]
    congr 1
    funext x
    exact Bool.and_comm _ _
  rw [hcm]
  by_cases hall : ∀ x ∈ W.filter (fun x => decide (x.1 = mo)), P x = true
  · rw [List.filter_eq_self.mpr hall, if_pos rfl]
    exact Or.inl ⟨rfl, fun x hx hx1 => (hP x hx).mp (hall x (List.mem_filter.mpr ⟨hx, by simp [hx1]⟩))⟩
  · have hex : ∃ x ∈ W, x.1 = mo ∧ fld x.2 i ≠ c := by
      apply Classical.byContradiction
      intro hno
      exact hall (fun x hx => by
        obtain ⟨hx0, hx1⟩ := List.mem_filter.mp hx
        rw [decide_eq_true_eq] at hx1
        apply Classical.byContradiction
        intro hp
        exact hno ⟨x, hx0, hx1, fun q => hp ((hP x hx0).mpr q)⟩)
    have hlen : ¬ ((((W.filter (fun x => decide (x.1 = mo))).filter P).length : Int) = ((W.filter (fun x => decide (x.1 = mo))).length : Int)) := by
      intro e
      exact hall (List.length_filter_eq_length_iff.mp (by omega))
    rw [if_neg hlen]
    by_cases h0 : a2 = 0
    · rw [if_pos h0]
      refine Or.inr (Or.inl ⟨rfl, fun x hx q => ?_⟩)
      have : x ∈ W.filter P := List.mem_filter.mpr ⟨hx, (hP x hx).mpr q⟩
      have := List.length_pos_of_mem this
      omega
    · rw [if_neg h0]
      refine Or.inr (Or.inr ⟨rfl, ?_, hex⟩)
      cases hw : W.filter P with
      | nil => rw [hw] at ha2; exact absurd ha2 h0
      | cons u t =>
        have : u ∈ W.filter P := by rw [hw]; exact List.mem_cons_self
        obtain ⟨hu, hu1⟩ := List.mem_filter.mp this
        exact ⟨u, hu, (hP u hu).mp hu1⟩
section MWPUB
variable {g z : GG} {r : RR}
theorem m_best (K : Nat → CUS) (H : WQ g z r K) (i : Int) : CT (mX12_best (rmD 9 0 0)) 0 0 shW [vR (some 74), vI i] g z r (qZ shW r fun v g' z' => (¬ (0 ≤ i ∧ i < g 74 4) ∧ v = some (vI (-1)) ∧ g' = g ∧ z' = z) ∨ ((0 ≤ i ∧ i < g 74 4) ∧ FSt g z g' z' K ∧ ∃ le, LeIs (WSm g K) le ∧ v = some (vI (fld le i.toNat : Int)))) := by
  have hr := H.1.1
  have hF := H.1.2.2.1.2.2.2.2.2.1
  refine CT.of 0 rfl rfl ?_
  refine R_aload_n dX12_best_0 rfl ?_
  refine R_iload_n dX12_best_1 rfl ?_
  refine R_callV (m_isFont hF i) (mvX12_isFont _) kiX12_isFont kvX12_isFont km12_198 rfl rfl (by decide) ⟨rfl, rfl, by decide, by decide⟩ (Nat.le_of_ble_eq_true rfl) dX12_best_2 (fun v1 sh1 g1 z1 r1 hq => ?_)
  obtain ⟨rfl, rfl, rfl, rfl, rfl⟩ := hq
  by_cases hi : 0 ≤ i ∧ i < g 74 4
  · rw [b2i_t hi]
    obtain ⟨i', rfl⟩ : ∃ i' : Nat, i = (i' : Int) := ⟨i.toNat, by omega⟩
    refine R_if_ne 10 dX12_best_5 (by decide) (fun hc5 => ?_) (fun hc5 => ?_)
    · refine R_aload_n dX12_best_10 rfl ?_
      refine R_callV (m_finds K H) (mvX12_finds _) kiX12_finds kvX12_finds km12_437 rfl rfl (by decide) ⟨rfl, rfl, by decide, by decide⟩ (Nat.le_of_ble_eq_true rfl) dX12_best_11 (fun v1 sh1 g1 z1 r1 hq => ?_)
      obtain ⟨⟨rfl, hst⟩, rfl, rfl⟩ := hq
      obtain ⟨le, hL, hrow⟩ := hst.2.2.2.2.2.2
      refine R_aload_n dX12_best_14 rfl ?_
      refine R_getR _ (hr _ _ _ rfl) fd12_66 kf12_152 rfl dX12_best_15 ?_
      refine R_iload_n dX12_best_18 rfl ?_
      refine R_iald rfl (by omega) (by omega) dX12_best_19 ?_
      rw [Int.toNat_natCast, hrow i' (show i' < (g 74 4).toNat by omega)]
      refine R_ireturn rfl (by first | rfl | exact nar_b2i | exact nar_bi) (by decide) (by decide) dX12_best_20 ?_
      exact ⟨Or.inr ⟨hi, hst, le, hL, rfl⟩, rfl, rfl⟩
    · exact absurd hc5 (by decide)
  · rw [b2i_f hi]
    refine R_if_ne 10 dX12_best_5 (by decide) (fun hc5 => ?_) (fun hc5 => ?_)
    · exact absurd rfl hc5
    · refine R_iconst dX12_best_8 rfl rfl ?_
      refine R_ireturn rfl (by first | rfl | exact nar_b2i | exact nar_bi) (by decide) (by decide) dX12_best_9 ?_
      exact ⟨Or.inl ⟨hi, rfl, rfl, rfl⟩, rfl, rfl⟩
theorem m_ways (K : Nat → CUS) (H : WQ g z r K) (w : Int) : CT (mX12_ways (rmD 9 0 0)) 0 0 shW [vR (some 74), vI w] g z r (qZ shW r fun v g' z' => (¬ (0 ≤ w ∧ w ≤ 3) ∧ v = some (vL (-1)) ∧ g' = g ∧ z' = z) ∨ ((0 ≤ w ∧ w ≤ 3) ∧ FSt g z g' z' K ∧ ∃ mo nx be al, AG4 (-100000000) (WSm g K) mo nx be al ∧ v = some (vL (wayV (-100000000) mo nx be al w)))) := by
  have hs := H.sbd
  refine CT.of 0 rfl rfl ?_
  refine R_iload_n dX12_ways_0 rfl ?_
  refine R_i2l dX12_ways_1 ?_
  refine R_lconst dX12_ways_2 ?_
  refine R_ldc2_w (v := 3) kk12_196 dX12_ways_3 (by decide) ?_
  refine R_callS (m_lies w 0 3) (mvX12_lies _) ksX12_lies km12_164 ⟨rfl, rfl, by decide, by decide⟩ (Nat.le_of_ble_eq_true rfl) dX12_ways_6 (fun v1 sh1 g1 z1 r1 hq => ?_)
  obtain ⟨rfl, rfl, rfl, rfl, rfl⟩ := hq
  by_cases hw : 0 ≤ w ∧ w ≤ 3
  rotate_left
  · rw [b2i_f hw]
    refine R_if_ne 16 dX12_ways_9 (by decide) (fun hc9 => ?_) (fun hc9 => ?_)
    · exact absurd rfl hc9
    · refine R_ldc2_wC (v := -1) kk12_440 (by decide +kernel) dX12_ways_12 (by decide) ?_
      refine R_lreturn rfl (by decide) (by decide) dX12_ways_15 ?_
      exact ⟨Or.inl ⟨hw, rfl, rfl, rfl⟩, rfl, rfl⟩
  rw [b2i_t hw]
  refine R_if_ne 16 dX12_ways_9 (by decide) (fun hc9 => ?_) (fun hc9 => ?_)
  rotate_left
  · exact absurd hc9 (by decide)
  refine R_aload_n dX12_ways_16 rfl ?_
  refine R_callV (m_finds K H) (mvX12_finds _) kiX12_finds kvX12_finds km12_437 rfl rfl (by decide) ⟨rfl, rfl, by decide, by decide⟩ (Nat.le_of_ble_eq_true rfl) dX12_ways_17 (fun v1 sh1 g1 z1 r1 hq => ?_)
  obtain ⟨⟨rfl, hst⟩, rfl, rfl⟩ := hq
  have hag := hst.2.2.2.1
  have hb := hag.bd (fun x hx => (GS_6 hs (by have := hs.2.1; omega)).bd hx) (by decide)
  have hne := WS_ne hs
  have hmo : -70000 ≤ g1 74 62 ∧ g1 74 62 ≤ 7000 := by rcases hb.1 with q | q; exact absurd q.1 hne; exact ⟨q.2.1, q.2.2.1⟩
  have hnx := hb.2.1
  refine R_iload_n dX12_ways_20 rfl ?_
  refine R_if_ne 32 dX12_ways_21 (by decide) (fun hc21 => ?_) (fun hc21 => ?_)
  rotate_left
  · refine R_aload_n dX12_ways_24 rfl ?_
    refine R_getI fd12_62 kf12_424 rfl dX12_ways_25 ?_
    refine R_i2l dX12_ways_28 ?_
    refine R_goto 82 dX12_ways_29 (by decide) ?_
    refine R_lreturn rfl (by decide) (by decide) dX12_ways_82 ?_
    exact ⟨Or.inr ⟨hw, hst, _, _, _, _, hag, by unfold wayV; rw [if_pos hc21]⟩, rfl, rfl⟩
  refine R_iload_n dX12_ways_32 rfl ?_
  refine R_iconst dX12_ways_33 rfl rfl ?_
  refine R_icmp_ne 44 dX12_ways_34 (by decide) (fun hc34 => ?_) (fun hc34 => ?_)
  rotate_left
  · refine R_aload_n dX12_ways_37 rfl ?_
    refine R_getJ fd12_64 kf12_430 rfl dX12_ways_38 ?_
    refine R_goto 82 dX12_ways_41 (by decide) ?_
    refine R_lreturn rfl (by decide) (by decide) dX12_ways_82 ?_
    exact ⟨Or.inr ⟨hw, hst, _, _, _, _, hag, by unfold wayV; rw [if_neg hc21, if_pos hc34]⟩, rfl, rfl⟩
  refine R_iload_n dX12_ways_44 rfl ?_
  refine R_iconst dX12_ways_45 rfl rfl ?_
  refine R_icmp_ne 56 dX12_ways_46 (by decide) (fun hc46 => ?_) (fun hc46 => ?_)
  rotate_left
  · refine R_aload_n dX12_ways_49 rfl ?_
    refine R_getJ fd12_65 kf12_434 rfl dX12_ways_50 ?_
    refine R_goto 82 dX12_ways_53 (by decide) ?_
    refine R_lreturn rfl (by decide) (by decide) dX12_ways_82 ?_
    exact ⟨Or.inr ⟨hw, hst, _, _, _, _, hag, by unfold wayV; rw [if_neg hc21, if_neg hc34, if_pos hc46]⟩, rfl, rfl⟩
  refine R_aload_n dX12_ways_56 rfl ?_
  refine R_getI fd12_63 kf12_427 rfl dX12_ways_57 ?_
  refine R_ldc_wC (v := -100000000) kk12_404 (by decide +kernel) dX12_ways_60 (by decide) ?_
  refine R_icmp_ne 72 dX12_ways_63 (by decide) (fun hc63 => ?_) (fun hc63 => ?_)
  rotate_left
  · refine R_ldc2_wC (v := -1) kk12_440 (by decide +kernel) dX12_ways_66 (by decide) ?_
    refine R_goto 82 dX12_ways_69 (by decide) ?_
    refine R_lreturn rfl (by decide) (by decide) dX12_ways_82 ?_
    exact ⟨Or.inr ⟨hw, hst, _, _, _, _, hag, by unfold wayV; rw [if_neg hc21, if_neg hc34, if_neg hc46, if_pos hc63]⟩, rfl, rfl⟩
  refine R_aload_n dX12_ways_72 rfl ?_
  refine R_getI fd12_62 kf12_424 rfl dX12_ways_73 ?_
  refine R_aload_n dX12_ways_76 rfl ?_
  refine R_getI fd12_63 kf12_427 rfl dX12_ways_77 ?_
  refine R_isubN dX12_ways_80 (by unfold inI; omega) ?_
  refine R_i2l dX12_ways_81 ?_
  refine R_lreturn rfl (by decide) (by decide) dX12_ways_82 ?_
  exact ⟨Or.inr ⟨hw, hst, _, _, _, _, hag, by unfold wayV; rw [if_neg hc21, if_neg hc34, if_neg hc46, if_neg hc63]⟩, rfl, rfl⟩
theorem m_setOf (hr : RS r) (hF : 0 ≤ g 74 4 ∧ g 74 4 ≤ 10) (le : Nat) (hrow : ∀ i, i < (g 74 4).toNat → g 116 i = (fld le i : Int)) (c : Nat) : CT (mX12_setOf (rmD 0 0 0)) 0 0 shW [vR (some 74), vI (c : Int)] g z r (qP shW g z r (some (vI (fmS (vM g) le c : Nat)))) := by
  refine CT.of 2 rfl rfl ?_
  have eF : ((vM g) 0 2).toNat = (g 74 4).toNat := rfl
  generalize hQ : (qP shW g z r (some (vI (fmS (vM g) le c : Nat)))) = Q
  have loop : ∀ (n i : Nat), (i : Int) + n = g 74 4 → RJ (mX12_setOf (rmD 0 0 0)) 0 0 shW.length Q 0 0 shW 4 [some (vR (some 74)), some (vI ((c : Int))), some (vI ((setR (fun i => (fld le i : Int)) (c : Int) i : Nat))), some (vI ((i : Int)))] [] g z r := by
    intro n
    induction n with
    | zero =>
      intro i hi
      refine R_iload_n dX12_setOf_4 rfl ?_
      refine R_aload_n dX12_setOf_5 rfl ?_
      refine R_getI fd12_4 kf12_175 rfl dX12_setOf_6 ?_
      refine R_icmp_ge 38 dX12_setOf_9 (by decide) (fun hc9 => ?_) (fun hc9 => ?_)
      · refine R_iload_n dX12_setOf_38 rfl ?_
        refine R_ireturn rfl (by first | rfl | exact nar_b2i | exact nar_bi) (by decide) (by decide) dX12_setOf_39 ?_
        rw [← hQ]
        exact ⟨by unfold fmS; rw [eF, show (g 74 4).toNat = i by omega], rfl, rfl, rfl, rfl⟩
      · exact absurd (by omega) hc9
    | succ n ih =>
      intro i hi
      have hn := ih (i + 1) (by omega)
      rw [setR] at hn
      have hlt := setR_lt (T := fun i => (fld le i : Int)) (c := (c : Int)) i
      have hp : 2 ^ i < 1024 := Nat.pow_lt_pow_right (n := 10) (by decide) (by omega)
      refine R_iload_n dX12_setOf_4 rfl ?_
      refine R_aload_n dX12_setOf_5 rfl ?_
      refine R_getI fd12_4 kf12_175 rfl dX12_setOf_6 ?_
      refine R_icmp_ge 38 dX12_setOf_9 (by decide) (fun hc9 => ?_) (fun hc9 => ?_)
      · exact absurd hc9 (by omega)
      refine R_iload_n dX12_setOf_12 rfl ?_
      refine R_aload_n dX12_setOf_13 rfl ?_
      refine R_getR _ (hr _ _ _ rfl) fd12_66 kf12_152 rfl dX12_setOf_14 ?_
      refine R_iload_n dX12_setOf_17 rfl ?_
      refine R_iald rfl (by omega) (by omega) dX12_setOf_18 ?_
      rw [Int.toNat_natCast, hrow i (by omega)]
      refine R_iload_n dX12_setOf_19 rfl ?_
      refine R_icmp_ne 29 dX12_setOf_20 (by decide) (fun hc20 => ?_) (fun hc20 => ?_)
      · rw [if_neg hc20] at hn
        refine R_iconst dX12_setOf_29 rfl rfl ?_
        refine R_ior dX12_setOf_30 ?_
        rw [show bOr ((setR (fun i => (fld le i : Int)) (c : Int) i : Nat) : Int) 0 = ((setR (fun i => (fld le i : Int)) (c : Int) i : Nat) : Int) by rw [show (0 : Int) = ((0 : Nat) : Int) from rfl, bOr_n (by omega) (by decide), Nat.or_zero]]
        refine R_istore_n dX12_setOf_31 (by decide) rfl [_, _, _, _] rfl ?_
        refine R_iincN dX12_setOf_32 rfl (by decide) rfl (by unfold inI; omega) [_, _, _, _] rfl ?_
        refine R_goto 4 dX12_setOf_35 (by decide) ?_
        exact hn
      · rw [if_pos hc20] at hn
        refine R_iconst dX12_setOf_23 rfl rfl ?_
        refine R_iload_n dX12_setOf_24 rfl ?_
        refine R_ishl dX12_setOf_25 ?_
        refine R_goto 30 dX12_setOf_26 (by decide) ?_
        refine R_ior dX12_setOf_30 ?_
        rw [or_bit (by omega) (by omega)]
        refine R_istore_n dX12_setOf_31 (by decide) rfl [_, _, _, _] rfl ?_
        refine R_iincN dX12_setOf_32 rfl (by decide) rfl (by unfold inI; omega) [_, _, _, _] rfl ?_
        refine R_goto 4 dX12_setOf_35 (by decide) ?_
        exact hn
  refine R_iconst dX12_setOf_0 rfl rfl ?_
  refine R_istore_n dX12_setOf_1 (by decide) rfl [_, _, _, _] rfl ?_
  refine R_iconst dX12_setOf_2 rfl rfl ?_
  refine R_istore_n dX12_setOf_3 (by decide) rfl [_, _, _, _] rfl ?_
  exact loop (g 74 4).toNat 0 (by omega)
theorem m_sure (K : Nat → CUS) (H : WQ g z r K) (i c : Int) : CT (mX12_sure (rmD 9 0 0)) 0 0 shW [vR (some 74), vI i, vI c] g z r (qZ shW r fun v g' z' => (¬ ((0 ≤ i ∧ i < g 74 4) ∧ (c = 6 ∨ (0 ≤ c ∧ c < g 74 3))) ∧ v = some (vI (-1)) ∧ g' = g ∧ z' = z) ∨ (((0 ≤ i ∧ i < g 74 4) ∧ (c = 6 ∨ (0 ≤ c ∧ c < g 74 3))) ∧ FSt g z g' z' K ∧ ∃ x, SureIs (WSm g K) i.toNat c.toNat x ∧ v = some (vI x))) := by
  have hr := H.1.1
  have hF := H.1.2.2.1.2.2.2.2.2.1
  have hC := H.1.2.2.1.2.2.2.2.1
  have hs := H.sbd
  refine CT.of 5 rfl rfl ?_
  by_cases hi : 0 ≤ i ∧ i < g 74 4
  rotate_left
  · refine R_aload_n dX12_sure_0 rfl ?_
    refine R_iload_n dX12_sure_1 rfl ?_
    refine R_callV (m_isFont hF i) (mvX12_isFont _) kiX12_isFont kvX12_isFont km12_198 rfl rfl (by decide) ⟨rfl, rfl, by decide, by decide⟩ (Nat.le_of_ble_eq_true rfl) dX12_sure_2 (fun v1 sh1 g1 z1 r1 hq => ?_)
    obtain ⟨rfl, rfl, rfl, rfl, rfl⟩ := hq
    rw [b2i_f hi]
    refine R_if_eq 22 dX12_sure_5 (by decide) (fun hc5 => ?_) (fun hc5 => ?_)
    · refine R_iconst dX12_sure_22 rfl rfl ?_
      refine R_ireturn rfl (by first | rfl | exact nar_b2i | exact nar_bi) (by decide) (by decide) dX12_sure_23 ?_
      exact ⟨Or.inl ⟨fun q => hi q.1, rfl, rfl, rfl⟩, rfl, rfl⟩
    · exact absurd rfl hc5
  obtain ⟨i', rfl⟩ : ∃ i' : Nat, i = (i' : Int) := ⟨i.toNat, by omega⟩
  have eF : ((vM g) 0 2).toNat = (g 74 4).toNat := rfl
  generalize hQ : (qZ shW r fun v g' z' => (¬ ((0 ≤ (i' : Int) ∧ (i' : Int) < g 74 4) ∧ (c = 6 ∨ (0 ≤ c ∧ c < g 74 3))) ∧ v = some (vI (-1)) ∧ g' = g ∧ z' = z) ∨ (((0 ≤ (i' : Int) ∧ (i' : Int) < g 74 4) ∧ (c = 6 ∨ (0 ≤ c ∧ c < g 74 3))) ∧ FSt g z g' z' K ∧ ∃ x, SureIs (WSm g K) (i' : Int).toNat c.toNat x ∧ v = some (vI x))) = Q
  have at24 : (c = 6 ∨ (0 ≤ c ∧ c < g 74 3)) → RJ (mX12_sure (rmD 9 0 0)) 0 0 shW.length Q 0 0 shW 24 [some (vR (some 74)), some (vI ((i' : Int))), some (vI (c)), none, none, none, none, none] [] g z r := by
    intro hc
    obtain ⟨c', rfl⟩ : ∃ c' : Nat, c = (c' : Int) := ⟨c.toNat, by omega⟩
    refine R_aload_n dX12_sure_24 rfl ?_
    refine R_callV (m_finds K H) (mvX12_finds _) kiX12_finds kvX12_finds km12_437 rfl rfl (by decide) ⟨rfl, rfl, by decide, by decide⟩ (Nat.le_of_ble_eq_true rfl) dX12_sure_25 (fun v1 sh1 g1 z1 r1 hq => ?_)
    obtain ⟨⟨rfl, hst⟩, rfl, rfl⟩ := hq
    obtain ⟨f1, y1, k1, hag, hbr, h115, le, hL, hrow⟩ := id hst
    have hwi := wh_m hF
    have hwh := whS_lt hs
    have hne := WS_ne hs
    refine R_aload_n dX12_sure_28 rfl ?_
    refine R_getR _ (hr _ _ _ rfl) fd12_61 kf12_149 rfl dX12_sure_29 ?_
    refine R_iload_n dX12_sure_32 rfl ?_
    refine R_iconst dX12_sure_33 rfl rfl ?_
    refine R_iload_n dX12_sure_34 rfl ?_
    refine R_ishl dX12_sure_35 ?_
    rw [bShl_1 (by omega)]
    refine R_iast rfl (by omega) (by omega) dX12_sure_36 ?_
    rw [Int.toNat_natCast]
    refine R_aload_n dX12_sure_37 rfl ?_
    have f2 : FMd g (up2 g1 115 i' ((2 ^ c' : Nat) : Int)) := f1.trans ⟨fun c' a b => by rw [up2_ne (by omega)], fun k _ _ _ _ _ => by rw [up2_ne (by decide)]⟩
    have hwk := m_worksF (z := z1) K (f2.MP H.1) (by rw [f2.2 9 (by decide) (by decide) (by decide) (by decide) (by decide)]; exact H.2.1) (g 74 5) (g 74 6) (g 74 7) (fun j => if j = i' then 2 ^ c' else 127) (fun j hj => by
      by_cases hji : j = i'
      · subst hji
        rw [up2_s]
        simp only [if_pos]
        exact ⟨trivial, Nat.pow_lt_pow_right (by decide) (by omega)⟩
      · rw [up2_k hji, h115 j hj]
        simp only [if_neg hji]
        exact ⟨rfl, by decide⟩) (by rw [f2.vM, up2_ne (by decide)]; exact hbr)
    rw [f2.vM] at hwk
    refine R_callV hwk (mvX12_works _) kiX12_works kvX12_works km12_421 rfl rfl (by decide) ⟨rfl, rfl, by decide, by decide⟩ (Nat.le_of_ble_eq_true rfl) dX12_sure_38 (fun v1 sh1 g2 z2 r1 hq => ?_)
    obtain ⟨⟨rfl, w2, y2, hfl⟩, rfl, rfl⟩ := hq
    have hSu := sureL (i := i') (c := c') (P := alOK (vM g) (fun j => if j = i' then 2 ^ c' else 127)) (fun x hx => by
      rw [alOK_iff]
      constructor
      · intro h
        have := h i' (by rw [eF]; omega)
        simp only [if_pos] at this
        rw [Nat.testBit_two_pow, decide_eq_true_eq] at this
        exact this.symm
      · intro h j hj
        show (if j = i' then 2 ^ c' else 127).testBit _ = true
        by_cases hji : j = i'
        · rw [if_pos hji, hji, h, Nat.testBit_two_pow, decide_eq_true rfl]
        · rw [if_neg hji]; exact bit127 _ (WS_fld hs hx hj)) hne hag hfl
    have f3 := f2.trans w2.fmd
    have e74 : g2 74 = g1 74 := by rw [w2 74 (by decide) (by decide) (by decide) (by decide), up2_ne (by decide)]
    have z74 : z2 74 = z1 74 := y2 74 (by decide) (by decide) (by decide) (by decide)
    generalize hwe : whS (vM g) = wh at *
    have fin : ∀ (n : Int), n = (if 0 < z2 109 wh ∧ g2 107 wh = g1 74 62 then z2 109 wh else 0) → RJ (mX12_sure (rmD 9 0 0)) 0 0 shW.length Q 0 0 shW 84 [some (vR (some 74)), some (vI ((i' : Int))), some (vI ((c' : Int))), some (vI ((wh : Int))), none, none, none, none] [vL n] g2 z2 r := by
      intro n hn
      rw [← hn] at hSu
      refine R_lstore dX12_sure_84 (by decide) rfl [_, _, _, _, _, _, _, _] rfl ?_
      refine R_aload_n dX12_sure_86 rfl ?_
      refine R_getR _ (hr _ _ _ rfl) fd12_56 kf12_134 rfl dX12_sure_87 ?_
      refine R_iload_n dX12_sure_90 rfl ?_
      refine R_lald rfl (by omega) (by omega) dX12_sure_91 ?_
      try rw [Int.toNat_natCast]
      refine R_lstore dX12_sure_92 (by decide) rfl [_, _, _, _, _, _, _, _] rfl ?_
      refine R_aload_n dX12_sure_94 rfl ?_
      refine R_callV (m_allows hr) (mvX12_allows _) kiX12_allows kvX12_allows km12_418 rfl rfl (by decide) ⟨rfl, rfl, by decide, by decide⟩ (Nat.le_of_ble_eq_true rfl) dX12_sure_95 (fun v1 sh1 g3 z3 r1 hq => ?_)
      obtain ⟨⟨rfl, o1, o2⟩, rfl, rfl, rfl⟩ := hq
      have hst3 : FSt g z g3 z2 K := by
        refine ⟨f3.trans ⟨fun c' a b => o1 c' (by omega), fun k _ _ _ _ _ => by rw [o1 74 (by decide)]⟩, y1.trans y2.zm, by rw [o1 74 (by decide), e74]; exact k1, by rw [o1 74 (by decide), e74, z74]; exact hag, ?_, o2, le, hL, ?_⟩
        · rw [o1 106 (by decide), w2 106 (by decide) (by decide) (by decide) (by decide), up2_ne (by decide), hwe]; exact hbr
        · rw [o1 116 (by decide), w2 116 (by decide) (by decide) (by decide) (by decide), up2_ne (by decide)]; exact hrow
      refine R_lload dX12_sure_98 rfl ?_
      refine R_aload_n dX12_sure_100 rfl ?_
      refine R_getJ fd12_64 kf12_430 rfl dX12_sure_101 ?_
      rw [z74]
      refine R_lcmp dX12_sure_104 ?_
      refine R_if_ne 112 dX12_sure_105 (by decide) (fun hc105 => ?_) (fun hc105 => ?_)
      · rw [ne_eq, lcm_z] at hc105
        rw [if_neg hc105] at hSu
        refine R_lload dX12_sure_112 rfl ?_
        refine R_lconst dX12_sure_114 ?_
        refine R_lcmp dX12_sure_115 ?_
        refine R_if_ne 123 dX12_sure_116 (by decide) (fun hc116 => ?_) (fun hc116 => ?_)
        · rw [ne_eq, lcm_z] at hc116
          rw [if_neg (show ¬ z2 110 wh = 0 from hc116)] at hSu
          refine R_iconst dX12_sure_123 rfl rfl ?_
          refine R_ireturn rfl (by first | rfl | exact nar_b2i | exact nar_bi) (by decide) (by decide) dX12_sure_124 ?_
          rw [← hQ]
          exact ⟨Or.inr ⟨⟨hi, hc⟩, hst3, _, hSu, rfl⟩, rfl, rfl⟩
        · rw [lcm_z] at hc116
          rw [if_pos (show z2 110 wh = 0 from hc116)] at hSu
          refine R_iconst dX12_sure_119 rfl rfl ?_
          refine R_goto 124 dX12_sure_120 (by decide) ?_
          refine R_ireturn rfl (by first | rfl | exact nar_b2i | exact nar_bi) (by decide) (by decide) dX12_sure_124 ?_
          rw [← hQ]
          exact ⟨Or.inr ⟨⟨hi, hc⟩, hst3, _, hSu, rfl⟩, rfl, rfl⟩
      · rw [lcm_z] at hc105
        rw [if_pos hc105] at hSu
        refine R_iconst dX12_sure_108 rfl rfl ?_
        refine R_goto 124 dX12_sure_109 (by decide) ?_
        refine R_ireturn rfl (by first | rfl | exact nar_b2i | exact nar_bi) (by decide) (by decide) dX12_sure_124 ?_
        rw [← hQ]
        exact ⟨Or.inr ⟨⟨hi, hc⟩, hst3, _, hSu, rfl⟩, rfl, rfl⟩
    refine R_iconst dX12_sure_41 rfl rfl ?_
    refine R_aload_n dX12_sure_42 rfl ?_
    refine R_getI fd12_4 kf12_175 rfl dX12_sure_43 ?_
    rw [f3.2 4 (by decide) (by decide) (by decide) (by decide) (by decide)]
    refine R_ishl dX12_sure_46 ?_
    rw [hwi]
    refine R_iconst dX12_sure_47 rfl rfl ?_
    refine R_isubN dX12_sure_48 (by unfold inI; omega) ?_
    rw [show ((wh + 1 : Nat) : Int) - 1 = (wh : Int) by omega]
    refine R_istore_n dX12_sure_49 (by decide) rfl [_, _, _, _, _, _, _, _] rfl ?_
    refine R_aload_n dX12_sure_50 rfl ?_
    refine R_getR _ (hr _ _ _ rfl) fd12_55 kf12_130 rfl dX12_sure_51 ?_
    refine R_iload_n dX12_sure_54 rfl ?_
    refine R_lald rfl (by omega) (by omega) dX12_sure_55 ?_
    rw [Int.toNat_natCast]
    have hlc : ∀ x : Int, (lcm x (((0 : Fin 2) : Nat) : Int) ≤ 0) = (x ≤ 0) := fun x => by
      show (lcm x 0 ≤ 0) = (x ≤ 0)
      unfold lcm
      apply propext
      split
      · constructor <;> intro q <;> omega
      · split <;> constructor <;> intro q <;> omega
    refine R_lconst dX12_sure_56 ?_
    refine R_lcmp dX12_sure_57 ?_
    refine R_if_le 83 dX12_sure_58 (by decide) (fun hc58 => ?_) (fun hc58 => ?_)
    · rw [hlc] at hc58
      refine R_lconst dX12_sure_83 ?_
      refine fin _ ?_
      rw [if_neg (by omega)]
      rfl
    · rw [hlc] at hc58
      refine R_aload_n dX12_sure_61 rfl ?_
      refine R_getR _ (hr _ _ _ rfl) fd12_53 kf12_124 rfl dX12_sure_62 ?_
      refine R_iload_n dX12_sure_65 rfl ?_
      refine R_iald rfl (by omega) (by omega) dX12_sure_66 ?_
      try rw [Int.toNat_natCast]
      refine R_aload_n dX12_sure_67 rfl ?_
      refine R_getI fd12_62 kf12_424 rfl dX12_sure_68 ?_
      rw [e74]
      refine R_icmp_ne 83 dX12_sure_71 (by decide) (fun hc71 => ?_) (fun hc71 => ?_)
      · refine R_lconst dX12_sure_83 ?_
        refine fin _ ?_
        rw [if_neg (fun q => hc71 q.2)]
        rfl
      · refine R_aload_n dX12_sure_74 rfl ?_
        refine R_getR _ (hr _ _ _ rfl) fd12_55 kf12_130 rfl dX12_sure_75 ?_
        refine R_iload_n dX12_sure_78 rfl ?_
        refine R_lald rfl (by omega) (by omega) dX12_sure_79 ?_
        try rw [Int.toNat_natCast]
        refine R_goto 84 dX12_sure_80 (by decide) ?_
        refine fin _ ?_
        rw [if_pos ⟨by omega, hc71⟩]
  refine R_aload_n dX12_sure_0 rfl ?_
  refine R_iload_n dX12_sure_1 rfl ?_
  refine R_callV (m_isFont hF (i' : Int)) (mvX12_isFont _) kiX12_isFont kvX12_isFont km12_198 rfl rfl (by decide) ⟨rfl, rfl, by decide, by decide⟩ (Nat.le_of_ble_eq_true rfl) dX12_sure_2 (fun v1 sh1 g1 z1 r1 hq => ?_)
  obtain ⟨rfl, rfl, rfl, rfl, rfl⟩ := hq
  rw [b2i_t hi]
  refine R_if_eq 22 dX12_sure_5 (by decide) (fun hc5 => ?_) (fun hc5 => ?_)
  · exact absurd hc5 (by decide)
  refine R_iload_n dX12_sure_8 rfl ?_
  refine R_bipush dX12_sure_9 rfl (by decide +kernel) ?_
  refine R_icmp_eq 24 dX12_sure_11 (by decide) (fun hc11 => ?_) (fun hc11 => ?_)
  · exact at24 (Or.inl hc11)
  refine R_aload_n dX12_sure_14 rfl ?_
  refine R_iload_n dX12_sure_15 rfl ?_
  refine R_callV (m_isCouple hC c) (mvX12_isCouple _) kiX12_isCouple kvX12_isCouple km12_193 rfl rfl (by decide) ⟨rfl, rfl, by decide, by decide⟩ (Nat.le_of_ble_eq_true rfl) dX12_sure_16 (fun v1 sh1 g1 z1 r1 hq => ?_)
  obtain ⟨rfl, rfl, rfl, rfl, rfl⟩ := hq
  by_cases hc : 0 ≤ c ∧ c < g 74 3
  · rw [b2i_t hc]
    refine R_if_ne 24 dX12_sure_19 (by decide) (fun hc19 => ?_) (fun hc19 => ?_)
    · exact at24 (Or.inr hc)
    · exact absurd hc19 (by decide)
  · rw [b2i_f hc]
    refine R_if_ne 24 dX12_sure_19 (by decide) (fun hc19 => ?_) (fun hc19 => ?_)
    · exact absurd rfl hc19
    · refine R_iconst dX12_sure_22 rfl rfl ?_
      refine R_ireturn rfl (by first | rfl | exact nar_b2i | exact nar_bi) (by decide) (by decide) dX12_sure_23 ?_
      rw [← hQ]
      exact ⟨Or.inl ⟨fun q => by rcases q.2 with e | e; exact hc11 e; exact hc e, rfl, rfl, rfl⟩, rfl, rfl⟩
end MWPUB
