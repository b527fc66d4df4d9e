theorem insY_front {yr : Nat → Int} {i : Nat} {l : List Nat} (h : ∀ b ∈ l, yr i < yr b) : insY yr i l = i :: l := by
  cases l with
  | nil => rfl
  | cons a t => unfold insY; rw [if_pos (h a (by simp))]
theorem filter_insY {yr : Nat → Int} {i : Nat} {p : Nat → Bool} {l : List Nat} (hs : l.Pairwise (fun a b => yr a ≤ yr b)) : (insY yr i l).filter p = if p i then insY yr i (l.filter p) else l.filter p := by
  induction l with
  | nil => unfold insY; by_cases h : p i = true <;> simp [h, insY]
  | cons a t ih =>
    rw [List.pairwise_cons] at hs
    have e : insY yr i (a :: t) = if yr i < yr a then i :: a :: t else a :: insY yr i t := rfl
    rw [e]
    by_cases hlt : yr i < yr a
    · rw [if_pos hlt, List.filter_cons]
      have hall : ∀ b ∈ (a :: t).filter p, yr i < yr b := by
        intro b hb
        rcases List.mem_cons.mp (List.mem_filter.mp hb).1 with rfl | h
        · exact hlt
        · have := hs.1 b h; omega
      by_cases hp : p i = true
      · rw [if_pos hp, if_pos hp, insY_front hall]
      · rw [if_neg hp, if_neg hp]
    · rw [if_neg hlt, List.filter_cons, List.filter_cons, ih hs.2]
      by_cases hp : p i = true
      · rw [if_pos hp]
        by_cases ha : p a = true
        · rw [if_pos ha, if_pos ha, if_pos hp]
          show _ = if yr i < yr a then i :: a :: t.filter p else a :: insY yr i (t.filter p)
          rw [if_neg hlt]
        · rw [if_neg ha, if_neg ha, if_pos hp]
      · rw [if_neg hp, if_neg hp]
/-- the children of a set as the reference takes them -/
def kM (yr : Nat → Int) (set : Nat) : Nat → List Nat
  | 0 => []
  | i + 1 => if set.testBit i then insY yr i (kM yr set i) else kM yr set i
theorem kM_eq {yr : Nat → Int} {set : Nat} (n : Nat) : kM yr set n = (ordL yr n).filter (fun i => set.testBit i) := by
  induction n with
  | zero => rfl
  | succ n ih => rw [kM, ordL, filter_insY (ordL_sorted n), ih]
theorem kM_mem {yr : Nat → Int} {set n a : Nat} : a ∈ kM yr set n ↔ a < n ∧ set.testBit a = true := by rw [kM_eq, List.mem_filter, ordL_mem]
theorem kM_len {yr : Nat → Int} {set : Nat} (n : Nat) : (kM yr set n).length ≤ n := by
  rw [kM_eq]
  exact Nat.le_trans (List.length_filter_le _ _) (by rw [ordL_len]; exact Nat.le_refl _)
theorem kM_sorted {yr : Nat → Int} {set : Nat} (n : Nat) : (kM yr set n).Pairwise (fun a b => yr a ≤ yr b) := by rw [kM_eq]; exact (ordL_sorted n).filter _
def cbS (s : VW) (c : Nat) : List Nat → List Nat → Bool
  | _, [] => true
  | acc, i :: t => (canTie s i c && fits s acc i) && cbS s c (acc ++ [i]) t
theorem gath_cb {s : VW} {c set : Nat} : ∀ (t acc : List Nat), gath s c set t acc = if cbS s c acc (t.filter (fun i => set.testBit i)) then some (acc ++ t.filter (fun i => set.testBit i)) else none := by
  intro t
  induction t with
  | nil => intro acc; simp [gath, cbS]
  | cons i t ih =>
    intro acc
    unfold gath
    rw [List.filter_cons]
    by_cases hb : set.testBit i = true
    · rw [if_pos hb, if_pos hb, cbS]
      by_cases hc : (canTie s i c && fits s acc i) = true
      · rw [if_pos hc, hc, Bool.true_and, ih, List.append_assoc]
        rfl
      · rw [if_neg hc, Bool.eq_false_iff.mpr hc, Bool.false_and]
        simp
    · rw [if_neg hb, if_neg hb, ih]
/-- a FAMILY by the reference's children -/
theorem fam_kM {s : VW} {c set : Nat} : fam s c set = if cbS s c [] (kM (s 9) set (s 0 2).toNat) then some (kM (s 9) set (s 0 2).toNat) else none := by
  unfold fam
  rw [gath_cb, ← kM_eq]
  simp
def FamM (g : GG) (l : List Nat) : Prop := g 74 46 = (l.length : Int) ∧ ∀ (j a : Nat), l[j]? = some a → g 101 j = (a : Int)
theorem vM_cong {g g' : GG} (h1 : ∀ c, 76 ≤ c → c ≤ 88 → g' c = g c) (h2 : ∀ k, 2 ≤ k → k ≤ 9 → g' 74 k = g 74 k) : vM g' = vM g := by
  have a2 := h2 2 (by omega) (by omega); have a3 := h2 3 (by omega) (by omega); have a4 := h2 4 (by omega) (by omega); have a5 := h2 5 (by omega) (by omega); have a6 := h2 6 (by omega) (by omega); have a7 := h2 7 (by omega) (by omega); have a8 := h2 8 (by omega) (by omega); have a9 := h2 9 (by omega) (by omega)
  have e76 := h1 76 (by omega) (by omega); have e77 := h1 77 (by omega) (by omega); have e78 := h1 78 (by omega) (by omega); have e79 := h1 79 (by omega) (by omega); have e80 := h1 80 (by omega) (by omega); have e81 := h1 81 (by omega) (by omega); have e82 := h1 82 (by omega) (by omega); have e83 := h1 83 (by omega) (by omega); have e84 := h1 84 (by omega) (by omega); have e85 := h1 85 (by omega) (by omega); have e86 := h1 86 (by omega) (by omega); have e87 := h1 87 (by omega) (by omega); have e88 := h1 88 (by omega) (by omega)
  funext f i
  unfold vM
  rw [a2, a3, a4, a5, a6, a7, a8, a9, e76, e77, e78, e79, e80, e81, e82, e83, e84, e85, e86, e87, e88]
section MFAM
variable {g z : GG} {r : RR}
theorem m_has (set i : Nat) (hs : set < 2 ^ 31) (hi : i < 32) : CT (mX12_has (rmD 0 0 0)) 0 0 shW [vI (set : Int), vI (i : Int)] g z r (qP shW g z r (some (vI (bi (set.testBit i))))) := by
  refine CT.of 0 rfl rfl ?_
  refine R_iload_n dX12_has_0 rfl ?_
  refine R_iload_n dX12_has_1 rfl ?_
  refine R_ishr dX12_has_2 ?_
  refine R_iconst dX12_has_3 rfl rfl ?_
  refine R_iand dX12_has_4 ?_
  rw [bit_n hs hi]
  by_cases h : set.testBit i = true
  · rw [if_pos h]
    refine R_iconst dX12_has_5 rfl rfl ?_
    refine R_icmp_ne 13 dX12_has_6 (by decide) (fun hc6 => ?_) (fun hc6 => ?_)
    · exact absurd rfl hc6
    refine R_iconst dX12_has_9 rfl rfl ?_
    refine R_goto 14 dX12_has_10 (by decide) ?_
    refine R_ireturn rfl (by first | rfl | exact nar_b2i | exact nar_bi) (by decide) (by decide) dX12_has_14 ?_
    exact ⟨by rw [bi_t h], rfl, rfl, rfl, rfl⟩
  · rw [if_neg h]
    refine R_iconst dX12_has_5 rfl rfl ?_
    refine R_icmp_ne 13 dX12_has_6 (by decide) (fun hc6 => ?_) (fun hc6 => ?_)
    · refine R_iconst dX12_has_13 rfl rfl ?_
      refine R_ireturn rfl (by first | rfl | exact nar_b2i | exact nar_bi) (by decide) (by decide) dX12_has_14 ?_
      exact ⟨by rw [bi_f h], rfl, rfl, rfl, rfl⟩
    · exact absurd hc6 (by decide)
theorem m_isElder (hr : RS r) (i j : Nat) (hi : i < 10) (hj : j < 10) (hij : j < i) : CT (mX12_isElder (rmD 0 0 0)) 0 0 shW [vR (some 74), vI (i : Int), vI (j : Int)] g z r (qP shW g z r (some (vI (b2i (g 84 i < g 84 j))))) := by
  refine CT.of 0 rfl rfl ?_
  refine R_aload_n dX12_isElder_0 rfl ?_
  refine R_getR _ (hr _ _ _ rfl) fd12_18 kf12_54 rfl dX12_isElder_1 ?_
  refine R_iload_n dX12_isElder_4 rfl ?_
  refine R_iald rfl (by omega) (by omega) dX12_isElder_5 ?_
  refine R_aload_n dX12_isElder_6 rfl ?_
  refine R_getR _ (hr _ _ _ rfl) fd12_18 kf12_54 rfl dX12_isElder_7 ?_
  refine R_iload_n dX12_isElder_10 rfl ?_
  refine R_iald rfl (by omega) (by omega) dX12_isElder_11 ?_
  refine R_icmp_lt 35 dX12_isElder_12 (by decide) (fun hc12 => ?_) (fun hc12 => ?_)
  · refine R_iconst dX12_isElder_35 rfl rfl ?_
    refine R_goto 40 dX12_isElder_36 (by decide) ?_
    refine R_ireturn rfl (by first | rfl | exact nar_b2i | exact nar_bi) (by decide) (by decide) dX12_isElder_40 ?_
    simp only [Int.toNat_natCast] at *; first | exact ⟨by rw [b2i_t (by omega)], rfl, rfl, rfl, rfl⟩ | exact ⟨by rw [b2i_f (by omega)], rfl, rfl, rfl, rfl⟩
  · refine R_aload_n dX12_isElder_15 rfl ?_
    refine R_getR _ (hr _ _ _ rfl) fd12_18 kf12_54 rfl dX12_isElder_16 ?_
    refine R_iload_n dX12_isElder_19 rfl ?_
    refine R_iald rfl (by omega) (by omega) dX12_isElder_20 ?_
    refine R_aload_n dX12_isElder_21 rfl ?_
    refine R_getR _ (hr _ _ _ rfl) fd12_18 kf12_54 rfl dX12_isElder_22 ?_
    refine R_iload_n dX12_isElder_25 rfl ?_
    refine R_iald rfl (by omega) (by omega) dX12_isElder_26 ?_
    refine R_icmp_ne 39 dX12_isElder_27 (by decide) (fun hc27 => ?_) (fun hc27 => ?_)
    · refine R_iconst dX12_isElder_39 rfl rfl ?_
      refine R_ireturn rfl (by first | rfl | exact nar_b2i | exact nar_bi) (by decide) (by decide) dX12_isElder_40 ?_
      simp only [Int.toNat_natCast] at *; first | exact ⟨by rw [b2i_t (by omega)], rfl, rfl, rfl, rfl⟩ | exact ⟨by rw [b2i_f (by omega)], rfl, rfl, rfl, rfl⟩
    · refine R_iload_n dX12_isElder_30 rfl ?_
      refine R_iload_n dX12_isElder_31 rfl ?_
      refine R_icmp_ge 39 dX12_isElder_32 (by decide) (fun hc32 => ?_) (fun hc32 => ?_)
      · refine R_iconst dX12_isElder_39 rfl rfl ?_
        refine R_ireturn rfl (by first | rfl | exact nar_b2i | exact nar_bi) (by decide) (by decide) dX12_isElder_40 ?_
        simp only [Int.toNat_natCast] at *; first | exact ⟨by rw [b2i_t (by omega)], rfl, rfl, rfl, rfl⟩ | exact ⟨by rw [b2i_f (by omega)], rfl, rfl, rfl, rfl⟩
      · refine R_iconst dX12_isElder_35 rfl rfl ?_
        refine R_goto 40 dX12_isElder_36 (by decide) ?_
        refine R_ireturn rfl (by first | rfl | exact nar_b2i | exact nar_bi) (by decide) (by decide) dX12_isElder_40 ?_
        simp only [Int.toNat_natCast] at *; first | exact ⟨by rw [b2i_t (by omega)], rfl, rfl, rfl, rfl⟩ | exact ⟨by rw [b2i_f (by omega)], rfl, rfl, rfl, rfl⟩
theorem m_takes (hr : RS r) (hF : 0 ≤ g 74 4 ∧ g 74 4 ≤ 10) (c : Int) (set : Nat) (hset : set < 1024) : CT (mX12_takes (rmD 1 0 0)) 0 0 shW [vR (some 74), vI c, vI (set : Int)] g z r (qG shW z r fun v g' => v = none ∧ (∀ c', c' ≠ 74 → c' ≠ 101 → g' c' = g c') ∧ (∀ k, k ≠ 45 → k ≠ 46 → g' 74 k = g 74 k) ∧ g' 74 45 = c ∧ FamM g' (kM (g 84) set (g 74 4).toNat)) := by
  refine CT.of 2 rfl rfl ?_
  generalize hQ : (qG shW z r fun v g' => v = none ∧ (∀ c', c' ≠ 74 → c' ≠ 101 → g' c' = g c') ∧ (∀ k, k ≠ 45 → k ≠ 46 → g' 74 k = g 74 k) ∧ g' 74 45 = c ∧ FamM g' (kM (g 84) set (g 74 4).toNat)) = Q
  have loop : ∀ (n i : Nat) (g' : GG) (a4 : Option AV), (i : Int) + n = g 74 4 → (∀ c', c' ≠ 74 → c' ≠ 101 → g' c' = g c') → (∀ k, k ≠ 45 → k ≠ 46 → g' 74 k = g 74 k) → g' 74 45 = c → FamM g' (kM (g 84) set i) → RJ (mX12_takes (rmD 1 0 0)) 0 0 shW.length Q 0 0 shW 12 [some (vR (some 74)), some (vI c), some (vI (set : Int)), some (vI (i : Int)), a4] [] g' z r := by
    intro n
    induction n with
    | zero =>
      intro i g' a4 hi h1 h2 h3 hf
      refine R_iload_n dX12_takes_12 rfl ?_
      refine R_aload_n dX12_takes_13 rfl ?_
      refine R_getI fd12_4 kf12_175 rfl dX12_takes_14 ?_
      rw [h2 4 (by decide) (by decide)]
      refine R_icmp_ge 105 dX12_takes_17 (by decide) (fun hc17 => ?_) (fun hc17 => ?_)
      · refine R_return rfl (by decide) (by decide) dX12_takes_105 ?_
        rw [← hQ]
        exact ⟨⟨rfl, h1, h2, h3, by rw [show (g 74 4).toNat = i by omega]; exact hf⟩, rfl, rfl, rfl⟩
      · exact absurd (by omega) hc17
    | succ n ih =>
      intro i g' a4 hi h1 h2 h3 hf
      have hn1 := fun g' a4 => ih (i + 1) g' a4 (by omega)
      rw [kM] at hn1
      have hlen := kM_len (yr := g 84) (set := set) i
      have shift : ∀ (k : Nat) (o : Nat → Int) (g2 : GG), k ≤ (kM (g 84) set i).length → (∀ c', c' ≠ 74 → c' ≠ 101 → g2 c' = g c') → (∀ k, k ≠ 45 → k ≠ 46 → g2 74 k = g 74 k) → g2 74 45 = c → g2 74 46 = ((kM (g 84) set i).length : Int) → (∀ j, j < k → g2 101 j = g' 101 j) → (∀ j, k < j → j ≤ (kM (g 84) set i).length → g2 101 j = g' 101 (j - 1)) → (∀ a ∈ (kM (g 84) set i).drop k, g 84 i < g 84 a) → set.testBit i = true → RJ (mX12_takes (rmD 1 0 0)) 0 0 shW.length Q 0 0 shW 37 [some (vR (some 74)), some (vI c), some (vI (set : Int)), some (vI (i : Int)), some (vI (k : Int))] [] g2 z r := by
        intro k
        have fin : ∀ (k : Nat) (g2 : GG), k ≤ (kM (g 84) set i).length → (∀ c', c' ≠ 74 → c' ≠ 101 → g2 c' = g c') → (∀ k, k ≠ 45 → k ≠ 46 → g2 74 k = g 74 k) → g2 74 45 = c → g2 74 46 = ((kM (g 84) set i).length : Int) → (∀ j, j < k → g2 101 j = g' 101 j) → (∀ j, k < j → j ≤ (kM (g 84) set i).length → g2 101 j = g' 101 (j - 1)) → (∀ a ∈ (kM (g 84) set i).drop k, g 84 i < g 84 a) → (∀ a ∈ (kM (g 84) set i).take k, g 84 a ≤ g 84 i) → set.testBit i = true → RJ (mX12_takes (rmD 1 0 0)) 0 0 shW.length Q 0 0 shW 81 [some (vR (some 74)), some (vI c), some (vI (set : Int)), some (vI (i : Int)), some (vI (k : Int))] [] g2 z r := by
          intro k g2 hk q1 q2 q3 q4 q5 q6 q7 q8 hb
          rw [if_pos hb, insY_split _ k q8 q7] at hn1
          refine R_aload_n dX12_takes_81 rfl ?_
          refine R_getR _ (hr _ _ _ rfl) fd12_47 kf12_105 rfl dX12_takes_82 ?_
          try simp +decide only [up2_far, up2_s, up2_kk]
          refine R_iload dX12_takes_85 rfl ?_
          refine R_iload_n dX12_takes_87 rfl ?_
          refine R_iast rfl (by omega) (by omega) dX12_takes_88 ?_
          refine R_aload_n dX12_takes_89 rfl ?_
          refine R_dup dX12_takes_90 (fun _ h => by cases h) ?_
          refine R_getI fd12_46 kf12_321 rfl dX12_takes_91 ?_
          try simp +decide only [up2_far, up2_s, up2_kk]
          rw [q4]
          refine R_iconst dX12_takes_94 rfl rfl ?_
          refine R_iaddN dX12_takes_95 (by unfold inI; omega) ?_
          refine R_putI fd12_46 rfl kf12_321 rfl dX12_takes_96 ?_
          refine R_iincN dX12_takes_99 rfl (by decide) rfl (by unfold inI; omega) [_, _, _, _, _] rfl ?_
          refine R_goto 12 dX12_takes_102 (by decide) ?_
          refine hn1 _ _ (fun c' a b => by rw [up2_ne a, up2_ne b]; exact q1 c' a b) (fun k' a b => by rw [up2_k b, up2_far (by decide)]; exact q2 k' a b) (by rw [up2_k (by decide), up2_far (by decide)]; exact q3) ⟨by rw [up2_s]; simp; omega, fun j a hj => ?_⟩
          rw [up2_far (by decide), Int.toNat_natCast]
          have hl1 : ((kM (g 84) set i).take k).length = k := by rw [List.length_take]; omega
          by_cases hj1 : j < k
          · rw [List.getElem?_append_left (by omega), List.getElem?_take_of_lt hj1] at hj
            rw [up2_k (by omega), q5 j hj1]
            exact hf.2 j a hj
          · rw [List.getElem?_append_right (by omega), hl1] at hj
            by_cases hj2 : j = k
            · subst hj2; simp at hj; subst hj; rw [up2_s]
            · obtain ⟨m, hm⟩ : ∃ m, j - k = m + 1 := ⟨j - k - 1, by omega⟩
              rw [hm, List.getElem?_cons_succ, List.getElem?_drop] at hj
              have hjn : k + m < (kM (g 84) set i).length := (List.getElem?_eq_some_iff.mp hj).1
              rw [up2_k (by omega), q6 j (by omega) (by omega), show j - 1 = k + m by omega]
              exact hf.2 _ a hj
        induction k with
        | zero =>
          intro o g2 hk q1 q2 q3 q4 q5 q6 q7 hb
          refine R_iload dX12_takes_37 rfl ?_
          refine R_if_le 81 dX12_takes_39 (by decide) (fun hc39 => ?_) (fun hc39 => ?_)
          · exact fin 0 g2 (by omega) q1 q2 q3 q4 q5 q6 q7 (by simp) hb
          · exact absurd (by omega) hc39
        | succ k ihk =>
          intro o g2 hk q1 q2 q3 q4 q5 q6 q7 hb
          have hkl : k < (kM (g 84) set i).length := by omega
          obtain ⟨e, he⟩ : ∃ e, (kM (g 84) set i)[k]? = some e := ⟨_, List.getElem?_eq_getElem hkl⟩
          have hei : e < i := (kM_mem.mp (List.mem_of_getElem? he)).1
          have hge : g2 101 k = (e : Int) := by rw [q5 k (by omega)]; exact hf.2 k e he
          have e84 : g2 84 = g 84 := q1 84 (by decide) (by decide)
          refine R_iload dX12_takes_37 rfl ?_
          refine R_if_le 81 dX12_takes_39 (by decide) (fun hc39 => ?_) (fun hc39 => ?_)
          · exact absurd hc39 (by omega)
          refine R_aload_n dX12_takes_42 rfl ?_
          refine R_iload_n dX12_takes_43 rfl ?_
          refine R_aload_n dX12_takes_44 rfl ?_
          refine R_getR _ (hr _ _ _ rfl) fd12_47 kf12_105 rfl dX12_takes_45 ?_
          refine R_iload dX12_takes_48 rfl ?_
          refine R_iconst dX12_takes_50 rfl rfl ?_
          refine R_isubN dX12_takes_51 (by unfold inI; omega) ?_
          refine R_iald rfl (by omega) (by omega) dX12_takes_52 ?_
          rw [show (((k + 1 : Nat) : Int) - 1).toNat = k by omega, hge]
          refine R_callV (m_isElder hr i e (by omega) (by omega) hei) (mvX12_isElder _) kiX12_isElder kvX12_isElder km12_327 rfl rfl (by decide) ⟨rfl, rfl, by decide, by decide⟩ (Nat.le_of_ble_eq_true rfl) dX12_takes_53 (fun v1 sh1 g1 z1 r1 hq => ?_)
          obtain ⟨rfl, rfl, rfl, rfl, rfl⟩ := hq
          rw [e84]
          by_cases hy : g 84 i < g 84 e
          · rw [b2i_t hy]
            refine R_if_eq 81 dX12_takes_56 (by decide) (fun hc56 => ?_) (fun hc56 => ?_)
            · exact absurd hc56 (by decide)
            refine R_aload_n dX12_takes_59 rfl ?_
            refine R_getR _ (hr _ _ _ rfl) fd12_47 kf12_105 rfl dX12_takes_60 ?_
            refine R_iload dX12_takes_63 rfl ?_
            refine R_aload_n dX12_takes_65 rfl ?_
            refine R_getR _ (hr _ _ _ rfl) fd12_47 kf12_105 rfl dX12_takes_66 ?_
            refine R_iload dX12_takes_69 rfl ?_
            refine R_iconst dX12_takes_71 rfl rfl ?_
            refine R_isubN dX12_takes_72 (by unfold inI; omega) ?_
            refine R_iald rfl (by omega) (by omega) dX12_takes_73 ?_
            rw [show (((k + 1 : Nat) : Int) - 1).toNat = k by omega]
            refine R_iast rfl (by omega) (by omega) dX12_takes_74 ?_
            refine R_iincN dX12_takes_75 rfl (by decide) rfl (by unfold inI; omega) [_, _, _, _, _] rfl ?_
            refine R_goto 37 dX12_takes_78 (by decide) ?_
            rw [Int.toNat_natCast, show ((k + 1 : Nat) : Int) + -1 = (k : Int) by omega]
            refine ihk o _ (by omega) (fun c' a b => by rw [up2_ne b]; exact q1 c' a b) (fun k' a b => by rw [up2_far (by decide)]; exact q2 k' a b) (by rw [up2_far (by decide)]; exact q3) (by rw [up2_far (by decide)]; exact q4) (fun j hj => by rw [up2_k (by omega)]; exact q5 j (by omega)) (fun j a b => ?_) (fun x hx => ?_) hb
            · by_cases hjk : j = k + 1
              · subst hjk; rw [up2_s, Nat.add_sub_cancel]; exact q5 k (by omega)
              · rw [up2_k hjk]; exact q6 j (by omega) b
            · rw [List.drop_eq_getElem_cons hkl] at hx
              rcases List.mem_cons.mp hx with rfl | hx
              · rw [List.getElem?_eq_getElem hkl] at he
                have : (kM (g 84) set i)[k] = e := Option.some.inj he
                rw [this]; exact hy
              · exact q7 x hx
          · rw [b2i_f hy]
            refine R_if_eq 81 dX12_takes_56 (by decide) (fun hc56 => ?_) (fun hc56 => ?_)
            · refine fin (k + 1) g2 hk q1 q2 q3 q4 q5 q6 q7 (fun x hx => ?_) hb
              rw [List.take_add_one, he] at hx
              rcases List.mem_append.mp hx with hx | hx
              · have hs := kM_sorted (yr := g 84) (set := set) i
                rw [← List.take_append_drop k (kM (g 84) set i), List.pairwise_append] at hs
                have := hs.2.2 x hx e (List.mem_of_getElem? (i := 0) (by rw [List.getElem?_drop]; simpa using he))
                omega
              · simp at hx; subst hx; omega
            · exact absurd rfl hc56
      refine R_iload_n dX12_takes_12 rfl ?_
      refine R_aload_n dX12_takes_13 rfl ?_
      refine R_getI fd12_4 kf12_175 rfl dX12_takes_14 ?_
      rw [h2 4 (by decide) (by decide)]
      refine R_icmp_ge 105 dX12_takes_17 (by decide) (fun hc17 => ?_) (fun hc17 => ?_)
      · exact absurd hc17 (by omega)
      refine R_iload_n dX12_takes_20 rfl ?_
      refine R_iload_n dX12_takes_21 rfl ?_
      refine R_callS (m_has set i (by omega) (by omega)) (mvX12_has _) ksX12_has km12_324 ⟨rfl, rfl, by decide, by decide⟩ (Nat.le_of_ble_eq_true rfl) dX12_takes_22 (fun v1 sh1 g1 z1 r1 hq => ?_)
      obtain ⟨rfl, rfl, rfl, rfl, rfl⟩ := hq
      by_cases hb : set.testBit i = true
      · rw [bi_t hb]
        have hn : g' 74 46 = ((kM (g 84) set i).length : Int) := hf.1
        refine R_if_ne 31 dX12_takes_25 (by decide) (fun hc25 => ?_) (fun hc25 => ?_)
        · refine R_aload_n dX12_takes_31 rfl ?_
          refine R_getI fd12_46 kf12_321 rfl dX12_takes_32 ?_
          rw [hn]
          refine R_istore dX12_takes_35 (by decide) rfl [_, _, _, _, _] rfl ?_
          exact shift (kM (g 84) set i).length (g' 101) g' (Nat.le_refl _) h1 h2 h3 hn (fun j _ => rfl) (fun j a b => absurd a (by omega)) (fun a ha => by rw [List.drop_of_length_le (by omega)] at ha; cases ha) hb
        · exact absurd hc25 (by decide)
      · rw [bi_f hb]
        rw [if_neg hb] at hn1
        refine R_if_ne 31 dX12_takes_25 (by decide) (fun hc25 => ?_) (fun hc25 => ?_)
        · exact absurd rfl hc25
        · refine R_goto 99 dX12_takes_28 (by decide) ?_
          refine R_iincN dX12_takes_99 rfl (by decide) rfl (by unfold inI; omega) [_, _, _, _, _] rfl ?_
          refine R_goto 12 dX12_takes_102 (by decide) ?_
          exact hn1 _ _ h1 h2 h3 hf
  refine R_aload_n dX12_takes_0 rfl ?_
  refine R_iload_n dX12_takes_1 rfl ?_
  refine R_putI fd12_45 rfl kf12_318 rfl dX12_takes_2 ?_
  refine R_aload_n dX12_takes_5 rfl ?_
  refine R_iconst dX12_takes_6 rfl rfl ?_
  refine R_putI fd12_46 rfl kf12_321 rfl dX12_takes_7 ?_
  refine R_iconst dX12_takes_10 rfl rfl ?_
  refine R_istore_n dX12_takes_11 (by decide) rfl [_, _, _, _, _] rfl ?_
  refine loop (g 74 4).toNat 0 _ _ (by omega) (fun c' a b => by rw [up2_ne a, up2_ne a]) (fun k a b => by rw [up2_k b, up2_k a]) (by rw [up2_k (by decide), up2_s]) ⟨by rw [up2_s]; rfl, fun j a hj => by simp [kM] at hj⟩
end MFAM
