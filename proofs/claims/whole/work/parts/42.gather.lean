def sx (s : VW) (i : Nat) : Int := s 1 (s 8 i).toNat
def fit1 (s : VW) (i e : Nat) : Bool := decide (s 9 e ≠ s 9 i - 1) && (decide (s 8 e ≠ s 8 i) || isGone s e (s 9 i))
def twn (s : VW) (i : Nat) (l : List Nat) : Nat := (l.filter (fun e => decide (s 9 e = s 9 i))).length
def fits (s : VW) (l : List Nat) (i : Nat) : Bool := l.all (fit1 s i) && decide (twn s i l < 2)
def gath (s : VW) (c set : Nat) : List Nat → List Nat → Option (List Nat)
  | [], acc => some acc
  | i :: t, acc => if set.testBit i then (if canTie s i c && fits s acc i then gath s c set t (acc ++ [i]) else none) else gath s c set t acc
/-- a FAMILY's children in their order, or none if it can't be -/
def fam (s : VW) (c set : Nat) : Option (List Nat) := gath s c set (ordL (s 9) (s 0 2).toNat) []
def FamIs (g : GG) (l : List Nat) : Prop := g 32 8 = (l.length : Int) ∧ ∀ (j a : Nat), l[j]? = some a → g 33 j = (a : Int)
def vcell (c : Nat) : Prop := (1 ≤ c ∧ c ≤ 17) ∨ c = 30
theorem vC_cong {g g' : GG} (h : ∀ c, vcell c → g' c = g c) : vC g' = vC g := by
  have e1 := h 1 (by unfold vcell; omega); have e2 := h 2 (by unfold vcell; omega); have e3 := h 3 (by unfold vcell; omega); have e4 := h 4 (by unfold vcell; omega); have e5 := h 5 (by unfold vcell; omega); have e6 := h 6 (by unfold vcell; omega); have e7 := h 7 (by unfold vcell; omega); have e8 := h 8 (by unfold vcell; omega); have e9 := h 9 (by unfold vcell; omega); have e10 := h 10 (by unfold vcell; omega); have e11 := h 11 (by unfold vcell; omega); have e12 := h 12 (by unfold vcell; omega); have e13 := h 13 (by unfold vcell; omega); have e14 := h 14 (by unfold vcell; omega); have e15 := h 15 (by unfold vcell; omega); have e16 := h 16 (by unfold vcell; omega); have e17 := h 17 (by unfold vcell; omega); have e30 := h 30 (by unfold vcell; omega)
  funext f i
  unfold vC
  rw [e1, e2, e3, e4, e5, e6, e7, e8, e9, e10, e11, e12, e13, e14, e15, e16, e17, e30]
theorem gath_mem {s : VW} {c set : Nat} : ∀ (t acc l : List Nat), gath s c set t acc = some l → ∀ a ∈ l, a ∈ acc ∨ a ∈ t := by
  intro t
  induction t with
  | nil => intro acc l h a ha; simp [gath] at h; subst h; exact Or.inl ha
  | cons i t ih =>
    intro acc l h a ha
    unfold gath at h
    split at h
    · split at h
      · rcases ih _ _ h a ha with q | q
        · rcases List.mem_append.mp q with q | q
          · exact Or.inl q
          · simp at q; subst q; exact Or.inr (by simp)
        · exact Or.inr (by simp [q])
      · cases h
    · rcases ih _ _ h a ha with q | q
      · exact Or.inl q
      · exact Or.inr (by simp [q])
theorem fam_mem {s : VW} {c set : Nat} {l : List Nat} (h : fam s c set = some l) : ∀ a ∈ l, a < (s 0 2).toNat := by
  intro a ha
  rcases gath_mem _ _ _ h a ha with q | q
  · cases q
  · exact ordL_mem.mp q
theorem gath_len {s : VW} {c set : Nat} : ∀ (t acc l : List Nat), gath s c set t acc = some l → l.length ≤ acc.length + t.length := by
  intro t
  induction t with
  | nil => intro acc l h; simp [gath] at h; subst h; simp
  | cons i t ih =>
    intro acc l h
    unfold gath at h
    split at h
    · split at h
      · have := ih _ _ h; simp at this ⊢; omega
      · cases h
    · have := ih _ _ h; simp at this ⊢; omega
theorem fam_len {s : VW} {c set : Nat} {l : List Nat} (h : fam s c set = some l) : l.length ≤ (s 0 2).toNat := by
  have := gath_len _ _ _ h
  rw [ordL_len] at this
  simpa using this
section GATHER
variable {g z : GG} {r : RR}
theorem c_X3_fitsElders (hr : RS r) (l : List Nat) (hl : FamIs g l) (hm : ∀ a ∈ l, a < 10) (hll : l.length ≤ 10) (i : Nat) (hi : i < 10) (hy : ∀ j, j < 10 → 0 ≤ g 13 j ∧ g 13 j ≤ 299) : CT (mX3_fitsElders (rmD 1 0 0)) 0 0 shW [vR (some 32), vI (i : Int)] g z r (qP shW g z r (some (vI (bi (fits (vC g) l i))))) := by
  refine CT.of 5 rfl rfl ?_
  generalize hX : fits (vC g) l i = X
  generalize hQ : (qP shW g z r (some (vI (bi X)))) = Q
  have hyi := hy i hi
  have loop : ∀ (n k tw : Nat) (a6 : Option AV), k + n = l.length → tw ≤ k → (((l.drop k).all (fit1 (vC g) i)) && decide (tw + twn (vC g) i (l.drop k) < 2)) = X → RJ (mX3_fitsElders (rmD 1 0 0)) 0 0 shW.length Q 0 0 shW 21 [some (vR (some 32)), some (vI (i : Int)), some (vR (some 11)), some (vI (g 13 i)), some (vI (tw : Int)), some (vI (k : Int)), a6] [] g z r := by
    intro n
    induction n with
    | zero =>
      intro k tw a6 hk htw hx
      rw [List.drop_of_length_le (by omega)] at hx
      have hx : decide (tw < 2) = X := by rw [← hx]; rfl
      refine R_iload dX3_fitsElders_21 rfl ?_
      refine R_aload_n dX3_fitsElders_23 rfl ?_
      refine R_getI fd3_8 kf3_46 rfl dX3_fitsElders_24 ?_
      rw [hl.1]
      refine R_icmp_ge 102 dX3_fitsElders_27 (by decide) (fun hc27 => ?_) (fun hc27 => ?_)
      · refine R_iload dX3_fitsElders_102 rfl ?_
        refine R_iconst dX3_fitsElders_104 rfl rfl ?_
        refine R_icmp_ge 112 dX3_fitsElders_105 (by decide) (fun hc105 => ?_) (fun hc105 => ?_)
        · refine R_iconst dX3_fitsElders_112 rfl rfl ?_
          refine R_ireturn rfl (by first | rfl | exact nar_b2i | exact nar_bi) (by decide) (by decide) dX3_fitsElders_113 ?_
          rw [← hQ]; first | exact ⟨by rw [bi_f (by rw [← hx, decide_eq_true_eq]; omega)], rfl, rfl, rfl, rfl⟩ | exact ⟨by rw [bi_t (by rw [← hx, decide_eq_true_eq]; omega)], rfl, rfl, rfl, rfl⟩
        · refine R_iconst dX3_fitsElders_108 rfl rfl ?_
          refine R_goto 113 dX3_fitsElders_109 (by decide) ?_
          refine R_ireturn rfl (by first | rfl | exact nar_b2i | exact nar_bi) (by decide) (by decide) dX3_fitsElders_113 ?_
          rw [← hQ]; first | exact ⟨by rw [bi_f (by rw [← hx, decide_eq_true_eq]; omega)], rfl, rfl, rfl, rfl⟩ | exact ⟨by rw [bi_t (by rw [← hx, decide_eq_true_eq]; omega)], rfl, rfl, rfl, rfl⟩
      · exact absurd (by omega) hc27
    | succ n ih =>
      intro k tw a6 hk htw hx
      have hkl : k < l.length := by omega
      obtain ⟨e, he⟩ : ∃ e, l[k]? = some e := ⟨_, List.getElem?_eq_getElem hkl⟩
      have hee : l[k] = e := by rw [List.getElem?_eq_getElem hkl] at he; exact Option.some.inj he
      have he10 : e < 10 := hm e (List.mem_of_getElem? he)
      have hge : g 33 k = (e : Int) := hl.2 k e he
      have hye := hy e he10
      rw [List.drop_eq_getElem_cons hkl, hee, List.all_cons] at hx
      have tcons : twn (vC g) i (e :: l.drop (k + 1)) = (if g 13 e = g 13 i then 1 else 0) + twn (vC g) i (l.drop (k + 1)) := by
        unfold twn
        rw [List.filter_cons]
        show (if decide (g 13 e = g 13 i) = true then _ else _ : List Nat).length = _
        by_cases h : g 13 e = g 13 i
        · simp [h]; omega
        · simp [h]
      rw [tcons] at hx
      have hf1 : fit1 (vC g) i e = (decide (g 13 e ≠ g 13 i - 1) && (decide (g 12 e ≠ g 12 i) || isGone (vC g) e (g 13 i))) := rfl
      have tail : fit1 (vC g) i e = true → RJ (mX3_fitsElders (rmD 1 0 0)) 0 0 shW.length Q 0 0 shW 82 [some (vR (some 32)), some (vI ((i : Int))), some (vR (some 11)), some (vI (g 13 i)), some (vI ((tw : Int))), some (vI ((k : Int))), some (vI ((e : Int)))] [] g z r := by
        intro hf
        rw [hf, Bool.true_and] at hx
        refine R_aload_n dX3_fitsElders_82 rfl ?_
        refine R_getR _ (hr _ _ _ rfl) fd4_1 kf3_69 rfl dX3_fitsElders_83 ?_
        refine R_iload dX3_fitsElders_86 rfl ?_
        refine R_iald rfl (by omega) (by omega) dX3_fitsElders_88 ?_
        rw [Int.toNat_natCast]
        refine R_iload_n dX3_fitsElders_89 rfl ?_
        refine R_icmp_ne 96 dX3_fitsElders_90 (by decide) (fun hc90 => ?_) (fun hc90 => ?_)
        · refine R_iincN dX3_fitsElders_96 rfl (by decide) rfl (by unfold inI; omega) [_, _, _, _, _, _, _] rfl ?_
          refine R_goto 21 dX3_fitsElders_99 (by decide) ?_
          rw [if_neg hc90, Nat.zero_add] at hx
          exact ih (k + 1) tw _ (by omega) (by omega) hx
        · refine R_iincN dX3_fitsElders_93 rfl (by decide) rfl (by unfold inI; omega) [_, _, _, _, _, _, _] rfl ?_
          refine R_iincN dX3_fitsElders_96 rfl (by decide) rfl (by unfold inI; omega) [_, _, _, _, _, _, _] rfl ?_
          refine R_goto 21 dX3_fitsElders_99 (by decide) ?_
          rw [if_pos hc90, ← Nat.add_assoc] at hx
          exact ih (k + 1) (tw + 1) _ (by omega) (by omega) hx
      refine R_iload dX3_fitsElders_21 rfl ?_
      refine R_aload_n dX3_fitsElders_23 rfl ?_
      refine R_getI fd3_8 kf3_46 rfl dX3_fitsElders_24 ?_
      rw [hl.1]
      refine R_icmp_ge 102 dX3_fitsElders_27 (by decide) (fun hc27 => ?_) (fun hc27 => ?_)
      · exact absurd hc27 (by omega)
      refine R_aload_n dX3_fitsElders_30 rfl ?_
      refine R_getR _ (hr _ _ _ rfl) fd3_1 kf3_9 rfl dX3_fitsElders_31 ?_
      refine R_iload dX3_fitsElders_34 rfl ?_
      refine R_iald rfl (by omega) (by omega) dX3_fitsElders_36 ?_
      rw [Int.toNat_natCast, hge]
      refine R_istore dX3_fitsElders_37 (by decide) rfl [_, _, _, _, _, _, _] rfl ?_
      refine R_aload_n dX3_fitsElders_39 rfl ?_
      refine R_getR _ (hr _ _ _ rfl) fd4_1 kf3_69 rfl dX3_fitsElders_40 ?_
      refine R_iload dX3_fitsElders_43 rfl ?_
      refine R_iald rfl (by omega) (by omega) dX3_fitsElders_45 ?_
      rw [Int.toNat_natCast]
      refine R_iload_n dX3_fitsElders_46 rfl ?_
      refine R_iconst dX3_fitsElders_47 rfl rfl ?_
      refine R_isubN dX3_fitsElders_48 (by unfold inI; omega) ?_
      refine R_icmp_ne 54 dX3_fitsElders_49 (by decide) (fun hc49 => ?_) (fun hc49 => ?_)
      · refine R_aload_n dX3_fitsElders_54 rfl ?_
        refine R_getR _ (hr _ _ _ rfl) fd4_0 kf3_72 rfl dX3_fitsElders_55 ?_
        refine R_iload dX3_fitsElders_58 rfl ?_
        refine R_iald rfl (by omega) (by omega) dX3_fitsElders_60 ?_
        rw [Int.toNat_natCast]
        refine R_aload_n dX3_fitsElders_61 rfl ?_
        refine R_getR _ (hr _ _ _ rfl) fd4_0 kf3_72 rfl dX3_fitsElders_62 ?_
        refine R_iload_n dX3_fitsElders_65 rfl ?_
        refine R_iald rfl (by omega) (by omega) dX3_fitsElders_66 ?_
        rw [Int.toNat_natCast]
        refine R_icmp_ne 82 dX3_fitsElders_67 (by decide) (fun hc67 => ?_) (fun hc67 => ?_)
        · exact tail (by rw [hf1]; simp [hc49, hc67])
        · refine R_aload_n dX3_fitsElders_70 rfl ?_
          refine R_iload dX3_fitsElders_71 rfl ?_
          refine R_iload_n dX3_fitsElders_73 rfl ?_
          refine R_callV (c_X4_goneBy hr (e : Int) (g 13 i) (by omega)) (mvX4_goneBy _) kiX4_goneBy kvX4_goneBy km3_75 rfl rfl (by decide) ⟨rfl, rfl, by decide, by decide⟩ (Nat.le_of_ble_eq_true rfl) dX3_fitsElders_74 (fun v1 sh1 g1 z1 r1 hq => ?_)
          obtain ⟨rfl, rfl, rfl, rfl, rfl⟩ := hq
          rw [Int.toNat_natCast]
          by_cases hg : isGone (vC g) e (g 13 i) = true
          · rw [bi_t hg]
            refine R_if_ne 82 dX3_fitsElders_77 (by decide) (fun hc77 => ?_) (fun hc77 => ?_)
            · exact tail (by rw [hf1]; simp [hc49, hg])
            · exact absurd hc77 (by decide)
          · rw [bi_f hg]
            refine R_if_ne 82 dX3_fitsElders_77 (by decide) (fun hc77 => ?_) (fun hc77 => ?_)
            · exact absurd rfl hc77
            refine R_iconst dX3_fitsElders_80 rfl rfl ?_
            refine R_ireturn rfl (by first | rfl | exact nar_b2i | exact nar_bi) (by decide) (by decide) dX3_fitsElders_81 ?_
            rw [← hQ]
            exact ⟨by rw [bi_f (by rw [← hx, hf1]; simp [hc67, hg])], rfl, rfl, rfl, rfl⟩
      · refine R_iconst dX3_fitsElders_52 rfl rfl ?_
        refine R_ireturn rfl (by first | rfl | exact nar_b2i | exact nar_bi) (by decide) (by decide) dX3_fitsElders_53 ?_
        rw [← hQ]
        exact ⟨by rw [bi_f (by rw [← hx, hf1]; simp [hc49])], rfl, rfl, rfl, rfl⟩
  refine R_aload_n dX3_fitsElders_0 rfl ?_
  refine R_getR _ (hr _ _ _ rfl) fd3_0 kf3_38 rfl dX3_fitsElders_1 ?_
  refine R_getR _ (hr _ _ _ rfl) fd0_2 kf3_49 rfl dX3_fitsElders_4 ?_
  refine R_astore_n dX3_fitsElders_7 (by decide) rfl [_, _, _, _, _, _, _] rfl ?_
  refine R_aload_n dX3_fitsElders_8 rfl ?_
  refine R_getR _ (hr _ _ _ rfl) fd4_1 kf3_69 rfl dX3_fitsElders_9 ?_
  refine R_iload_n dX3_fitsElders_12 rfl ?_
  refine R_iald rfl (by omega) (by omega) dX3_fitsElders_13 ?_
  rw [Int.toNat_natCast]
  refine R_istore_n dX3_fitsElders_14 (by decide) rfl [_, _, _, _, _, _, _] rfl ?_
  refine R_iconst dX3_fitsElders_15 rfl rfl ?_
  refine R_istore dX3_fitsElders_16 (by decide) rfl [_, _, _, _, _, _, _] rfl ?_
  refine R_iconst dX3_fitsElders_18 rfl rfl ?_
  refine R_istore dX3_fitsElders_19 (by decide) rfl [_, _, _, _, _, _, _] rfl ?_
  exact loop l.length 0 0 none (by omega) (by omega) (by rw [List.drop_zero, Nat.zero_add]; exact hX)
theorem c_X3_gather (hr : RS r) (hC : 0 ≤ g 5 5 ∧ g 5 5 ≤ 6) (hF : 0 ≤ g 11 7 ∧ g 11 7 ≤ 10) (ho : ∀ (j a : Nat), (ordL (g 13) (g 11 7).toNat)[j]? = some a → g 18 j = (a : Int)) (hy : ∀ j, j < 10 → 0 ≤ g 13 j ∧ g 13 j ≤ 299) (c set : Nat) (hc6 : c < 6) (hset : set < 1024) : CT (mX3_gather (rmD 2 0 0)) 0 0 shW [vR (some 32), vI (c : Int), vI (set : Int)] g z r (qG shW z r fun v g' => (∀ c', c' ≠ 32 → c' ≠ 33 → g' c' = g c') ∧ (g' 32 7 = (c : Int) ∧ (∀ k, k ≠ 7 → k ≠ 8 → g' 32 k = g 32 k)) ∧ ((∃ l, fam (vC g) c set = some l ∧ v = some (vI 1) ∧ FamIs g' l) ∨ (fam (vC g) c set = none ∧ v = some (vI 0)))) := by
  refine CT.of 2 rfl rfl ?_
  generalize hX : fam (vC g) c set = X
  generalize hQ : (qG shW z r fun v g' => (∀ c', c' ≠ 32 → c' ≠ 33 → g' c' = g c') ∧ (g' 32 7 = (c : Int) ∧ (∀ k, k ≠ 7 → k ≠ 8 → g' 32 k = g 32 k)) ∧ ((∃ l, X = some l ∧ v = some (vI 1) ∧ FamIs g' l) ∨ (X = none ∧ v = some (vI 0)))) = Q
  have hlen : (ordL (g 13) (g 11 7).toNat).length = (g 11 7).toNat := ordL_len
  have loop : ∀ (n p : Nat) (acc : List Nat) (g' : GG) (a4 : Option AV), p + n = (g 11 7).toNat → (∀ c', c' ≠ 32 → c' ≠ 33 → g' c' = g c') → g' 32 7 = (c : Int) → (∀ k, k ≠ 7 → k ≠ 8 → g' 32 k = g 32 k) → FamIs g' acc → acc.length ≤ p → (∀ a ∈ acc, a < 10) → gath (vC g) c set ((ordL (g 13) (g 11 7).toNat).drop p) acc = X → RJ (mX3_gather (rmD 2 0 0)) 0 0 shW.length Q 0 0 shW 12 [some (vR (some 32)), some (vI (c : Int)), some (vI (set : Int)), some (vI (p : Int)), a4] [] g' z r := by
    intro n
    induction n with
    | zero =>
      intro p acc g' a4 hp h1 h2 h3 hf ha hm hx
      rw [List.drop_of_length_le (by omega)] at hx
      refine R_iload_n dX3_gather_12 rfl ?_
      refine R_aload_n dX3_gather_13 rfl ?_
      refine R_getR _ (hr _ _ _ rfl) fd3_0 kf3_38 rfl dX3_gather_14 ?_
      refine R_getR _ (hr _ _ _ rfl) fd0_2 kf3_49 rfl dX3_gather_17 ?_
      refine R_getI fd4_7 kf3_55 rfl dX3_gather_20 ?_
      rw [h1 11 (by decide) (by decide)]
      refine R_icmp_ge 104 dX3_gather_23 (by decide) (fun hc23 => ?_) (fun hc23 => ?_)
      · refine R_iconst dX3_gather_104 rfl rfl ?_
        refine R_ireturn rfl (by first | rfl | exact nar_b2i | exact nar_bi) (by decide) (by decide) dX3_gather_105 ?_
        rw [← hQ]
        exact ⟨⟨h1, ⟨h2, h3⟩, Or.inl ⟨acc, hx.symm, rfl, hf⟩⟩, rfl, rfl, rfl⟩
      · exact absurd (by omega) hc23
    | succ n ih =>
      intro p acc g' a4 hp h1 h2 h3 hf ha hm hx
      have hpl : p < (ordL (g 13) (g 11 7).toNat).length := by omega
      obtain ⟨i, hi⟩ : ∃ i, (ordL (g 13) (g 11 7).toNat)[p]? = some i := ⟨_, List.getElem?_eq_getElem hpl⟩
      have hie : (ordL (g 13) (g 11 7).toNat)[p] = i := by rw [List.getElem?_eq_getElem hpl] at hi; exact Option.some.inj hi
      have hi10 : i < 10 := by have := ordL_mem.mp (List.mem_of_getElem? hi); omega
      have hgi : g 18 p = (i : Int) := ho p i hi
      have hv : vC g' = vC g := vC_cong (fun c' h' => h1 c' (by unfold vcell at h'; omega) (by unfold vcell at h'; omega))
      rw [List.drop_eq_getElem_cons hpl, hie] at hx
      unfold gath at hx
      have hbit := bit_n (m := set) (i := i) (by omega) (by omega)
      refine R_iload_n dX3_gather_12 rfl ?_
      refine R_aload_n dX3_gather_13 rfl ?_
      refine R_getR _ (hr _ _ _ rfl) fd3_0 kf3_38 rfl dX3_gather_14 ?_
      refine R_getR _ (hr _ _ _ rfl) fd0_2 kf3_49 rfl dX3_gather_17 ?_
      refine R_getI fd4_7 kf3_55 rfl dX3_gather_20 ?_
      rw [h1 11 (by decide) (by decide)]
      refine R_icmp_ge 104 dX3_gather_23 (by decide) (fun hc23 => ?_) (fun hc23 => ?_)
      · exact absurd hc23 (by omega)
      refine R_aload_n dX3_gather_26 rfl ?_
      refine R_getR _ (hr _ _ _ rfl) fd3_0 kf3_38 rfl dX3_gather_27 ?_
      refine R_getR _ (hr _ _ _ rfl) fd0_2 kf3_49 rfl dX3_gather_30 ?_
      refine R_getR _ (hr _ _ _ rfl) fd4_6 kf3_58 rfl dX3_gather_33 ?_
      refine R_iload_n dX3_gather_36 rfl ?_
      refine R_iald rfl (by omega) (by omega) dX3_gather_37 ?_
      rw [h1 18 (by decide) (by decide), Int.toNat_natCast, hgi]
      refine R_istore dX3_gather_38 (by decide) rfl [_, _, _, _, _] rfl ?_
      refine R_iload_n dX3_gather_40 rfl ?_
      refine R_iload dX3_gather_41 rfl ?_
      refine R_ishr dX3_gather_43 ?_
      refine R_iconst dX3_gather_44 rfl rfl ?_
      refine R_iand dX3_gather_45 ?_
      rw [hbit]
      by_cases hb : set.testBit i = true
      · rw [if_pos hb]
        rw [if_pos hb] at hx
        refine R_iconst dX3_gather_46 rfl rfl ?_
        refine R_icmp_ne 98 dX3_gather_47 (by decide) (fun hc47 => ?_) (fun hc47 => ?_)
        · exact absurd rfl hc47
        refine R_aload_n dX3_gather_50 rfl ?_
        refine R_getR _ (hr _ _ _ rfl) fd3_0 kf3_38 rfl dX3_gather_51 ?_
        refine R_iload dX3_gather_54 rfl ?_
        refine R_aload_n dX3_gather_56 rfl ?_
        refine R_getI fd3_7 kf3_42 rfl dX3_gather_57 ?_
        rw [h2]
        refine R_callV (c_X0_canTie hr (i : Int) (c : Int) (by omega) (by omega)) (mvX0_canTie _) kiX0_canTie kvX0_canTie km3_61 rfl rfl (by decide) ⟨rfl, rfl, by decide, by decide⟩ (Nat.le_of_ble_eq_true rfl) dX3_gather_60 (fun v1 sh1 g1 z1 r1 hq => ?_)
        obtain ⟨rfl, rfl, rfl, rfl, rfl⟩ := hq
        rw [Int.toNat_natCast, Int.toNat_natCast, hv]
        by_cases ht : canTie (vC g) i c = true
        · rw [bi_t ht]
          rw [ht, Bool.true_and] at hx
          refine R_if_eq 75 dX3_gather_63 (by decide) (fun hc63 => ?_) (fun hc63 => ?_)
          · exact absurd hc63 (by decide)
          refine R_aload_n dX3_gather_66 rfl ?_
          refine R_iload dX3_gather_67 rfl ?_
          refine R_callV (c_X3_fitsElders hr acc hf hm (by omega) i hi10 (fun j hj => by rw [h1 13 (by decide) (by decide)]; exact hy j hj)) (mvX3_fitsElders _) kiX3_fitsElders kvX3_fitsElders km3_65 rfl rfl (by decide) ⟨rfl, rfl, by decide, by decide⟩ (Nat.le_of_ble_eq_true rfl) dX3_gather_69 (fun v1 sh1 g1 z1 r1 hq => ?_)
          obtain ⟨rfl, rfl, rfl, rfl, rfl⟩ := hq
          rw [hv]
          by_cases hft : fits (vC g) acc i = true
          · rw [bi_t hft]
            rw [if_pos hft] at hx
            refine R_if_ne 77 dX3_gather_72 (by decide) (fun hc72 => ?_) (fun hc72 => ?_)
            · have hf1 := hf.1
              refine R_aload_n dX3_gather_77 rfl ?_
              refine R_getR _ (hr _ _ _ rfl) fd3_1 kf3_9 rfl dX3_gather_78 ?_
              refine R_aload_n dX3_gather_81 rfl ?_
              refine R_getI fd3_8 kf3_46 rfl dX3_gather_82 ?_
              rw [hf.1]
              refine R_iload dX3_gather_85 rfl ?_
              refine R_iast rfl (by omega) (by omega) dX3_gather_87 ?_
              refine R_aload_n dX3_gather_88 rfl ?_
              refine R_dup dX3_gather_89 (fun _ h => by cases h) ?_
              refine R_getI fd3_8 kf3_46 rfl dX3_gather_90 ?_
              try simp +decide only [up2_far, up2_s, up2_kk]
              refine R_iconst dX3_gather_93 rfl rfl ?_
              refine R_iaddN dX3_gather_94 (by unfold inI; omega) ?_
              refine R_putI fd3_8 rfl kf3_46 rfl dX3_gather_95 ?_
              rw [hf.1]
              refine R_iincN dX3_gather_98 rfl (by decide) rfl (by unfold inI; omega) [_, _, _, _, _] rfl ?_
              refine R_goto 12 dX3_gather_101 (by decide) ?_
              refine ih (p + 1) (acc ++ [i]) _ _ (by omega) (fun c' h4 h5 => ?_) ?_ ?_ ?_ (by simp; omega) ?_ hx
              · rw [up2_ne h4, up2_ne h5]; exact h1 c' h4 h5
              · simp +decide only [up2_kk, up2_far]; exact h2
              · intro k h7 h8
                rw [up2_kk h8, up2_far (by decide)]
                exact h3 k h7 h8
              · refine ⟨by simp only [up2_s, List.length_append, List.length_singleton]; omega, fun j a hj => ?_⟩
                rw [up2_far (by decide), Int.toNat_natCast]
                by_cases hjl : j < acc.length
                · rw [List.getElem?_append_left hjl] at hj
                  rw [up2_k (by omega)]
                  exact hf.2 j a hj
                · rw [List.getElem?_append_right (by omega)] at hj
                  have : j = acc.length := by have := (List.getElem?_eq_some_iff.mp hj).1; simp at this; omega
                  subst this
                  simp at hj
                  rw [up2_s, hj]
              · intro a ha2
                rcases List.mem_append.mp ha2 with q | q
                · exact hm a q
                · simp at q; omega
            · exact absurd hc72 (by decide)
          · rw [bi_f hft]
            rw [if_neg hft] at hx
            refine R_if_ne 77 dX3_gather_72 (by decide) (fun hc72 => ?_) (fun hc72 => ?_)
            · exact absurd rfl hc72
            refine R_iconst dX3_gather_75 rfl rfl ?_
            refine R_ireturn rfl (by first | rfl | exact nar_b2i | exact nar_bi) (by decide) (by decide) dX3_gather_76 ?_
            rw [← hQ]
            exact ⟨⟨h1, ⟨h2, h3⟩, Or.inr ⟨hx.symm, rfl⟩⟩, rfl, rfl, rfl⟩
        · rw [bi_f ht]
          rw [Bool.eq_false_iff.mpr ht, Bool.false_and, if_neg (by simp)] at hx
          refine R_if_eq 75 dX3_gather_63 (by decide) (fun hc63 => ?_) (fun hc63 => ?_)
          · refine R_iconst dX3_gather_75 rfl rfl ?_
            refine R_ireturn rfl (by first | rfl | exact nar_b2i | exact nar_bi) (by decide) (by decide) dX3_gather_76 ?_
            rw [← hQ]
            exact ⟨⟨h1, ⟨h2, h3⟩, Or.inr ⟨hx.symm, rfl⟩⟩, rfl, rfl, rfl⟩
          · exact absurd rfl hc63
      · rw [if_neg hb]
        rw [if_neg hb] at hx
        refine R_iconst dX3_gather_46 rfl rfl ?_
        refine R_icmp_ne 98 dX3_gather_47 (by decide) (fun hc47 => ?_) (fun hc47 => ?_)
        · refine R_iincN dX3_gather_98 rfl (by decide) rfl (by unfold inI; omega) [_, _, _, _, _] rfl ?_
          refine R_goto 12 dX3_gather_101 (by decide) ?_
          exact ih (p + 1) acc g' _ (by omega) h1 h2 h3 hf (by omega) hm hx
        · exact absurd hc47 (by decide)
  refine R_aload_n dX3_gather_0 rfl ?_
  refine R_iload_n dX3_gather_1 rfl ?_
  refine R_putI fd3_7 rfl kf3_42 rfl dX3_gather_2 ?_
  refine R_aload_n dX3_gather_5 rfl ?_
  refine R_iconst dX3_gather_6 rfl rfl ?_
  refine R_putI fd3_8 rfl kf3_46 rfl dX3_gather_7 ?_
  refine R_iconst dX3_gather_10 rfl rfl ?_
  refine R_istore_n dX3_gather_11 (by decide) rfl [_, _, _, _, _] rfl ?_
  refine loop (g 11 7).toNat 0 [] _ _ (by omega) (fun c' h4 h5 => by rw [up2_ne h4, up2_ne h4]) (by simp +decide only [up2_kk, up2_s]) (fun k h7 h8 => by rw [up2_kk h8, up2_kk h7]) ⟨by simp only [up2_s]; rfl, fun j a hj => by simp at hj⟩ (by simp) (fun a ha => by cases ha) ?_
  rw [List.drop_zero]
  exact hX
end GATHER
