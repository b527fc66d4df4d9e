/-- a letter's sign by its place in FfMmPQSD -/
def chL (q : Int) : Int := if q = 0 then 70 else if q = 1 then 102 else if q = 2 then 77 else if q = 3 then 109 else if q = 4 then 80 else if q = 5 then 81 else if q = 6 then 83 else if q = 7 then 68 else 0
def oI (o : Option Nat) : Int := match o with
  | some e => (e : Int)
  | none => -1
def pbM (t : Int) : Int := if t = 70 then 0 else if t = 102 then 1 else if t = 77 then 2 else if t = 109 then 3 else -1
theorem cases9 {q : Int} (h : -1 ≤ q ∧ q < 8) : q = -1 ∨ q = 0 ∨ q = 1 ∨ q = 2 ∨ q = 3 ∨ q = 4 ∨ q = 5 ∨ q = 6 ∨ q = 7 := by omega
theorem pbM_ch {q : Int} (h : -1 ≤ q ∧ q < 8) : pbM (chL q) = if 0 ≤ q ∧ q < 4 then q else -1 := by
  rcases cases9 h with rfl | rfl | rfl | rfl | rfl | rfl | rfl | rfl | rfl <;> rfl
theorem chL_z {q : Int} (h : -1 ≤ q ∧ q < 8) : chL q = 0 ↔ q = -1 := by
  rcases cases9 h with rfl | rfl | rfl | rfl | rfl | rfl | rfl | rfl | rfl <;> decide
def thereM (s : VW) (l : List Nat) (k : Nat) (t : Int) : Bool := if t = 83 then decide (s 12 (l.getD k 0) ≠ -1) else if t = 68 then decide (ddN s (l.getD k 0) (l.take k) ≠ -1) else if sx s (l.getD k 0) = 0 then decide (t = 70 ∨ t = 77 ∨ t = 80) else decide (t = 102 ∨ t = 109 ∨ t = 81)
theorem thereM_ch {s : VW} {l : List Nat} {k q : Nat} (hq : q < 8) : thereM s l k (chL (q : Int)) = (thS s l k).testBit q := by
  unfold thereM thS
  generalize ddN s (l.getD k 0) (l.take k) = D
  generalize s 12 (l.getD k 0) = S
  generalize sx s (l.getD k 0) = X
  rcases (show q = 0 ∨ q = 1 ∨ q = 2 ∨ q = 3 ∨ q = 4 ∨ q = 5 ∨ q = 6 ∨ q = 7 by omega) with rfl | rfl | rfl | rfl | rfl | rfl | rfl | rfl <;> by_cases h1 : D = -1 <;> by_cases h2 : S = -1 <;> by_cases h3 : X = 0 <;> simp [chL, h1, h2, h3] <;> decide +kernel
/-- the reference holds these CLAUSES for CUSTOM k -/
def KmIs (g : GG) (k : Nat) (K : CUS) : Prop :=
  g 89 k = (K.length : Int) ∧ K.length ≤ 12 ∧ ∀ (j : Nat) (q : Nat × ((Nat → Int) → Bool)), K[j]? = some q → g 90 (12 * k + j) = chL (q.1 : Int) ∧ q.1 < 8 ∧ ∃ fr to : Nat, g 91 (12 * k + j) = (fr : Int) ∧ g 92 (12 * k + j) = (to : Int) ∧ fr ≤ to ∧ to ≤ 640 ∧ ∀ env, hM (g 93) (g 94) env (to - fr) fr [] = some (q.2 env)
def kmK (g : GG) (K : Nat → CUS) : Prop := ∀ k, k < 4 → KmIs g k (K k)
theorem kmK_cong {g g' : GG} {K : Nat → CUS} (h : ∀ c, 89 ≤ c → c ≤ 94 → g' c = g c) (hK : kmK g K) : kmK g' K := by
  intro k hk
  have := hK k hk
  unfold KmIs at this ⊢
  rw [h 89 (by omega) (by omega), h 90 (by omega) (by omega), h 91 (by omega) (by omega), h 92 (by omega) (by omega), h 93 (by omega) (by omega), h 94 (by omega) (by omega)]
  exact this
def toldS (s : VW) (c : Nat) (l : List Nat) (k q : Nat) : Int := if q < 4 then s 7 (c * 4 + q) else if q = 4 then s 3 c else if q = 5 then s 4 c else if q = 6 then s 12 (l.getD k 0) else ddN s (l.getD k 0) (l.take k)
theorem FamM_cong {g g' : GG} {l : List Nat} (h2 : g' 74 46 = g 74 46) (h3 : g' 101 = g 101) (h : FamM g l) : FamM g' l := ⟨by rw [h2]; exact h.1, by rw [h3]; exact h.2⟩
theorem mem_drop {l : List Nat} {k m a : Nat} (hk : k ≤ l.length) : a ∈ (l.take k).drop m ↔ ∃ t, m ≤ t ∧ t < k ∧ l.getD t 0 = a := by
  constructor
  · intro h
    obtain ⟨j, hj⟩ := List.getElem?_of_mem h
    rw [List.getElem?_drop] at hj
    have hlt := (List.getElem?_eq_some_iff.mp hj).1
    rw [List.length_take] at hlt
    rw [List.getElem?_take_of_lt (by omega)] at hj
    exact ⟨m + j, by omega, by omega, by rw [List.getD_eq_getElem?_getD, hj]; rfl⟩
  · rintro ⟨t, h1, h2, rfl⟩
    refine List.mem_of_getElem? (i := t - m) ?_
    rw [List.getElem?_drop, show m + (t - m) = t by omega, List.getElem?_take_of_lt h2, List.getElem?_eq_getElem (by omega), List.getD_eq_getElem?_getD, List.getElem?_eq_getElem (by omega)]
    rfl
theorem take_rev {l : List Nat} {m : Nat} (hm : m < l.length) : (l.take (m + 1)).reverse = l.getD m 0 :: (l.take m).reverse := by
  rw [List.take_add_one, List.getElem?_eq_getElem hm, List.reverse_append, List.getD_eq_getElem?_getD, List.getElem?_eq_getElem hm]
  rfl
theorem drop_one {l : List Nat} {k m : Nat} (hk : k ≤ l.length) (hm : m < k) : (l.take k).drop m = l.getD m 0 :: (l.take k).drop (m + 1) := by
  rw [List.drop_eq_getElem_cons (by rw [List.length_take]; omega), List.getElem_take, List.getD_eq_getElem?_getD, List.getElem?_eq_getElem (by omega)]
  rfl
section MLET
variable {g z : GG} {r : RR}
theorem m_parentBy (t : Int) : CT (mX12_parentBy (rmD 0 0 0)) 0 0 shW [vI t] g z r (qP shW g z r (some (vI (pbM t)))) := by
  refine CT.of 0 rfl rfl ?_
  refine R_iload_n dX12_parentBy_0 rfl ?_
  refine R_bipush dX12_parentBy_1 rfl (by decide +kernel) ?_
  refine R_icmp_ne 10 dX12_parentBy_3 (by decide) (fun hc3 => ?_) (fun hc3 => ?_)
  · refine R_iload_n dX12_parentBy_10 rfl ?_
    refine R_bipush dX12_parentBy_11 rfl (by decide +kernel) ?_
    refine R_icmp_ne 20 dX12_parentBy_13 (by decide) (fun hc13 => ?_) (fun hc13 => ?_)
    · refine R_iload_n dX12_parentBy_20 rfl ?_
      refine R_bipush dX12_parentBy_21 rfl (by decide +kernel) ?_
      refine R_icmp_ne 30 dX12_parentBy_23 (by decide) (fun hc23 => ?_) (fun hc23 => ?_)
      · refine R_iload_n dX12_parentBy_30 rfl ?_
        refine R_bipush dX12_parentBy_31 rfl (by decide +kernel) ?_
        refine R_icmp_ne 40 dX12_parentBy_33 (by decide) (fun hc33 => ?_) (fun hc33 => ?_)
        · refine R_iconst dX12_parentBy_40 rfl rfl ?_
          refine R_ireturn rfl (by first | rfl | exact nar_b2i | exact nar_bi) (by decide) (by decide) dX12_parentBy_41 ?_
          exact ⟨by unfold pbM; simp [*], rfl, rfl, rfl, rfl⟩
        · refine R_iconst dX12_parentBy_36 rfl rfl ?_
          refine R_goto 41 dX12_parentBy_37 (by decide) ?_
          refine R_ireturn rfl (by first | rfl | exact nar_b2i | exact nar_bi) (by decide) (by decide) dX12_parentBy_41 ?_
          exact ⟨by unfold pbM; simp [*], rfl, rfl, rfl, rfl⟩
      · refine R_iconst dX12_parentBy_26 rfl rfl ?_
        refine R_goto 41 dX12_parentBy_27 (by decide) ?_
        refine R_ireturn rfl (by first | rfl | exact nar_b2i | exact nar_bi) (by decide) (by decide) dX12_parentBy_41 ?_
        exact ⟨by unfold pbM; simp [*], rfl, rfl, rfl, rfl⟩
    · refine R_iconst dX12_parentBy_16 rfl rfl ?_
      refine R_goto 41 dX12_parentBy_17 (by decide) ?_
      refine R_ireturn rfl (by first | rfl | exact nar_b2i | exact nar_bi) (by decide) (by decide) dX12_parentBy_41 ?_
      exact ⟨by unfold pbM; simp [*], rfl, rfl, rfl, rfl⟩
  · refine R_iconst dX12_parentBy_6 rfl rfl ?_
    refine R_goto 41 dX12_parentBy_7 (by decide) ?_
    refine R_ireturn rfl (by first | rfl | exact nar_b2i | exact nar_bi) (by decide) (by decide) dX12_parentBy_41 ?_
    exact ⟨by unfold pbM; simp [*], rfl, rfl, rfl, rfl⟩
theorem m_deadOf (hr : RS r) (hB : BM g) (l : List Nat) (hl : FamM g l) (hm : ∀ a ∈ l, a < 10) (hll : l.length ≤ 10) (k : Nat) (hk : k < l.length) : CT (mX12_deadOf (rmD 1 0 0)) 0 0 shW [vR (some 74), vI (k : Int)] g z r (qP shW g z r (some (vI (oI (dd (vM g) (l.getD k 0) (l.take k).reverse []))))) := by
  refine CT.of 4 rfl rfl ?_
  generalize hX : dd (vM g) (l.getD k 0) (l.take k).reverse [] = X
  generalize hQ : (qP shW g z r (some (vI (oI X)))) = Q
  have hi10 := hm _ (getD_mem hk)
  have hgk := famM_at hl hk
  have hnk := hB.2.1 (l.getD k 0)
  have hsx : ∀ i, sx (vM g) i = g 76 (g 83 i).toNat := fun _ => rfl
  have outer : ∀ (m : Nat) (a3 a4 a5 : Option AV), m ≤ k → dd (vM g) (l.getD k 0) (l.take m).reverse ((l.take k).drop m) = X → RJ (mX12_deadOf (rmD 1 0 0)) 0 0 shW.length Q 0 0 shW 4 [some (vR (some 74)), some (vI (k : Int)), some (vI ((m : Int) - 1)), a3, a4, a5] [] g z r := by
    intro m
    induction m with
    | zero =>
      intro a3 a4 a5 hm0 hx
      rw [List.take_zero, List.reverse_nil, dd] at hx
      refine R_iload_n dX12_deadOf_4 rfl ?_
      refine R_if_lt 133 dX12_deadOf_5 (by decide) (fun hc5 => ?_) (fun hc5 => ?_)
      · refine R_iconst dX12_deadOf_133 rfl rfl ?_
        refine R_ireturn rfl (by first | rfl | exact nar_b2i | exact nar_bi) (by decide) (by decide) dX12_deadOf_134 ?_
        rw [← hQ, ← hx]
        exact ⟨rfl, rfl, rfl, rfl, rfl⟩
      · exact absurd (by omega) hc5
    | succ m ih =>
      intro a3 a4 a5 hm0 hx
      have hml : m < l.length := by omega
      have hj10 := hm _ (getD_mem hml)
      have hgj := famM_at hl hml
      have hnj := hB.2.1 (l.getD m 0)
      rw [take_rev hml, dd, ← drop_one (by omega) (by omega)] at hx
      have next : ∀ (a3 a4 a5 : Option AV), (decide (sx (vM g) (l.getD m 0) = sx (vM g) (l.getD k 0)) && isGone (vM g) (l.getD m 0) ((vM g) 9 (l.getD k 0)) && ((l.take k).drop (m + 1)).all (fun e => decide ((vM g) 8 e ≠ (vM g) 8 (l.getD m 0)))) = false → RJ (mX12_deadOf (rmD 1 0 0)) 0 0 shW.length Q 0 0 shW 127 [some (vR (some 74)), some (vI (k : Int)), some (vI (m : Int)), a3, a4, a5] [] g z r := by
        intro a3 a4 a5 hf
        rw [if_neg (by rw [hf]; simp)] at hx
        refine R_iincN dX12_deadOf_127 rfl (by decide) rfl (by unfold inI; omega) [_, _, _, _, _, _] rfl ?_
        refine R_goto 4 dX12_deadOf_130 (by decide) ?_
        rw [show (m : Int) + -1 = (m : Int) - 1 by omega]
        exact ih _ _ _ (by omega) hx
      have inner : sx (vM g) (l.getD m 0) = sx (vM g) (l.getD k 0) → isGone (vM g) (l.getD m 0) ((vM g) 9 (l.getD k 0)) = true → ∀ (n t : Nat) (b : Bool), t + n = k → m < t → (b = true ↔ ∀ t', m < t' → t' < t → (vM g) 8 (l.getD t' 0) ≠ (vM g) 8 (l.getD m 0)) → RJ (mX12_deadOf (rmD 1 0 0)) 0 0 shW.length Q 0 0 shW 75 [some (vR (some 74)), some (vI ((k : Int))), some (vI ((m : Int))), some (vI (((l.getD m 0 : Nat) : Int))), some (vI (bi b)), some (vI ((t : Int)))] [] g z r := by
        intro hsame hgone n
        induction n with
        | zero =>
          intro t b ht hmt hb
          obtain rfl : t = k := by omega
          have hall : ((l.take t).drop (m + 1)).all (fun e => decide ((vM g) 8 e ≠ (vM g) 8 (l.getD m 0))) = b := by
            rw [Bool.eq_iff_iff, hb, List.all_eq_true]
            constructor
            · intro h t' h1 h2
              have := h _ ((mem_drop (by omega)).mpr ⟨t', by omega, h2, rfl⟩)
              rwa [decide_eq_true_eq] at this
            · intro h e he
              obtain ⟨t', h1, h2, rfl⟩ := (mem_drop (by omega)).mp he
              rw [decide_eq_true_eq]
              exact h t' (by omega) h2
          refine R_iload dX12_deadOf_75 rfl ?_
          refine R_iload_n dX12_deadOf_77 rfl ?_
          refine R_icmp_ge 120 dX12_deadOf_78 (by decide) (fun hc78 => ?_) (fun hc78 => ?_)
          · cases b with
            | true =>
              refine R_iload dX12_deadOf_120 rfl ?_
              refine R_if_eq 127 dX12_deadOf_122 (by decide) (fun hc122 => ?_) (fun hc122 => ?_)
              · exact absurd hc122 (by decide)
              rw [hall, hgone, decide_eq_true hsame, Bool.true_and, Bool.true_and, if_pos rfl] at hx
              refine R_iload_n dX12_deadOf_125 rfl ?_
              refine R_ireturn rfl (by first | rfl | exact nar_b2i | exact nar_bi) (by decide) (by decide) dX12_deadOf_126 ?_
              rw [← hQ, ← hx]
              exact ⟨rfl, rfl, rfl, rfl, rfl⟩
            | false =>
              refine R_iload dX12_deadOf_120 rfl ?_
              refine R_if_eq 127 dX12_deadOf_122 (by decide) (fun hc122 => ?_) (fun hc122 => ?_)
              · exact next _ _ _ (by rw [hall, Bool.and_false])
              · exact absurd rfl hc122
          · exact absurd (by omega) hc78
        | succ n ihn =>
          intro t b ht hmt hb
          have htl : t < l.length := by omega
          have ht10 := hm _ (getD_mem htl)
          have hgt := famM_at hl htl
          have hs8 : ∀ i, (vM g) 8 i = g 83 i := fun _ => rfl
          refine R_iload dX12_deadOf_75 rfl ?_
          refine R_iload_n dX12_deadOf_77 rfl ?_
          refine R_icmp_ge 120 dX12_deadOf_78 (by decide) (fun hc78 => ?_) (fun hc78 => ?_)
          · exact absurd hc78 (by omega)
          cases b with
          | false =>
            refine R_iload dX12_deadOf_81 rfl ?_
            refine R_if_eq 111 dX12_deadOf_83 (by decide) (fun hc83 => ?_) (fun hc83 => ?_)
            · refine R_iconst dX12_deadOf_111 rfl rfl ?_
              refine R_istore dX12_deadOf_112 (by decide) rfl [_, _, _, _, _, _] rfl ?_
              refine R_iincN dX12_deadOf_114 rfl (by decide) rfl (by unfold inI; omega) [_, _, _, _, _, _] rfl ?_
              refine R_goto 75 dX12_deadOf_117 (by decide) ?_
              refine ihn (t + 1) false (by omega) (by omega) ⟨fun q => (by cases q), fun q => hb.mpr (fun t' a b => q t' a (by omega))⟩
            · exact absurd rfl hc83
          | true =>
            refine R_iload dX12_deadOf_81 rfl ?_
            refine R_if_eq 111 dX12_deadOf_83 (by decide) (fun hc83 => ?_) (fun hc83 => ?_)
            · exact absurd hc83 (by decide)
            refine R_aload_n dX12_deadOf_86 rfl ?_
            refine R_getR _ (hr _ _ _ rfl) fd12_17 kf12_51 rfl dX12_deadOf_87 ?_
            refine R_aload_n dX12_deadOf_90 rfl ?_
            refine R_getR _ (hr _ _ _ rfl) fd12_47 kf12_105 rfl dX12_deadOf_91 ?_
            refine R_iload dX12_deadOf_94 rfl ?_
            refine R_iald rfl (by omega) (by omega) dX12_deadOf_96 ?_
            rw [Int.toNat_natCast, hgt]
            refine R_iald rfl (by omega) (by omega) dX12_deadOf_97 ?_
            rw [Int.toNat_natCast]
            refine R_aload_n dX12_deadOf_98 rfl ?_
            refine R_getR _ (hr _ _ _ rfl) fd12_17 kf12_51 rfl dX12_deadOf_99 ?_
            refine R_iload_n dX12_deadOf_102 rfl ?_
            refine R_iald rfl (by omega) (by omega) dX12_deadOf_103 ?_
            rw [Int.toNat_natCast]
            refine R_icmp_eq 111 dX12_deadOf_104 (by decide) (fun hc104 => ?_) (fun hc104 => ?_)
            · refine R_iconst dX12_deadOf_111 rfl rfl ?_
              refine R_istore dX12_deadOf_112 (by decide) rfl [_, _, _, _, _, _] rfl ?_
              refine R_iincN dX12_deadOf_114 rfl (by decide) rfl (by unfold inI; omega) [_, _, _, _, _, _] rfl ?_
              refine R_goto 75 dX12_deadOf_117 (by decide) ?_
              refine ihn (t + 1) false (by omega) (by omega) ⟨fun q => (by cases q), fun q => absurd (q t (by omega) (by omega)) (by rw [hs8, hs8]; exact fun q => q hc104)⟩
            · refine R_iconst dX12_deadOf_107 rfl rfl ?_
              refine R_goto 112 dX12_deadOf_108 (by decide) ?_
              refine R_istore dX12_deadOf_112 (by decide) rfl [_, _, _, _, _, _] rfl ?_
              refine R_iincN dX12_deadOf_114 rfl (by decide) rfl (by unfold inI; omega) [_, _, _, _, _, _] rfl ?_
              refine R_goto 75 dX12_deadOf_117 (by decide) ?_
              refine ihn (t + 1) true (by omega) (by omega) ⟨fun _ t' a b => ?_, fun _ => rfl⟩
              by_cases e : t' = t
              · subst e; rw [hs8, hs8]; exact hc104
              · exact hb.mp rfl t' a (by omega)
      refine R_iload_n dX12_deadOf_4 rfl ?_
      refine R_if_lt 133 dX12_deadOf_5 (by decide) (fun hc5 => ?_) (fun hc5 => ?_)
      · exact absurd hc5 (by omega)
      rw [show ((m + 1 : Nat) : Int) - 1 = (m : Int) by omega]
      refine R_aload_n dX12_deadOf_8 rfl ?_
      refine R_getR _ (hr _ _ _ rfl) fd12_47 kf12_105 rfl dX12_deadOf_9 ?_
      refine R_iload_n dX12_deadOf_12 rfl ?_
      refine R_iald rfl (by omega) (by omega) dX12_deadOf_13 ?_
      rw [Int.toNat_natCast, hgj]
      refine R_istore_n dX12_deadOf_14 (by decide) rfl [_, _, _, _, _, _] rfl ?_
      refine R_aload_n dX12_deadOf_15 rfl ?_
      refine R_getR _ (hr _ _ _ rfl) fd12_10 kf12_29 rfl dX12_deadOf_16 ?_
      refine R_aload_n dX12_deadOf_19 rfl ?_
      refine R_getR _ (hr _ _ _ rfl) fd12_17 kf12_51 rfl dX12_deadOf_20 ?_
      refine R_iload_n dX12_deadOf_23 rfl ?_
      refine R_iald rfl (by omega) (by omega) dX12_deadOf_24 ?_
      rw [Int.toNat_natCast]
      refine R_iald rfl (by omega) (by omega) dX12_deadOf_25 ?_
      refine R_aload_n dX12_deadOf_26 rfl ?_
      refine R_getR _ (hr _ _ _ rfl) fd12_10 kf12_29 rfl dX12_deadOf_27 ?_
      refine R_aload_n dX12_deadOf_30 rfl ?_
      refine R_getR _ (hr _ _ _ rfl) fd12_17 kf12_51 rfl dX12_deadOf_31 ?_
      refine R_aload_n dX12_deadOf_34 rfl ?_
      refine R_getR _ (hr _ _ _ rfl) fd12_47 kf12_105 rfl dX12_deadOf_35 ?_
      refine R_iload_n dX12_deadOf_38 rfl ?_
      refine R_iald rfl (by omega) (by omega) dX12_deadOf_39 ?_
      rw [Int.toNat_natCast, hgk]
      refine R_iald rfl (by omega) (by omega) dX12_deadOf_40 ?_
      rw [Int.toNat_natCast]
      refine R_iald rfl (by omega) (by omega) dX12_deadOf_41 ?_
      refine R_icmp_ne 127 dX12_deadOf_42 (by decide) (fun hc42 => ?_) (fun hc42 => ?_)
      · exact next _ _ _ (by rw [hsx, hsx, decide_eq_false hc42]; rfl)
      · refine R_aload_n dX12_deadOf_45 rfl ?_
        refine R_iload_n dX12_deadOf_46 rfl ?_
        refine R_aload_n dX12_deadOf_47 rfl ?_
        refine R_getR _ (hr _ _ _ rfl) fd12_18 kf12_54 rfl dX12_deadOf_48 ?_
        refine R_aload_n dX12_deadOf_51 rfl ?_
        refine R_getR _ (hr _ _ _ rfl) fd12_47 kf12_105 rfl dX12_deadOf_52 ?_
        refine R_iload_n dX12_deadOf_55 rfl ?_
        refine R_iald rfl (by omega) (by omega) dX12_deadOf_56 ?_
        rw [Int.toNat_natCast, hgk]
        refine R_iald rfl (by omega) (by omega) dX12_deadOf_57 ?_
        rw [Int.toNat_natCast]
        refine R_callV (m_isGone hr ((l.getD m 0 : Nat) : Int) (g 84 (l.getD k 0)) (by omega)) (mvX12_isGone _) kiX12_isGone kvX12_isGone km12_333 rfl rfl (by decide) ⟨rfl, rfl, by decide, by decide⟩ (Nat.le_of_ble_eq_true rfl) dX12_deadOf_58 (fun v1 sh1 g1 z1 r1 hq => ?_)
        obtain ⟨rfl, rfl, rfl, rfl, rfl⟩ := hq
        rw [Int.toNat_natCast]
        by_cases hg : isGone (vM g) (l.getD m 0) (g 84 (l.getD k 0)) = true
        · rw [bi_t hg]
          refine R_if_ne 67 dX12_deadOf_61 (by decide) (fun hc61 => ?_) (fun hc61 => ?_)
          · refine R_iconst dX12_deadOf_67 rfl rfl ?_
            refine R_istore dX12_deadOf_68 (by decide) rfl [_, _, _, _, _, _] rfl ?_
            refine R_iload_n dX12_deadOf_70 rfl ?_
            refine R_iconst dX12_deadOf_71 rfl rfl ?_
            refine R_iaddN dX12_deadOf_72 (by unfold inI; omega) ?_
            refine R_istore dX12_deadOf_73 (by decide) rfl [_, _, _, _, _, _] rfl ?_
            rw [show (m : Int) + 1 = ((m + 1 : Nat) : Int) by omega]
            exact inner hc42 hg (k - (m + 1)) (m + 1) true (by omega) (by omega) ⟨fun _ t' a b => by omega, fun _ => rfl⟩
          · exact absurd hc61 (by decide)
        · rw [bi_f hg]
          refine R_if_ne 67 dX12_deadOf_61 (by decide) (fun hc61 => ?_) (fun hc61 => ?_)
          · exact absurd rfl hc61
          · refine R_goto 127 dX12_deadOf_64 (by decide) ?_
            exact next _ _ _ (by
              have : isGone (vM g) (l.getD m 0) ((vM g) 9 (l.getD k 0)) = false := Bool.eq_false_iff.mpr hg
              rw [this, Bool.and_false, Bool.false_and])
  refine R_iload_n dX12_deadOf_0 rfl ?_
  refine R_iconst dX12_deadOf_1 rfl rfl ?_
  refine R_isubN dX12_deadOf_2 (by unfold inI; omega) ?_
  refine R_istore_n dX12_deadOf_3 (by decide) rfl [_, _, _, _, _, _] rfl ?_
  exact outer k none none none (by omega) (by rw [List.drop_of_length_le (by rw [List.length_take]; omega)]; exact hX)
end MLET
