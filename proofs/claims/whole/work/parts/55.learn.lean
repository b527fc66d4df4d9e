abbrev LST : Type := Int × Int × Int × Int
def sumY (s : VW) (K : Nat → CUS) (S : Nat → Nat) (p : Nat) (y : Int) : Int := wpS s K ((p / 4 : Nat) : Int) ((p % 4 : Nat) : Int) y S
/-- the best so far over n YEARS from 'from' on -/
def lrY (s : VW) (K : Nat → CUS) (S : Nat → Nat) (fr : Int) (p : Nat) : Nat → LST → LST
  | 0, st => st
  | n + 1, st => if (lrY s K S fr p n st).1 < sumY s K S p (fr + (n : Int)) then (sumY s K S p (fr + (n : Int)), ((p / 4 : Nat) : Int), ((p % 4 : Nat) : Int), fr + (n : Int)) else lrY s K S fr p n st
/-- over the first p pairs of CUSTOMS -/
def lrP (s : VW) (K : Nat → CUS) (S : Nat → Nat) (fr to : Int) : Nat → LST
  | 0 => (-1000000, -1, -1, -1)
  | p + 1 => if 0 < (K (p / 4)).length ∧ 0 < (K (p % 4)).length then lrY s K S fr p (to - fr + 1).toNat (lrP s K S fr to p) else lrP s K S fr to p
theorem lrY_ge {s : VW} {K : Nat → CUS} {S : Nat → Nat} {fr : Int} {p n : Nat} {st : LST} : sumY s K S p (fr + (n : Int)) ≤ (lrY s K S fr p (n + 1) st).1 := by
  unfold lrY
  split
  · exact Int.le_refl _
  · omega
theorem ptU_cong {s : VW} {L L' : Nat → Int} {c : Nat} {l : List Nat} (h : ∀ j, j < l.length → L j = L' j) : ∀ k, k ≤ l.length → ptU s L c l k = ptU s L' c l k := by
  intro k
  induction k with
  | zero => intro _; rfl
  | succ k ih =>
    intro hk
    have hd : duS s L c l k = duS s L' c l k := by
      unfold duS heS
      rw [h k (by omega), nfS_cong h]
    unfold ptU
    rw [ih (by omega), hd]
theorem ptS_year {s : VW} {K : Nat → CUS} {a b y : Int} {c : Nat} {l : List Nat} (h : ∀ i ∈ l, s 9 i ≠ y - 1) : ptS s K a b y c l = ptS s K a b (y - 1) c l := by
  unfold ptS
  refine ptU_cong (fun j hj => ?_) _ (Nat.le_refl _)
  have hi := h _ (getD_mem hj)
  unfold ltS
  have : selK K a b y (s 9 (l.getD j 0)) = selK K a b (y - 1) (s 9 (l.getD j 0)) := by
    unfold selK
    by_cases q : s 9 (l.getD j 0) < y
    · have q2 : s 9 (l.getD j 0) < y - 1 := by omega
      simp only [q, q2, if_true]
    · have q2 : ¬ s 9 (l.getD j 0) < y - 1 := by omega
      simp only [q, q2, if_false]
  rw [this]
theorem wpS_year {s : VW} {K : Nat → CUS} {a b y : Int} {S : Nat → Nat} (h : ∀ i, i < (s 0 2).toNat → s 9 i ≠ y - 1) : wpS s K a b y S = wpS s K a b (y - 1) S := by
  have aux : ∀ n, wpU s K a b y S n = wpU s K a b (y - 1) S n := by
    intro n
    induction n with
    | zero => rfl
    | succ n ih =>
      unfold wpU
      rw [ih]
      cases hf : fam s n (S n) with
      | none => rfl
      | some l => simp only; rw [ptS_year (fun i hi => h i (fam_mem hf i hi))]
  unfold wpS
  rw [aux]
def EC (g g' : GG) : Prop := ∀ c', ¬ stc c' → c' ≤ 30 ∨ 39 ≤ c' → g' c' = g c'
theorem EC.rfl {g : GG} : EC g g := fun _ _ _ => Eq.refl _
theorem EC.trans {g g1 g2 : GG} (h1 : EC g g1) (h2 : EC g1 g2) : EC g g2 := fun c' a b => (h2 c' a b).trans (h1 c' a b)
theorem SC.ec {g g' : GG} (h : SC g g') : EC g g' := fun c' a b => h c' a (by omega)
theorem EC.dc {g g' : GG} (h : EC g g') : DC g g' := fun c' a b => h c' a (by omega)
section LEARN
variable {g z : GG} {r : RR}
theorem nCl_len {K : Nat → CUS} (hK : ciK g r K) (k : Nat) (hk : k < 4) : nCl g r (k : Int) = ((K k).length : Int) := by
  unfold nCl
  rw [if_pos (by omega), Int.toNat_natCast]
  exact (hK k hk).1
theorem c_X7_learn (K : Nat → CUS) (H : FP g r K) (hA : 0 ≤ g 1 4 ∧ g 1 4 ≤ 1000) (S : Nat → Nat) (hS : ∀ c, c ≤ 6 → g 40 c = (S c : Int)) (hS2 : ∀ c, c ≤ 6 → S c < 1024) (hfam : ∀ c : Nat, (c : Int) < g 5 5 → ∃ l, fam (vC g) c (S c) = some l) (fr to : Int) (hft : 0 ≤ fr ∧ fr ≤ to ∧ to ≤ 300) : CT (mX7_learn (rmD 7 0 0)) 0 0 shW [vR (some 39), vR (some 31), vI fr, vI to] g z r (qG shW z r fun v g' => v = some (vI (lrP (vC g) K S fr to 16).1) ∧ EC g g' ∧ g' 31 1 = (lrP (vC g) K S fr to 16).2.1 ∧ g' 31 2 = (lrP (vC g) K S fr to 16).2.2.1 ∧ g' 31 3 = (lrP (vC g) K S fr to 16).2.2.2) := by
  obtain ⟨hr, hT, hB, hB2, hN, hC5, hF, ho, hK⟩ := id H
  refine CT.of 10 rfl rfl ?_
  generalize hQ : (qG shW z r fun v g' => v = some (vI (lrP (vC g) K S fr to 16).1) ∧ EC g g' ∧ g' 31 1 = (lrP (vC g) K S fr to 16).2.1 ∧ g' 31 2 = (lrP (vC g) K S fr to 16).2.2.1 ∧ g' 31 3 = (lrP (vC g) K S fr to 16).2.2.2) = Q
  have inner : ∀ (p : Nat), p < 16 → ∀ (st0 : LST), (∀ (g' : GG) (a12 a13 : Option AV), EC g g' → RJ (mX7_learn (rmD 7 0 0)) 0 0 shW.length Q 0 0 shW 141 [some (vR (some 39)), some (vR (some 31)), some (vI fr), some (vI to), some (vI (lrY (vC g) K S fr p (to - fr + 1).toNat st0).1), some (vI (lrY (vC g) K S fr p (to - fr + 1).toNat st0).2.1), some (vI (lrY (vC g) K S fr p (to - fr + 1).toNat st0).2.2.1), some (vI (lrY (vC g) K S fr p (to - fr + 1).toNat st0).2.2.2), some (vI (p : Int)), some (vI ((p / 4 : Nat) : Int)), some (vI ((p % 4 : Nat) : Int)), some (vI 1), a12, a13] [] g' z r) → ∀ (m n : Nat) (g' : GG) (a13 : Option AV), (n : Int) + m = to - fr + 1 → EC g g' → RJ (mX7_learn (rmD 7 0 0)) 0 0 shW.length Q 0 0 shW 63 [some (vR (some 39)), some (vR (some 31)), some (vI fr), some (vI to), some (vI (lrY (vC g) K S fr p n st0).1), some (vI (lrY (vC g) K S fr p n st0).2.1), some (vI (lrY (vC g) K S fr p n st0).2.2.1), some (vI (lrY (vC g) K S fr p n st0).2.2.2), some (vI (p : Int)), some (vI ((p / 4 : Nat) : Int)), some (vI ((p % 4 : Nat) : Int)), some (vI 1), some (vI (fr + (n : Int))), a13] [] g' z r := by
    intro p hp st0 hk m
    induction m with
    | zero =>
      intro n g' a13 hn s1
      refine R_iload dX7_learn_63 rfl ?_
      refine R_if_eq 141 dX7_learn_65 (by decide) (fun hc65 => ?_) (fun hc65 => ?_)
      · exact absurd hc65 (by decide)
      refine R_iload dX7_learn_68 rfl ?_
      refine R_iload_n dX7_learn_70 rfl ?_
      refine R_icmp_gt 141 dX7_learn_71 (by decide) (fun hc71 => ?_) (fun hc71 => ?_)
      · have := hk g' (some (vI (fr + (n : Int)))) a13 s1
        rw [show (to - fr + 1).toNat = n by omega] at this
        exact this
      · exact absurd (by omega) hc71
    | succ m ih =>
      intro n g' a13 hn s1
      have hn1 := fun g' a13 s1 => ih (n + 1) g' a13 (by omega) s1
      rw [lrY] at hn1
      have e13 : g' 13 = g 13 := s1 13 (by unfold stc; omega) (by omega)
      have e11 : g' 11 = g 11 := s1 11 (by unfold stc; omega) (by omega)
      have e1 : g' 1 = g 1 := s1 1 (by unfold stc; omega) (by omega)
      have e5 : g' 5 = g 5 := s1 5 (by unfold stc; omega) (by omega)
      have e40 : g' 40 = g 40 := s1 40 (by unfold stc; omega) (by omega)
      have go : RJ (mX7_learn (rmD 7 0 0)) 0 0 shW.length Q 0 0 shW 95 [some (vR (some 39)), some (vR (some 31)), some (vI fr), some (vI to), some (vI (lrY (vC g) K S fr p n st0).1), some (vI (lrY (vC g) K S fr p n st0).2.1), some (vI (lrY (vC g) K S fr p n st0).2.2.1), some (vI (lrY (vC g) K S fr p n st0).2.2.2), some (vI (p : Int)), some (vI ((p / 4 : Nat) : Int)), some (vI ((p % 4 : Nat) : Int)), some (vI 1), some (vI (fr + (n : Int))), a13] [] g' z r := by
        refine R_aload_n dX7_learn_95 rfl ?_
        refine R_iload dX7_learn_96 rfl ?_
        refine R_iload dX7_learn_98 rfl ?_
        refine R_iload dX7_learn_100 rfl ?_
        refine R_callV (c_X9_tell 31 rfl ((p / 4 : Nat) : Int) ((p % 4 : Nat) : Int) (fr + (n : Int))) (mvX9_tell _) kiX9_tell kvX9_tell km7_91 rfl rfl (by decide) ⟨rfl, rfl, by decide, by decide⟩ (Nat.le_of_ble_eq_true rfl) dX7_learn_102 (fun v1 sh1 g1 z1 r1 hq => ?_)
        obtain ⟨⟨rfl, rfl⟩, rfl, rfl, rfl⟩ := hq
        have s2 : EC g (up2 (up2 (up2 g' 31 1 ((p / 4 : Nat) : Int)) 31 2 ((p % 4 : Nat) : Int)) 31 3 (fr + (n : Int))) := fun c' a b => by rw [up2_ne (by omega), up2_ne (by omega), up2_ne (by omega)]; exact s1 c' a b
        refine R_aload_n dX7_learn_105 rfl ?_
        refine R_aload_n dX7_learn_106 rfl ?_
        refine R_callV (c_X7_worthBy K (H.congD s2.dc) (by rw [s2 1 (by unfold stc; omega) (by omega)]; exact hA) S (fun c hc => by rw [s2 40 (by unfold stc; omega) (by omega)]; exact hS c hc) hS2 (fun c hc => by rw [s2.dc.vC]; rw [s2 5 (by unfold stc; omega) (by omega)] at hc; exact hfam c hc) 31 (Or.inr rfl)) (mvX7_worthBy _) kiX7_worthBy kvX7_worthBy km7_95 rfl rfl (by decide) ⟨rfl, rfl, by decide, by decide⟩ (Nat.le_of_ble_eq_true rfl) dX7_learn_107 (fun v1 sh1 g1 z1 r1 hq => ?_)
        obtain ⟨⟨rfl, s3⟩, rfl, rfl, rfl⟩ := hq
        have s4 := s2.trans s3.ec
        simp +decide only [up2_s, up2_kk]
        rw [s2.dc.vC]
        have esum : wpS (vC g) K ((p / 4 : Nat) : Int) ((p % 4 : Nat) : Int) (fr + (n : Int)) S = sumY (vC g) K S p (fr + (n : Int)) := rfl
        rw [esum]
        refine R_istore dX7_learn_110 (by decide) rfl [_, _, _, _, _, _, _, _, _, _, _, _, _, _] rfl ?_
        refine R_iload dX7_learn_112 rfl ?_
        refine R_iload dX7_learn_114 rfl ?_
        refine R_icmp_le 135 dX7_learn_116 (by decide) (fun hc116 => ?_) (fun hc116 => ?_)
        · rw [if_neg (by omega)] at hn1
          refine R_iincN dX7_learn_135 rfl (by decide) rfl (by unfold inI; omega) [_, _, _, _, _, _, _, _, _, _, _, _, _, _] rfl ?_
          refine R_goto 63 dX7_learn_138 (by decide) ?_
          rw [show fr + (n : Int) + 1 = fr + ((n + 1 : Nat) : Int) by omega]
          exact hn1 _ _ s4
        · rw [if_pos (by omega)] at hn1
          refine R_iload dX7_learn_119 rfl ?_
          refine R_istore dX7_learn_121 (by decide) rfl [_, _, _, _, _, _, _, _, _, _, _, _, _, _] rfl ?_
          refine R_iload dX7_learn_123 rfl ?_
          refine R_istore dX7_learn_125 (by decide) rfl [_, _, _, _, _, _, _, _, _, _, _, _, _, _] rfl ?_
          refine R_iload dX7_learn_127 rfl ?_
          refine R_istore dX7_learn_129 (by decide) rfl [_, _, _, _, _, _, _, _, _, _, _, _, _, _] rfl ?_
          refine R_iload dX7_learn_131 rfl ?_
          refine R_istore dX7_learn_133 (by decide) rfl [_, _, _, _, _, _, _, _, _, _, _, _, _, _] rfl ?_
          refine R_iincN dX7_learn_135 rfl (by decide) rfl (by unfold inI; omega) [_, _, _, _, _, _, _, _, _, _, _, _, _, _] rfl ?_
          refine R_goto 63 dX7_learn_138 (by decide) ?_
          rw [show fr + (n : Int) + 1 = fr + ((n + 1 : Nat) : Int) by omega]
          exact hn1 _ _ s4
      refine R_iload dX7_learn_63 rfl ?_
      refine R_if_eq 141 dX7_learn_65 (by decide) (fun hc65 => ?_) (fun hc65 => ?_)
      · exact absurd hc65 (by decide)
      refine R_iload dX7_learn_68 rfl ?_
      refine R_iload_n dX7_learn_70 rfl ?_
      refine R_icmp_gt 141 dX7_learn_71 (by decide) (fun hc71 => ?_) (fun hc71 => ?_)
      · exact absurd hc71 (by omega)
      refine R_iload dX7_learn_74 rfl ?_
      refine R_iload_n dX7_learn_76 rfl ?_
      refine R_icmp_eq 95 dX7_learn_77 (by decide) (fun hc77 => ?_) (fun hc77 => ?_)
      · exact go
      · refine R_aload_n dX7_learn_80 rfl ?_
        refine R_getR _ (hr _ _ _ rfl) fd7_0 kf7_15 rfl dX7_learn_81 ?_
        refine R_getR _ (hr _ _ _ rfl) fd0_2 kf7_23 rfl dX7_learn_84 ?_
        refine R_iload dX7_learn_87 rfl ?_
        refine R_callV (c_X4_changesAt hr (by rw [e11]; exact hF) (fr + (n : Int)) (by omega)) (mvX4_changesAt _) kiX4_changesAt kvX4_changesAt km7_88 rfl rfl (by decide) ⟨rfl, rfl, by decide, by decide⟩ (Nat.le_of_ble_eq_true rfl) dX7_learn_89 (fun v1 sh1 g1 z1 r1 hq => ?_)
        obtain ⟨⟨rfl, o1⟩, rfl, rfl, rfl⟩ := hq
        rw [e11, e13] at o1
        rcases o1 with ⟨rfl, -⟩ | ⟨rfl, hno⟩
        · refine R_if_eq 135 dX7_learn_92 (by decide) (fun hc92 => ?_) (fun hc92 => ?_)
          · exact absurd hc92 (by decide)
          · exact go
        · refine R_if_eq 135 dX7_learn_92 (by decide) (fun hc92 => ?_) (fun hc92 => ?_)
          · obtain ⟨n', rfl⟩ : ∃ n', n = n' + 1 := ⟨n - 1, by omega⟩
            have heq : sumY (vC g) K S p (fr + ((n' + 1 : Nat) : Int)) = sumY (vC g) K S p (fr + (n' : Int)) := by
              unfold sumY
              rw [wpS_year (y := fr + ((n' + 1 : Nat) : Int)) (fun i hi => hno i (by have h2 : ((vC g) 0 2).toNat = (g 11 7).toNat := rfl; rw [h2] at hi; omega)), show fr + ((n' + 1 : Nat) : Int) - 1 = fr + (n' : Int) by omega]
            have hge := lrY_ge (s := vC g) (K := K) (S := S) (fr := fr) (p := p) (n := n') (st := st0)
            rw [if_neg (by rw [heq]; omega)] at hn1
            refine R_iincN dX7_learn_135 rfl (by decide) rfl (by unfold inI; omega) [_, _, _, _, _, _, _, _, _, _, _, _, _, _] rfl ?_
            refine R_goto 63 dX7_learn_138 (by decide) ?_
            rw [show fr + ((n' + 1 : Nat) : Int) + 1 = fr + ((n' + 1 + 1 : Nat) : Int) by omega]
            exact hn1 _ _ s1
          · exact absurd rfl hc92
  have outer : ∀ (m p : Nat) (g' : GG) (a9 a10 a11 a12 a13 : Option AV), p + m = 16 → EC g g' → RJ (mX7_learn (rmD 7 0 0)) 0 0 shW.length Q 0 0 shW 16 [some (vR (some 39)), some (vR (some 31)), some (vI fr), some (vI to), some (vI (lrP (vC g) K S fr to p).1), some (vI (lrP (vC g) K S fr to p).2.1), some (vI (lrP (vC g) K S fr to p).2.2.1), some (vI (lrP (vC g) K S fr to p).2.2.2), some (vI (p : Int)), a9, a10, a11, a12, a13] [] g' z r := by
    intro m
    induction m with
    | zero =>
      intro p g' a9 a10 a11 a12 a13 hp s1
      obtain rfl : p = 16 := by omega
      refine R_iload dX7_learn_16 rfl ?_
      refine R_bipush dX7_learn_18 rfl (by decide +kernel) ?_
      refine R_icmp_ge 147 dX7_learn_20 (by decide) (fun hc20 => ?_) (fun hc20 => ?_)
      · refine R_aload_n dX7_learn_147 rfl ?_
        refine R_iload dX7_learn_148 rfl ?_
        refine R_iload dX7_learn_150 rfl ?_
        refine R_iload dX7_learn_152 rfl ?_
        refine R_callV (c_X9_tell 31 rfl (lrP (vC g) K S fr to 16).2.1 (lrP (vC g) K S fr to 16).2.2.1 (lrP (vC g) K S fr to 16).2.2.2) (mvX9_tell _) kiX9_tell kvX9_tell km7_91 rfl rfl (by decide) ⟨rfl, rfl, by decide, by decide⟩ (Nat.le_of_ble_eq_true rfl) dX7_learn_154 (fun v1 sh1 g1 z1 r1 hq => ?_)
        obtain ⟨⟨rfl, rfl⟩, rfl, rfl, rfl⟩ := hq
        refine R_iload dX7_learn_157 rfl ?_
        refine R_ireturn rfl (by first | rfl | exact nar_b2i | exact nar_bi) (by decide) (by decide) dX7_learn_159 ?_
        rw [← hQ]
        exact ⟨⟨rfl, fun c' a b => by rw [up2_ne (by omega), up2_ne (by omega), up2_ne (by omega)]; exact s1 c' a b, by simp +decide only [up2_s, up2_kk], by simp +decide only [up2_s, up2_kk], by simp +decide only [up2_s, up2_kk]⟩, rfl, rfl, rfl⟩
      · exact absurd (by omega) hc20
    | succ m ih =>
      intro p g' a9 a10 a11 a12 a13 hp s1
      have hn1 := fun g' a9 a10 a11 a12 a13 s1 => ih (p + 1) g' a9 a10 a11 a12 a13 (by omega) s1
      rw [lrP] at hn1
      have hK' := (H.congD s1.dc).2.2.2.2.2.2.2.2
      have t1 := nCl_len hK' (p / 4) (by omega)
      have t2 := nCl_len hK' (p % 4) (by omega)
      have hru : r 31 0 = some 21 := hr _ _ _ rfl
      have skip : ∀ (a12 a13 : Option AV) (b11 : Int), RJ (mX7_learn (rmD 7 0 0)) 0 0 shW.length Q 0 0 shW 141 [some (vR (some 39)), some (vR (some 31)), some (vI fr), some (vI to), some (vI (lrP (vC g) K S fr to p).1), some (vI (lrP (vC g) K S fr to p).2.1), some (vI (lrP (vC g) K S fr to p).2.2.1), some (vI (lrP (vC g) K S fr to p).2.2.2), some (vI (p : Int)), some (vI ((p / 4 : Nat) : Int)), some (vI ((p % 4 : Nat) : Int)), some (vI b11), a12, a13] [] g' z r ∨ True := fun _ _ _ => Or.inr trivial
      refine R_iload dX7_learn_16 rfl ?_
      refine R_bipush dX7_learn_18 rfl (by decide +kernel) ?_
      refine R_icmp_ge 147 dX7_learn_20 (by decide) (fun hc20 => ?_) (fun hc20 => ?_)
      · exact absurd hc20 (by omega)
      refine R_iload dX7_learn_23 rfl ?_
      refine R_iconst dX7_learn_25 rfl rfl ?_
      refine R_idiv dX7_learn_26 (by decide) ?_
      rw [show bDiv (p : Int) 4 = ((p / 4 : Nat) : Int) from bDiv_n (m := p) (n := 4) (by omega) (by decide) (by decide)]
      refine R_istore dX7_learn_27 (by decide) rfl [_, _, _, _, _, _, _, _, _, _, _, _, _, _] rfl ?_
      refine R_iload dX7_learn_29 rfl ?_
      refine R_iconst dX7_learn_31 rfl rfl ?_
      refine R_irem dX7_learn_32 (by decide) ?_
      rw [show bRem (p : Int) 4 = ((p % 4 : Nat) : Int) from bRem_n (m := p) (n := 4) (by omega) (by decide) (by decide)]
      refine R_istore dX7_learn_33 (by decide) rfl [_, _, _, _, _, _, _, _, _, _, _, _, _, _] rfl ?_
      refine R_aload_n dX7_learn_35 rfl ?_
      refine R_iload dX7_learn_36 rfl ?_
      refine R_callV (c_X9_isTold hT 31 rfl hru ((p / 4 : Nat) : Int)) (mvX9_isTold _) kiX9_isTold kvX9_isTold km7_83 rfl rfl (by decide) ⟨rfl, rfl, by decide, by decide⟩ (Nat.le_of_ble_eq_true rfl) dX7_learn_38 (fun v1 sh1 g1 z1 r1 hq => ?_)
      obtain ⟨rfl, rfl, rfl, rfl, rfl⟩ := hq
      rw [t1]
      have none2 : ¬ (0 < (K (p / 4)).length ∧ 0 < (K (p % 4)).length) → RJ (mX7_learn (rmD 7 0 0)) 0 0 shW.length Q 0 0 shW 57 [some (vR (some 39)), some (vR (some 31)), some (vI fr), some (vI to), some (vI (lrP (vC g) K S fr to p).1), some (vI (lrP (vC g) K S fr to p).2.1), some (vI (lrP (vC g) K S fr to p).2.2.1), some (vI (lrP (vC g) K S fr to p).2.2.2), some (vI (p : Int)), some (vI ((p / 4 : Nat) : Int)), some (vI ((p % 4 : Nat) : Int)), a11, a12, a13] [] g' z r := by
        intro hno
        rw [if_neg hno] at hn1
        refine R_iconst dX7_learn_57 rfl rfl ?_
        refine R_istore dX7_learn_58 (by decide) rfl [_, _, _, _, _, _, _, _, _, _, _, _, _, _] rfl ?_
        refine R_iload_n dX7_learn_60 rfl ?_
        refine R_istore dX7_learn_61 (by decide) rfl [_, _, _, _, _, _, _, _, _, _, _, _, _, _] rfl ?_
        refine R_iload dX7_learn_63 rfl ?_
        refine R_if_eq 141 dX7_learn_65 (by decide) (fun hc65 => ?_) (fun hc65 => ?_)
        · refine R_iincN dX7_learn_141 rfl (by decide) rfl (by unfold inI; omega) [_, _, _, _, _, _, _, _, _, _, _, _, _, _] rfl ?_
          refine R_goto 16 dX7_learn_144 (by decide) ?_
          exact hn1 _ _ _ _ _ _ s1
        · exact absurd rfl hc65
      by_cases h1 : (0 : Int) < ((K (p / 4)).length : Int)
      · rw [b2i_t h1]
        refine R_if_eq 57 dX7_learn_41 (by decide) (fun hc41 => ?_) (fun hc41 => ?_)
        · exact absurd hc41 (by decide)
        refine R_aload_n dX7_learn_44 rfl ?_
        refine R_iload dX7_learn_45 rfl ?_
        refine R_callV (c_X9_isTold hT 31 rfl hru ((p % 4 : Nat) : Int)) (mvX9_isTold _) kiX9_isTold kvX9_isTold km7_83 rfl rfl (by decide) ⟨rfl, rfl, by decide, by decide⟩ (Nat.le_of_ble_eq_true rfl) dX7_learn_47 (fun v1 sh1 g1 z1 r1 hq => ?_)
        obtain ⟨rfl, rfl, rfl, rfl, rfl⟩ := hq
        rw [t2]
        by_cases h2 : (0 : Int) < ((K (p % 4)).length : Int)
        · rw [b2i_t h2]
          refine R_if_eq 57 dX7_learn_50 (by decide) (fun hc50 => ?_) (fun hc50 => ?_)
          · exact absurd hc50 (by decide)
          refine R_iconst dX7_learn_53 rfl rfl ?_
          refine R_goto 58 dX7_learn_54 (by decide) ?_
          refine R_istore dX7_learn_58 (by decide) rfl [_, _, _, _, _, _, _, _, _, _, _, _, _, _] rfl ?_
          refine R_iload_n dX7_learn_60 rfl ?_
          refine R_istore dX7_learn_61 (by decide) rfl [_, _, _, _, _, _, _, _, _, _, _, _, _, _] rfl ?_
          rw [if_pos ⟨by omega, by omega⟩] at hn1
          have := inner p (by omega) (lrP (vC g) K S fr to p) (fun g' a12 a13 s1 => by
            refine R_iincN dX7_learn_141 rfl (by decide) rfl (by unfold inI; omega) [_, _, _, _, _, _, _, _, _, _, _, _, _, _] rfl ?_
            refine R_goto 16 dX7_learn_144 (by decide) ?_
            exact hn1 _ _ _ _ _ _ s1) (to - fr + 1).toNat 0 g' a13 (by omega) s1
          rw [lrY, show fr + ((0 : Nat) : Int) = fr by omega] at this
          exact this
        · rw [b2i_f h2]
          refine R_if_eq 57 dX7_learn_50 (by decide) (fun hc50 => ?_) (fun hc50 => ?_)
          · exact none2 (by omega)
          · exact absurd rfl hc50
      · rw [b2i_f h1]
        refine R_if_eq 57 dX7_learn_41 (by decide) (fun hc41 => ?_) (fun hc41 => ?_)
        · exact none2 (by omega)
        · exact absurd rfl hc41
  refine R_ldcC (v := -1000000) kk7_82 (by decide +kernel) dX7_learn_0 (by decide) ?_
  refine R_istore dX7_learn_2 (by decide) rfl [_, _, _, _, _, _, _, _, _, _, _, _, _, _] rfl ?_
  refine R_iconst dX7_learn_4 rfl rfl ?_
  refine R_istore dX7_learn_5 (by decide) rfl [_, _, _, _, _, _, _, _, _, _, _, _, _, _] rfl ?_
  refine R_iconst dX7_learn_7 rfl rfl ?_
  refine R_istore dX7_learn_8 (by decide) rfl [_, _, _, _, _, _, _, _, _, _, _, _, _, _] rfl ?_
  refine R_iconst dX7_learn_10 rfl rfl ?_
  refine R_istore dX7_learn_11 (by decide) rfl [_, _, _, _, _, _, _, _, _, _, _, _, _, _] rfl ?_
  refine R_iconst dX7_learn_13 rfl rfl ?_
  refine R_istore dX7_learn_14 (by decide) rfl [_, _, _, _, _, _, _, _, _, _, _, _, _, _] rfl ?_
  exact outer 16 0 g none none none none none (by omega) EC.rfl
end LEARN
