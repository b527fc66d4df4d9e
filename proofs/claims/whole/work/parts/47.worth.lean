/-- what the FAMILY's methods rest on -/
def FP (g : GG) (r : RR) (K : Nat → CUS) : Prop := RS r ∧ TL r ∧ BD g ∧ BD2 g ∧ (0 ≤ g 2 2 ∧ g 2 2 ≤ 16) ∧ (0 ≤ g 5 5 ∧ g 5 5 ≤ 6) ∧ (0 ≤ g 11 7 ∧ g 11 7 ≤ 10) ∧ (∀ (j a : Nat), (ordL (g 13) (g 11 7).toNat)[j]? = some a → g 18 j = (a : Int)) ∧ ciK g r K
/-- nothing but the FAMILY's own cells and the CUSTOMS' stacks has changed -/
def SC (g g' : GG) : Prop := ∀ c', ¬ stc c' → c' ≤ 31 ∨ 39 ≤ c' → g' c' = g c'
theorem SC.rfl {g : GG} : SC g g := fun _ _ _ => Eq.refl _
theorem SC.trans {g g1 g2 : GG} (h1 : SC g g1) (h2 : SC g1 g2) : SC g g2 := fun c' a b => (h2 c' a b).trans (h1 c' a b)
theorem SC.vC {g g' : GG} (h : SC g g') : vC g' = vC g := vC_cong (fun c' h' => h c' (by unfold stc; unfold vcell at h'; omega) (by unfold vcell at h'; omega))
theorem FP.cong {g g' : GG} {r : RR} {K : Nat → CUS} (h : SC g g') (H : FP g r K) : FP g' r K := by
  obtain ⟨h1, h2, h3, h4, h5, h6, h7, h8, h9⟩ := H
  have hv : ∀ c', vcell c' → g' c' = g c' := fun c' h' => h c' (by unfold stc; unfold vcell at h'; omega) (by unfold vcell at h'; omega)
  refine ⟨h1, h2, BD_cong hv h3, ?_, ?_, ?_, ?_, ?_, fun k hk => CuIs_cong (h2 k hk).1 (fun c' a b => h c' a (by omega)) (h9 k hk)⟩
  · unfold BD2; rw [hv 4 (by unfold vcell; omega), hv 1 (by unfold vcell; omega)]; exact h4
  · rw [hv 2 (by unfold vcell; omega)]; exact h5
  · rw [hv 5 (by unfold vcell; omega)]; exact h6
  · rw [hv 11 (by unfold vcell; omega)]; exact h7
  · rw [hv 13 (by unfold vcell; omega), hv 11 (by unfold vcell; omega), h 18 (by unfold stc; omega) (by omega)]; exact h8
/-- the FAMILY stands gathered and asked -/
def Asked (g' : GG) (s : VW) (L : Nat → Int) (c : Nat) (l : List Nat) : Prop := FamIs g' l ∧ g' 32 7 = (c : Int) ∧ (∀ j, j < l.length → g' 34 j = L j ∧ g' 35 j = ddN s (l.getD j 0) (l.take j)) ∧ ∀ w, w < 4 → g' 36 w = heS s L c l w
theorem Asked.due {g' : GG} {s : VW} {L : Nat → Int} {c : Nat} {l : List Nat} (hv : vC g' = s) (h : Asked g' s L c l) {j : Nat} (hj : j < l.length) : dueG g' c l j = duS s L c l j := by
  obtain ⟨h1, h2, h3, h4⟩ := h
  have e1 : g' 6 c = s 3 c := by rw [← hv]; rfl
  have e2 : g' 7 c = s 4 c := by rw [← hv]; rfl
  have e3 : g' 16 (l.getD j 0) = s 12 (l.getD j 0) := by rw [← hv]; rfl
  unfold dueG duS
  rw [(h3 j hj).1, (h3 j hj).2, e1, e2, e3]
  by_cases q1 : L j < 0
  · rw [if_pos q1, if_pos q1]
  · rw [if_neg q1, if_neg q1]
    by_cases q2 : L j < 4
    · rw [if_pos q2, if_pos q2, h4 _ (by omega)]
    · rw [if_neg q2, if_neg q2]
section WORTH
variable {g z : GG} {r : RR}
theorem ptU_b {g : GG} (h : BD2 g) (L : Nat → Int) (c : Nat) (l : List Nat) (k : Nat) : -100 * (k : Int) ≤ ptU (vC g) L c l k ∧ ptU (vC g) L c l k ≤ 100 * (k : Int) := by
  induction k with
  | zero => simp [ptU]
  | succ k ih =>
    unfold ptU
    have := gainS_b h (l.getD k 0) (duS (vC g) L c l k)
    omega
theorem c_X3_worth (K : Nat → CUS) (H : FP g r K) (c set : Nat) (hc6 : (c : Int) < g 5 5) (hset : set < 1024) (u : Nat) (hu : u = 30 ∨ u = 31) : CT (mX3_worth (rmD 5 0 0)) 0 0 shW [vR (some 32), vI (c : Int), vI (set : Int), vR (some u)] g z r (qG shW z r fun v g' => SC g g' ∧ ((∃ l, fam (vC g) c set = some l ∧ v = some (vI (ptS (vC g) K (g u 1) (g u 2) (g u 3) c l)) ∧ Asked g' (vC g) (ltS (vC g) K (g u 1) (g u 2) (g u 3) c l) c l) ∨ (fam (vC g) c set = none ∧ v = some (vI (-1000000))))) := by
  obtain ⟨hr, hT, hB, hB2, hN, hC5, hF, ho, hK⟩ := id H
  refine CT.of 2 rfl rfl ?_
  generalize hQ : (qG shW z r fun v g' => SC g g' ∧ ((∃ l, fam (vC g) c set = some l ∧ v = some (vI (ptS (vC g) K (g u 1) (g u 2) (g u 3) c l)) ∧ Asked g' (vC g) (ltS (vC g) K (g u 1) (g u 2) (g u 3) c l) c l) ∨ (fam (vC g) c set = none ∧ v = some (vI (-1000000))))) = Q
  refine R_aload_n dX3_worth_0 rfl ?_
  refine R_iload_n dX3_worth_1 rfl ?_
  refine R_iload_n dX3_worth_2 rfl ?_
  refine R_callV (c_X3_gather hr hC5 hF ho (fun j _ => hB.1 j) c set (by omega) hset) (mvX3_gather _) kiX3_gather kvX3_gather km3_78 rfl rfl (by decide) ⟨rfl, rfl, by decide, by decide⟩ (Nat.le_of_ble_eq_true rfl) dX3_worth_3 (fun v1 sh1 g1 z1 r1 hq => ?_)
  obtain ⟨⟨o1, o2, o3⟩, rfl, rfl, rfl⟩ := hq
  have s1 : SC g g1 := fun c' a b => o1 c' (by omega) (by omega)
  rcases o3 with ⟨l, hfam, rfl, hl⟩ | ⟨hfam, rfl⟩
  · have hm : ∀ a ∈ l, a < 10 := fun a ha => by have h1 := fam_mem hfam a ha; have h2 : (vC g) 0 2 = g 11 7 := rfl; rw [h2] at h1; omega
    have hll : l.length ≤ 10 := by have h1 := fam_len hfam; have h2 : (vC g) 0 2 = g 11 7 := rfl; rw [h2] at h1; omega
    obtain ⟨-, -, hB', hB2', hN', hC5', hF', ho', hK'⟩ := H.cong s1
    have hus : shW[u]? = some (9, 4) := by rcases hu with rfl | rfl <;> rfl
    have eu : ∀ k, g1 u k = g u k := fun k => by rw [s1 u (by unfold stc; omega) (by omega)]
    have ev := s1.vC
    refine R_if_ne 12 dX3_worth_6 (by decide) (fun hx6 => ?_) (fun hx6 => ?_)
    · refine R_aload_n dX3_worth_12 rfl ?_
      refine R_aload_n dX3_worth_13 rfl ?_
      refine R_callV (c_X3_ask hr hT hB' hB2' hN' hC5' K hK' c (by rw [s1 5 (by unfold stc; omega) (by omega)]; exact hc6) o2.1 l hl hm hll u hu) (mvX3_ask _) kiX3_ask kvX3_ask km3_82 rfl rfl (by decide) ⟨rfl, rfl, by decide, by decide⟩ (Nat.le_of_ble_eq_true rfl) dX3_worth_14 (fun v1 sh1 g2 z1 r1 hq => ?_)
      obtain ⟨⟨rfl, p1, p2, p3⟩, rfl, rfl, rfl⟩ := hq
      rw [ev, eu, eu, eu] at p2 p3
      generalize hL : ltS (vC g) K (g u 1) (g u 2) (g u 3) c l = L at p2 p3
      have s2 : SC g g2 := fun c' a b => (p1 c' a (by omega)).trans (s1 c' a b)
      have ask : Asked g2 (vC g) L c l := ⟨FamIs_cong (by rw [p1 32 (by unfold stc; omega) (by omega)]) (p1 33 (by unfold stc; omega) (by omega)) hl, by rw [p1 32 (by unfold stc; omega) (by omega)]; exact o2.1, p2, p3⟩
      obtain ⟨-, -, qB, qB2, -, -, -, -, -⟩ := H.cong s2
      have loop : ∀ (n k : Nat), k + n = l.length → RJ (mX3_worth (rmD 5 0 0)) 0 0 shW.length Q 0 0 shW 23 [some (vR (some 32)), some (vI (c : Int)), some (vI (set : Int)), some (vR (some u)), some (vI (ptU (vC g) L c l k)), some (vI (k : Int))] [] g2 z r := by
        intro n
        induction n with
        | zero =>
          intro k hk
          refine R_iload dX3_worth_23 rfl ?_
          refine R_aload_n dX3_worth_25 rfl ?_
          refine R_getI fd3_8 kf3_46 rfl dX3_worth_26 ?_
          rw [ask.1.1]
          refine R_icmp_ge 55 dX3_worth_29 (by decide) (fun hc29 => ?_) (fun hc29 => ?_)
          · refine R_iload dX3_worth_55 rfl ?_
            refine R_ireturn rfl (by first | rfl | exact nar_b2i | exact nar_bi) (by decide) (by decide) dX3_worth_57 ?_
            rw [← hQ]
            exact ⟨⟨s2, Or.inl ⟨l, hfam, by rw [ptS, hL, show l.length = k by omega], by rw [hL]; exact ask⟩⟩, rfl, rfl, rfl⟩
          · exact absurd (by omega) hc29
        | succ n ih =>
          intro k hk
          have hkl : k < l.length := by omega
          have hb := ptU_b hB2 L c l k
          have hb1 := gainS_b hB2 (l.getD k 0) (duS (vC g) L c l k)
          refine R_iload dX3_worth_23 rfl ?_
          refine R_aload_n dX3_worth_25 rfl ?_
          refine R_getI fd3_8 kf3_46 rfl dX3_worth_26 ?_
          rw [ask.1.1]
          refine R_icmp_ge 55 dX3_worth_29 (by decide) (fun hc29 => ?_) (fun hc29 => ?_)
          · exact absurd hc29 (by omega)
          refine R_iload dX3_worth_32 rfl ?_
          refine R_aload_n dX3_worth_34 rfl ?_
          refine R_iload dX3_worth_35 rfl ?_
          refine R_aload_n dX3_worth_37 rfl ?_
          refine R_iload dX3_worth_38 rfl ?_
          refine R_callV (c_X3_due hr c (by omega) ask.2.1 l ask.1 hm hll k hkl) (mvX3_due _) kiX3_due kvX3_due km3_86 rfl rfl (by decide) ⟨rfl, rfl, by decide, by decide⟩ (Nat.le_of_ble_eq_true rfl) dX3_worth_40 (fun v1 sh1 g1 z1 r1 hq => ?_)
          obtain ⟨rfl, rfl, rfl, rfl, rfl⟩ := hq
          rw [ask.due s2.vC hkl]
          refine R_callV (c_X3_gain hr qB qB2 l ask.1 hm hll k hkl (duS (vC g) L c l k)) (mvX3_gain _) kiX3_gain kvX3_gain km3_90 rfl rfl (by decide) ⟨rfl, rfl, by decide, by decide⟩ (Nat.le_of_ble_eq_true rfl) dX3_worth_43 (fun v1 sh1 g1 z1 r1 hq => ?_)
          obtain ⟨rfl, rfl, rfl, rfl, rfl⟩ := hq
          rw [s2.vC]
          refine R_iaddN dX3_worth_46 (by unfold inI; omega) ?_
          refine R_istore dX3_worth_47 (by decide) rfl [_, _, _, _, _, _] rfl ?_
          refine R_iincN dX3_worth_49 rfl (by decide) rfl (by unfold inI; omega) [_, _, _, _, _, _] rfl ?_
          refine R_goto 23 dX3_worth_52 (by decide) ?_
          exact ih (k + 1) (by omega)
      refine R_iconst dX3_worth_17 rfl rfl ?_
      refine R_istore dX3_worth_18 (by decide) rfl [_, _, _, _, _, _] rfl ?_
      refine R_iconst dX3_worth_20 rfl rfl ?_
      refine R_istore dX3_worth_21 (by decide) rfl [_, _, _, _, _, _] rfl ?_
      exact loop l.length 0 (by omega)
    · exact absurd hx6 (by decide)
  · refine R_if_ne 12 dX3_worth_6 (by decide) (fun hx6 => ?_) (fun hx6 => ?_)
    · exact absurd rfl hx6
    refine R_ldcC (v := -1000000) kk3_81 (by decide +kernel) dX3_worth_9 (by decide) ?_
    refine R_ireturn rfl (by first | rfl | exact nar_b2i | exact nar_bi) (by decide) (by decide) dX3_worth_11 ?_
    rw [← hQ]
    exact ⟨⟨s1, Or.inr ⟨hfam, rfl⟩⟩, rfl, rfl, rfl⟩
end WORTH
