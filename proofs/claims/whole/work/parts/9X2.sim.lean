/-! THE WAYS, the row, the learning: class and reference answer alike -/
section SIM2
variable {g g' z z' : GG} {r r' : RR} {K : Nat → CUS}
theorem WSm_eq {g1 : GG} (hv : vM g1 = vC g) : WSm g1 K = WSg g K := by
  have e5 : g1 74 5 = g 30 1 := congrFun (congrFun hv 0) 5
  have e6 : g1 74 6 = g 30 2 := congrFun (congrFun hv 0) 6
  have e7 : g1 74 7 = g 30 3 := congrFun (congrFun hv 0) 7
  unfold WSm WSg
  rw [hv, e5, e6, e7]
theorem s_best (i : Int) : SimI (mX11_best (rmD 9 0 0)) (mX12_best (rmD 9 0 0)) [vI i] := by
  rintro g z r ⟨K, hC, hM, hE⟩
  refine (p_best K hC.1 i).weaken ?_
  rintro v sh1 g1 z1 r1 ⟨q, rfl, rfl⟩
  obtain ⟨x, rfl⟩ : ∃ x, v = some (vI x) := by rcases q with ⟨_, h, _⟩ | ⟨_, _, _, _, h⟩ <;> exact ⟨_, h⟩
  obtain ⟨hC1, hM1, hE1, hv0⟩ : IC g1 z1 r K ∧ IM g1 z1 r K ∧ EQ g1 ∧ vC g1 = vC g := by
    rcases q with ⟨_, _, rfl, rfl⟩ | ⟨_, s, _⟩
    · exact ⟨hC, hM, hE, rfl⟩
    · obtain ⟨a, b, c⟩ := IV_wc s hC hM hE; exact ⟨a, b, c, s.1.vC⟩
  have hv : vM g1 = vC g := hE1.1.symm.trans hv0
  have e2 : g1 74 4 = g 11 7 := congrFun (congrFun hv 0) 2
  refine ⟨rfl, x, rfl, (m_best K hM1.1 i).weaken ?_⟩
  rintro v2 sh2 g2 z2 r2 ⟨q2, rfl, rfl⟩
  rw [WSm_eq hv, e2] at q2
  rcases q with ⟨a1, a2, -, -⟩ | ⟨a1, -, le, a2, a3⟩ <;> rcases q2 with ⟨b1, b2, rfl, rfl⟩ | ⟨b1, s2, le2, b2, b3⟩
  · exact ⟨rfl, by rw [a2, b2], K, hC1, hM1, hE1⟩
  · exact absurd b1 a1
  · exact absurd a1 b1
  · exact ⟨rfl, by rw [a3, b3, a2.uniq b2], K, IV_fst s2 hC1 hM1 hE1⟩
theorem s_sure (i c : Int) : SimI (mX11_sure (rmD 9 0 0)) (mX12_sure (rmD 9 0 0)) [vI i, vI c] := by
  rintro g z r ⟨K, hC, hM, hE⟩
  refine (p_sure K hC.1 i c).weaken ?_
  rintro v sh1 g1 z1 r1 ⟨q, rfl, rfl⟩
  obtain ⟨x, rfl⟩ : ∃ x, v = some (vI x) := by rcases q with ⟨_, h, _⟩ | ⟨_, _, _, _, h⟩ <;> exact ⟨_, h⟩
  obtain ⟨hC1, hM1, hE1, hv0⟩ : IC g1 z1 r K ∧ IM g1 z1 r K ∧ EQ g1 ∧ vC g1 = vC g := by
    rcases q with ⟨_, _, rfl, rfl⟩ | ⟨_, s | ⟨rfl, rfl⟩, _⟩
    · exact ⟨hC, hM, hE, rfl⟩
    · obtain ⟨a, b, c⟩ := IV_wc s hC hM hE; exact ⟨a, b, c, s.1.vC⟩
    · exact ⟨hC, hM, hE, rfl⟩
  have hv : vM g1 = vC g := hE1.1.symm.trans hv0
  have e2 : g1 74 4 = g 11 7 := congrFun (congrFun hv 0) 2
  have e3 : g1 74 3 = g 5 5 := congrFun (congrFun hv 0) 1
  refine ⟨rfl, x, rfl, (m_sure K hM1.1 i c).weaken ?_⟩
  rintro v2 sh2 g2 z2 r2 ⟨q2, rfl, rfl⟩
  rw [WSm_eq hv, e2, e3] at q2
  rcases q with ⟨a1, a2, -, -⟩ | ⟨a1, -, y, a2, a3⟩ <;> rcases q2 with ⟨b1, b2, rfl, rfl⟩ | ⟨b1, s2, y2, b2, b3⟩
  · exact ⟨rfl, by rw [a2, b2], K, hC1, hM1, hE1⟩
  · exact absurd b1 a1
  · exact absurd a1 b1
  · exact ⟨rfl, by rw [a3, b3, a2.uniq b2], K, IV_fst s2 hC1 hM1 hE1⟩
theorem s_little (m : Int) : SimI (mX11_little (rmD 9 0 0)) (mX12_little (rmD 9 0 0)) [vI m] := by
  rintro g z r ⟨K, hC, hM, hE⟩
  refine (p_little K hC.1 m).weaken ?_
  rintro v sh1 g1 z1 r1 ⟨q, rfl, rfl⟩
  obtain ⟨x, rfl⟩ : ∃ x, v = some (vI x) := by rcases q with ⟨_, h, _⟩ | ⟨_, _, _, _, h⟩ <;> exact ⟨_, h⟩
  obtain ⟨hC1, hM1, hE1, hv0⟩ : IC g1 z1 r K ∧ IM g1 z1 r K ∧ EQ g1 ∧ vC g1 = vC g := by
    rcases q with ⟨_, _, rfl, rfl⟩ | ⟨_, s, _⟩
    · exact ⟨hC, hM, hE, rfl⟩
    · obtain ⟨a, b, c⟩ := IV_wc s hC hM hE; exact ⟨a, b, c, s.1.vC⟩
  have hv : vM g1 = vC g := hE1.1.symm.trans hv0
  have e2 : g1 74 4 = g 11 7 := congrFun (congrFun hv 0) 2
  have e5 : g1 74 5 = g 30 1 := congrFun (congrFun hv 0) 5
  have e6 : g1 74 6 = g 30 2 := congrFun (congrFun hv 0) 6
  have e7 : g1 74 7 = g 30 3 := congrFun (congrFun hv 0) 7
  refine ⟨rfl, x, rfl, (m_little K hM1.1 m).weaken ?_⟩
  rintro v2 sh2 g2 z2 r2 ⟨q2, rfl, rfl⟩
  rw [WSm_eq hv, e2, hv, e5, e6, e7] at q2
  rcases q with ⟨a1, a2, -, -⟩ | ⟨a1, -, le, a2, a3⟩ <;> rcases q2 with ⟨b1, b2, rfl, rfl⟩ | ⟨b1, s2, le2, b2, b3⟩
  · exact ⟨rfl, by rw [a2, b2], K, hC1, hM1, hE1⟩
  · exact absurd b1 a1
  · exact absurd a1 b1
  · exact ⟨rfl, by rw [a3, b3, a2.uniq b2], K, IV_fst s2 hC1 hM1 hE1⟩
theorem s_grand (c w : Int) : SimI (mX11_grand (rmD 9 0 0)) (mX12_grand (rmD 9 0 0)) [vI c, vI w] := by
  rintro g z r ⟨K, hC, hM, hE⟩
  refine (p_grand K hC.1 c w).weaken ?_
  rintro v sh1 g1 z1 r1 ⟨q, rfl, rfl⟩
  obtain ⟨x, rfl⟩ : ∃ x, v = some (vI x) := by rcases q with ⟨_, h, _⟩ | ⟨_, _, h, _⟩ | ⟨_, _, _, _, _, _, _, h⟩ <;> exact ⟨_, h⟩
  obtain ⟨hC1, hM1, hE1, hv0⟩ : IC g1 z1 r K ∧ IM g1 z1 r K ∧ EQ g1 ∧ vC g1 = vC g := by
    rcases q with ⟨_, _, rfl, rfl⟩ | ⟨_, _, _, rfl, rfl⟩ | ⟨_, _, s, _⟩
    · exact ⟨hC, hM, hE, rfl⟩
    · exact ⟨hC, hM, hE, rfl⟩
    · obtain ⟨a, b, c⟩ := IV_wc s hC hM hE; exact ⟨a, b, c, s.1.vC⟩
  have hv : vM g1 = vC g := hE1.1.symm.trans hv0
  have e3 : g1 74 3 = g 5 5 := congrFun (congrFun hv 0) 1
  have e5 : g1 74 5 = g 30 1 := congrFun (congrFun hv 0) 5
  have e6 : g1 74 6 = g 30 2 := congrFun (congrFun hv 0) 6
  have e7 : g1 74 7 = g 30 3 := congrFun (congrFun hv 0) 7
  refine ⟨rfl, x, rfl, (m_grand K hM1.1 c w).weaken ?_⟩
  rintro v2 sh2 g2 z2 r2 ⟨q2, rfl, rfl⟩
  rw [WSm_eq hv, e3, hv, e5, e6, e7] at q2
  rcases q with ⟨a1, a2, -, -⟩ | ⟨a1, a0, a2, -, -⟩ | ⟨a1, a0, -, le, l, a2, a4, a3⟩ <;> rcases q2 with ⟨b1, b2, rfl, rfl⟩ | ⟨b1, b0, b2, rfl, rfl⟩ | ⟨b1, b0, s2, le2, l2, b2, b4, b3⟩
  · exact ⟨rfl, by rw [a2, b2], K, hC1, hM1, hE1⟩
  · exact absurd b1 a1
  · exact absurd b1 a1
  · exact absurd a1 b1
  · exact ⟨rfl, by rw [a2, b2], K, hC1, hM1, hE1⟩
  · exact absurd b0 a0
  · exact absurd a1 b1
  · exact absurd a0 b0
  · have e := a2.uniq b2
    subst e
    rw [a4] at b4
    cases b4
    exact ⟨rfl, by rw [a3, b3], K, IV_fst s2 hC1 hM1 hE1⟩
theorem s_ways (w : Int) : SimL (mX11_ways (rmD 9 0 0)) (mX12_ways (rmD 9 0 0)) [vI w] := by
  rintro g z r ⟨K, hC, hM, hE⟩
  refine (p_ways K hC.1 w).weaken ?_
  rintro v sh1 g1 z1 r1 ⟨q, rfl, rfl⟩
  obtain ⟨x, rfl⟩ : ∃ x, v = some (vL x) := by rcases q with ⟨_, h, _⟩ | ⟨_, _, _, _, _, _, _, h⟩ <;> exact ⟨_, h⟩
  obtain ⟨hC1, hM1, hE1, hv0⟩ : IC g1 z1 r K ∧ IM g1 z1 r K ∧ EQ g1 ∧ vC g1 = vC g := by
    rcases q with ⟨_, _, rfl, rfl⟩ | ⟨_, s, _⟩
    · exact ⟨hC, hM, hE, rfl⟩
    · obtain ⟨a, b, c⟩ := IV_wc s hC hM hE; exact ⟨a, b, c, s.1.vC⟩
  have hv : vM g1 = vC g := hE1.1.symm.trans hv0
  have hsb := hC.1.sbd
  have hbd : ∀ x ∈ WSg g K, -70000 ≤ x.1 ∧ x.1 ≤ 7000 := fun x hx => (GS_6 hsb (n := (vC g 0 1).toNat) (by have := hsb.2.1; omega)).bd hx
  refine ⟨rfl, x, rfl, (m_ways K hM1.1 w).weaken ?_⟩
  rintro v2 sh2 g2 z2 r2 ⟨q2, rfl, rfl⟩
  rw [WSm_eq hv] at q2
  rcases q with ⟨a1, a2, -, -⟩ | ⟨a1, -, mo, nx, be, al, a2, a3⟩ <;> rcases q2 with ⟨b1, b2, rfl, rfl⟩ | ⟨b1, s2, mo2, nx2, be2, al2, b2, b3⟩
  · exact ⟨rfl, by rw [a2, b2], K, hC1, hM1, hE1⟩
  · exact absurd b1 a1
  · exact absurd a1 b1
  · refine ⟨rfl, ?_, K, IV_fst s2 hC1 hM1 hE1⟩
    obtain ⟨rfl, rfl, rfl, u⟩ := AG4_uniq (List.Perm.refl _) (WS_ne hsb) (fun x hx => by have := hbd x hx; omega) (fun x hx => by have := hbd x hx; omega) a2 b2
    rw [a3, b3]
    unfold wayV
    rcases u with ⟨u1, u2⟩ | ⟨u1, u2, u3⟩
    · rw [if_pos u1, if_pos u2]
    · rw [if_neg (show ¬ nx = -1000000 by omega), if_neg (show ¬ nx2 = -100000000 by omega), u1]
theorem s_check : SimI (mX11_check (rmD 9 0 0)) (mX12_check (rmD 9 0 0)) [] := by
  rintro g z r ⟨K, hC, hM, hE⟩
  refine (p_check K hC.1 hC.2.2.1).weaken ?_
  rintro v sh1 g1 z1 r1 ⟨q, rfl, rfl⟩
  rcases q with ⟨a1, rfl, rfl, rfl⟩ | ⟨a1, ga, s, rfl, le, a2, rfl⟩
  · refine ⟨rfl, _, rfl, (m_check K hM.1).weaken ?_⟩
    rintro v2 sh2 g2 z2 r2 ⟨q2, rfl, rfl⟩
    rcases q2 with ⟨b1, b2, rfl, rfl⟩ | ⟨b1, -⟩
    · exact ⟨rfl, b2, K, hC, hM, hE⟩
    · exact absurd (by rw [hE.2.1, hE.f]; exact a1) b1
  · obtain ⟨hCa, hMa, hEa⟩ := IV_wc s hC hM hE
    have hv : vM ga = vC g := hEa.1.symm.trans s.1.vC
    have hvg : vM (up2 ga 19 1 0) = vM ga := vM_cong (fun c a b => up2_ne (by omega)) (fun k _ _ => by rw [up2_ne (by omega)])
    have hM1 : IM (up2 ga 19 1 0) z1 r K := hMa.hi (fun c hc => up2_ne (by omega)) (fun _ _ => rfl) hC.rs
    have h19 : ga 19 = g 19 := s.1.at (c := 19) (by omega)
    have h20 : ga 20 = g 20 := s.1.at (c := 20) (by omega)
    have hw : WSm (up2 ga 19 1 0) K = WSg g K := WSm_eq (hvg.trans hv)
    have ht : tM (up2 ga 19 1 0) = g 20 := by
      have : tM (up2 ga 19 1 0) = tM ga := by unfold tM; rw [up2_ne (by omega)]
      rw [this, hEa.tp, h20]
    have e2 : (up2 ga 19 1 0) 74 4 = g 11 7 := congrFun (congrFun (hvg.trans hv) 0) 2
    have e1 : (up2 ga 19 1 0) 74 1 = g 19 1 := by rw [up2_ne (by omega), hEa.2.1, h19]
    refine ⟨rfl, _, rfl, (m_check K hM1.1).weaken ?_⟩
    rintro v2 sh2 g2 z2 r2 ⟨q2, rfl, rfl⟩
    rw [e1, e2, hw, ht] at q2
    rcases q2 with ⟨b1, -⟩ | ⟨b1, s2, le2, b2, b3⟩
    · exact absurd b1 a1
    · -- both tapes are empty now
      have hC2 : IC (up2 (up2 ga 19 1 0) 74 1 0) z1 r K := by
        refine IC.lo (g := up2 ga 19 1 0) (fun c hc => up2_ne (by omega)) (fun _ _ => rfl) ?_
        have hb : ∀ c', ¬ stc c' → bkc c' → up2 ga 19 1 0 c' = ga c' := fun c' _ b => up2_ne (by unfold bkc at b; omega)
        exact ⟨WP_cg hb (by rw [up2_ne (by omega)]) (fun c' a b => up2_ne (by omega)) ⟨rfl, rfl⟩ hCa.1, DR_cg hb hCa.2.1, by rw [up2_s]; omega, by rw [up2_ne (by omega)]; exact hCa.2.2.2⟩
      have hM2 : IM (up2 (up2 ga 19 1 0) 74 1 0) z1 r K := IM_cg (fun c' q => up2_ne (by omega)) (fun k q => up2_k (by omega)) rfl hC.rs hM1
      have hE2 : EQ (up2 (up2 ga 19 1 0) 74 1 0) := by
        refine ⟨?_, ?_, fun i => ?_⟩
        · rw [vC_cong (g := ga) (fun c' h' => by rw [up2_ne (by unfold vcell at h'; omega), up2_ne (by unfold vcell at h'; omega)]), vM_cong (g := ga) (fun c a b => by rw [up2_ne (by omega), up2_ne (by omega)]) (fun k a b => by rw [up2_k (by omega), up2_ne (by omega)])]
          exact hEa.1
        · rw [up2_s, up2_ne (by omega), up2_s]
        · have : tM (up2 (up2 ga 19 1 0) 74 1 0) = tM ga := by unfold tM; rw [up2_ne (by omega), up2_ne (by omega)]
          rw [this, up2_ne (by omega), up2_ne (by omega)]
          exact hEa.2.2 i
      exact ⟨rfl, by rw [b3, a2.uniq b2], K, IV_fst s2 hC2 hM2 hE2⟩
end SIM2
