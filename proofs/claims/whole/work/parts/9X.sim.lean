/-! THE QUERIES: class and reference answer alike -/
section SIM
variable {g g' z z' : GG} {r r' : RR} {K : Nat → CUS}
theorem IV_sc (s : SC g g') (hC : IC g z r K) (hM : IM g z r K) (hE : EQ g) : IC g' z r K ∧ IM g' z r K ∧ EQ g' := by
  have hb : ∀ c', ¬ stc c' → bkc c' → g' c' = g c' := fun c' a b => s c' a (by unfold bkc at b; omega)
  have hh : ∀ c, 74 ≤ c → g' c = g c := fun c hc => s c (by unfold stc; omega) (by omega)
  have h19 := s 19 (by unfold stc; omega) (by omega)
  have h20 := s 20 (by unfold stc; omega) (by omega)
  refine ⟨⟨WP_cg hb (by rw [s 41 (by unfold stc; omega) (by omega)]) (fun c' a b => s c' (by unfold stc; omega) (by omega)) ⟨rfl, rfl⟩ hC.1, DR_cg hb hC.2.1, by rw [h19]; exact hC.2.2.1, by rw [h20]; exact hC.2.2.2⟩, hM.hi hh (fun _ _ => rfl) hC.rs, ?_, ?_, ?_⟩
  · rw [s.vC, hE.1]; exact (vM_cong (fun c a b => hh c (by omega)) (fun k _ _ => by rw [hh 74 (by omega)])).symm
  · rw [hh 74 (by omega), h19]; exact hE.2.1
  · unfold tM; rw [hh 75 (by omega), h20]; exact hE.2.2
theorem IV_sm4 (s : SM4 g g') (hC : IC g z r K) (hM : IM g z r K) (hE : EQ g) : IC g' z r K ∧ IM g' z r K ∧ EQ g' := by
  have hl : ∀ c, c ≤ 73 → g' c = g c := fun c hc => s.1 c (by omega) (by omega)
  have hvM : vM g' = vM g := vM_cong (fun c a b => s.1 c (by omega) (by omega)) (fun k a b => s.2 k (by omega) (by omega))
  have hvC : vC g' = vC g := vC_cong (fun c' h' => hl c' (by unfold vcell at h'; omega))
  refine ⟨hC.lo hl (fun _ _ => rfl), IM_cg (fun c' q => s.1 c' (by omega) (by omega)) (fun k q => s.2 k (by omega) (by omega)) rfl hC.rs hM, ?_, ?_, ?_⟩
  · rw [hvC, hvM]; exact hE.1
  · rw [s.2 1 (by omega) (by omega), hl 19 (by omega)]; exact hE.2.1
  · unfold tM; rw [s.1 75 (by omega) (by omega), hl 20 (by omega)]; exact hE.2.2
theorem IV_sm (s : SM g g') (hC : IC g z r K) (hM : IM g z r K) (hE : EQ g) : IC g' z r K ∧ IM g' z r K ∧ EQ g' := IV_sm4 s.sm4 hC hM hE
theorem IV_wc (s : SSt g z g' z' K) (hC : IC g z r K) (hM : IM g z r K) (hE : EQ g) : IC g' z' r K ∧ IM g' z' r K ∧ EQ g' := by
  obtain ⟨w, hz, h1, h2⟩ := s
  have hb : ∀ c', ¬ stc c' → bkc c' → g' c' = g c' := fun c' a b => w.1 c' a (by unfold bkc at b; omega)
  have hh : ∀ c, 74 ≤ c → g' c = g c := fun c hc => w.1 c (by unfold stc; omega) (by omega)
  have h19 := w.at (c := 19) (by omega)
  have h20 := w.at (c := 20) (by omega)
  refine ⟨⟨⟨FP_cg hb hC.1.1, by rw [w.at (c := 1) (by omega)]; exact hC.1.2.1, by rw [w.at (c := 43) (by omega)]; exact hC.1.2.2.1, Or.inr ⟨h1, by rw [w.vC, w.at (c := 30) (by omega)]; exact h2⟩⟩, DR_cg hb hC.2.1, by rw [h19]; exact hC.2.2.1, by rw [h20]; exact hC.2.2.2⟩, hM.hi hh (fun c hc => hz c (by omega) (by omega)) hC.rs, ?_, ?_, ?_⟩
  · rw [w.vC, hE.1]; exact (vM_cong (fun c a b => hh c (by omega)) (fun k _ _ => by rw [hh 74 (by omega)])).symm
  · rw [hh 74 (by omega), h19]; exact hE.2.1
  · unfold tM; rw [hh 75 (by omega), h20]; exact hE.2.2
theorem IV_fst (s : FSt g z g' z' K) (hC : IC g z r K) (hM : IM g z r K) (hE : EQ g) : IC g' z' r K ∧ IM g' z' r K ∧ EQ g' := by
  obtain ⟨m, hz, h1, h2⟩ := s
  have hl : ∀ c, c ≤ 73 → g' c = g c := fun c hc => m.1 c (by omega) (by omega)
  have hk : ∀ k, k ≤ 9 → g' 74 k = g 74 k := fun k hk => m.2 k (by omega) (by omega) (by omega) (by omega) (by omega)
  have hvC : vC g' = vC g := vC_cong (fun c' h' => hl c' (by unfold vcell at h'; omega))
  have hc : ∀ c, 75 ≤ c → c ≤ 100 → g' c = g c := fun c a b => m.1 c (by omega) (by omega)
  refine ⟨hC.lo hl hz, ⟨⟨m.MP hM.1.1, by rw [hk 9 (by omega)]; exact hM.1.2.1, by rw [hk 5 (by omega), hk 6 (by omega)]; exact hM.1.2.2.1, Or.inr ⟨h1, by rw [m.vM, hk 5 (by omega), hk 6 (by omega), hk 7 (by omega)]; exact h2⟩⟩, ?_, ?_⟩, ?_, ?_, ?_⟩
  · unfold KmR; rw [hc 91 (by omega) (by omega), hc 92 (by omega) (by omega)]; exact hM.2.1
  · unfold VN; rw [hc 78 (by omega) (by omega), hc 79 (by omega) (by omega), hc 76 (by omega) (by omega), hc 82 (by omega) (by omega), hk 2 (by omega), hk 3 (by omega)]; exact hM.2.2
  · rw [hvC, m.vM]; exact hE.1
  · rw [hk 1 (by omega), hl 19 (by omega)]; exact hE.2.1
  · rw [m.tM, hl 20 (by omega)]; exact hE.2.2
theorem EQ.n (hE : EQ g) : g 74 2 = g 2 2 := (congrFun (congrFun hE.1 0) 0).symm
theorem EQ.c (hE : EQ g) : g 74 3 = g 5 5 := (congrFun (congrFun hE.1 0) 1).symm
theorem EQ.f (hE : EQ g) : g 74 4 = g 11 7 := (congrFun (congrFun hE.1 0) 2).symm
theorem EQ.tp (hE : EQ g) : tM g = g 20 := by funext i; exact (hE.2.2 i).symm
theorem s_tie (i c : Int) : SimI (mX11_tie (rmD 5 0 0)) (mX12_tie (rmD 5 0 0)) [vI i, vI c] := by
  rintro g z r ⟨K, hC, hM, hE⟩
  refine (p_tie hC.rs hC.1.1.2.2.2.2.2.1 hC.1.1.2.2.2.2.2.2.1 i c).weaken ?_
  rintro v sh1 g1 z1 r1 ⟨rfl, rfl, rfl, rfl, rfl⟩
  refine ⟨rfl, _, rfl, (m_tie hC.rs hM.1.1.2.2.1.2.2.2.2.1 hM.1.1.2.2.1.2.2.2.2.2.1 i c).weaken ?_⟩
  rintro v sh1 g1 z1 r1 ⟨rfl, rfl, rfl, rfl, rfl⟩
  refine ⟨rfl, ?_, K, hC, hM, hE⟩
  rw [hE.c, hE.f, hE.1]
theorem s_look (i w : Int) : SimI (mX11_look (rmD 5 0 0)) (mX12_look (rmD 5 0 0)) [vI i, vI w] := by
  rintro g z r ⟨K, hC, hM, hE⟩
  refine (p_look hC.rs hC.1.1.2.2.2.2.2.2.1 i w).weaken ?_
  rintro v sh1 g1 z1 r1 ⟨rfl, rfl, rfl, rfl, rfl⟩
  refine ⟨rfl, _, rfl, (m_look hC.rs hM.1.1.2.2.1.2.2.2.2.2.1 i w).weaken ?_⟩
  rintro v sh1 g1 z1 r1 ⟨rfl, rfl, rfl, rfl, rfl⟩
  refine ⟨rfl, ?_, K, hC, hM, hE⟩
  rw [hE.1]
theorem s_count (w : Int) : SimI (mX11_count (rmD 5 0 0)) (mX12_count (rmD 5 0 0)) [vI w] := by
  rintro g z r ⟨K, hC, hM, hE⟩
  refine (p_count hC.rs hC.1.1.2.1 w).weaken ?_
  rintro v sh1 g1 z1 r1 ⟨rfl, rfl, rfl, rfl, rfl⟩
  refine ⟨rfl, _, rfl, (m_count hC.rs w).weaken ?_⟩
  rintro v sh1 g1 z1 r1 ⟨rfl, rfl, rfl, rfl, rfl⟩
  refine ⟨rfl, ?_, K, hC, hM, hE⟩
  rw [hE.1, hE.2.1]
  by_cases h : 10 ≤ w ∧ w < 14
  · rw [if_pos h, if_pos h]
    have hk : (w - 10).toNat < 4 := by omega
    unfold nCl
    rw [if_pos (by omega), (hM.1.1.2.2.2 _ hk).1, (hC.1.1.2.2.2.2.2.2.2.2 _ hk).1]
  · rw [if_neg h, if_neg h]
theorem s_family (c set : Int) : SimI (mX11_family (rmD 8 0 0)) (mX12_family (rmD 8 0 0)) [vI c, vI set] := by
  rintro g z r ⟨K, hC, hM, hE⟩
  refine (p_family K hC.1.1 c set).weaken ?_
  rintro v sh1 g1 z1 r1 ⟨⟨s, q⟩, rfl, rfl, rfl⟩
  obtain ⟨hC1, hM1, hE1⟩ := IV_sc s hC hM hE
  have hv : vM g1 = vC g := hE1.1.symm.trans s.vC
  obtain ⟨x, rfl⟩ : ∃ x, v = some (vI x) := by rcases q with ⟨_, h⟩ | ⟨_, h⟩ <;> exact ⟨_, h⟩
  refine ⟨rfl, x, rfl, (m_family hC.rs hM1.1.1.2.1 hM1.1.1.2.2.1.2.2.2.2.1 hM1.1.1.2.2.1.2.2.2.2.2.1 c set).weaken ?_⟩
  rintro v2 sh2 g2 z2 r2 ⟨⟨s2, q2⟩, rfl, rfl, rfl⟩
  rw [hv] at q2
  refine ⟨rfl, ?_, K, IV_sm s2 hC1 hM1 hE1⟩
  rcases q with ⟨a1, a2⟩ | ⟨a1, a2⟩ <;> rcases q2 with ⟨b1, b2⟩ | ⟨b1, b2⟩
  · rw [a2, b2]
  · exact absurd a1 b1
  · exact absurd b1 a1
  · rw [a2, b2]
theorem s_points (c set : Int) : SimI (mX11_points (rmD 8 0 0)) (mX12_points (rmD 8 0 0)) [vI c, vI set] := by
  rintro g z r ⟨K, hC, hM, hE⟩
  refine (p_points K hC.1.1 c set).weaken ?_
  rintro v sh1 g1 z1 r1 ⟨⟨s, q⟩, rfl, rfl, rfl⟩
  obtain ⟨hC1, hM1, hE1⟩ := IV_sc s hC hM hE
  have hv : vM g1 = vC g := hE1.1.symm.trans s.vC
  have e5 : g1 74 5 = g 30 1 := congrFun (congrFun hv 0) 5
  have e6 : g1 74 6 = g 30 2 := congrFun (congrFun hv 0) 6
  have e7 : g1 74 7 = g 30 3 := congrFun (congrFun hv 0) 7
  obtain ⟨x, rfl⟩ : ∃ x, v = some (vI x) := by rcases q with ⟨_, _, _, h⟩ | ⟨_, h⟩ <;> exact ⟨_, h⟩
  refine ⟨rfl, x, rfl, (m_points K hM1.1.1 hM1.1.2.2.1.1 hM1.1.2.2.1.2 c set).weaken ?_⟩
  rintro v2 sh2 g2 z2 r2 ⟨⟨s2, q2⟩, rfl, rfl, rfl⟩
  rw [hv, e5, e6, e7] at q2
  refine ⟨rfl, ?_, K, IV_sm s2 hC1 hM1 hE1⟩
  rcases q with ⟨a1, l, a2, a3⟩ | ⟨a1, a3⟩ <;> rcases q2 with ⟨b1, l2, b2, b3⟩ | ⟨b1, b3⟩
  · rw [a2] at b2; cases b2; rw [a3, b3]
  · exact absurd ⟨a1, by rw [a2]; rfl⟩ b1
  · exact absurd ⟨b1, by rw [b2]; rfl⟩ a1
  · rw [a3, b3]
theorem s_by (c set i : Int) : SimI (mX11_by (rmD 8 0 0)) (mX12_by (rmD 8 0 0)) [vI c, vI set, vI i] := by
  rintro g z r ⟨K, hC, hM, hE⟩
  refine (p_by K hC.1.1 c set i).weaken ?_
  rintro v sh1 g1 z1 r1 ⟨⟨s, q⟩, rfl, rfl, rfl⟩
  obtain ⟨hC1, hM1, hE1⟩ := IV_sc s hC hM hE
  have hv : vM g1 = vC g := hE1.1.symm.trans s.vC
  have e5 : g1 74 5 = g 30 1 := congrFun (congrFun hv 0) 5
  have e6 : g1 74 6 = g 30 2 := congrFun (congrFun hv 0) 6
  have e7 : g1 74 7 = g 30 3 := congrFun (congrFun hv 0) 7
  have e2 : g1 74 4 = g 11 7 := congrFun (congrFun hv 0) 2
  obtain ⟨x, rfl⟩ : ∃ x, v = some (vI x) := by rcases q with ⟨_, _, _, _, _, h⟩ | ⟨_, h⟩ <;> exact ⟨_, h⟩
  refine ⟨rfl, x, rfl, (m_by K hM1.1.1 hM1.1.2.2.1.1 hM1.1.2.2.1.2 c set i).weaken ?_⟩
  rintro v2 sh2 g2 z2 r2 ⟨⟨s2, q2⟩, rfl, rfl, rfl⟩
  rw [hv, e5, e6, e7, e2] at q2
  refine ⟨rfl, ?_, K, IV_sm s2 hC1 hM1 hE1⟩
  rcases q with ⟨a1, a0, l, a2, a4, a3⟩ | ⟨a1, a3⟩ <;> rcases q2 with ⟨b1, b0, l2, b2, b4, b3⟩ | ⟨b1, b3⟩
  · rw [a2] at b2; cases b2; rw [a3, b3]
  · exact absurd ⟨a1, a0, l, a2, a4⟩ b1
  · exact absurd ⟨b1, b0, l2, b2, b4⟩ a1
  · rw [a3, b3]
theorem s_should (c set i : Int) : SimI (mX11_should (rmD 8 0 0)) (mX12_should (rmD 8 0 0)) [vI c, vI set, vI i] := by
  rintro g z r ⟨K, hC, hM, hE⟩
  refine (p_should K hC.1.1 c set i).weaken ?_
  rintro v sh1 g1 z1 r1 ⟨⟨s, q⟩, rfl, rfl, rfl⟩
  obtain ⟨hC1, hM1, hE1⟩ := IV_sc s hC hM hE
  have hv : vM g1 = vC g := hE1.1.symm.trans s.vC
  have e5 : g1 74 5 = g 30 1 := congrFun (congrFun hv 0) 5
  have e6 : g1 74 6 = g 30 2 := congrFun (congrFun hv 0) 6
  have e7 : g1 74 7 = g 30 3 := congrFun (congrFun hv 0) 7
  have e2 : g1 74 4 = g 11 7 := congrFun (congrFun hv 0) 2
  obtain ⟨x, rfl⟩ : ∃ x, v = some (vI x) := by rcases q with ⟨_, _, _, _, _, h⟩ | ⟨_, h⟩ <;> exact ⟨_, h⟩
  refine ⟨rfl, x, rfl, (m_should K hM1.1.1 hM1.1.2.2.1.1 hM1.1.2.2.1.2 c set i).weaken ?_⟩
  rintro v2 sh2 g2 z2 r2 ⟨⟨s2, q2⟩, rfl, rfl, rfl⟩
  rw [hv, e5, e6, e7, e2] at q2
  refine ⟨rfl, ?_, K, IV_sm s2 hC1 hM1 hE1⟩
  rcases q with ⟨a1, a0, l, a2, a4, a3⟩ | ⟨a1, a3⟩ <;> rcases q2 with ⟨b1, b0, l2, b2, b4, b3⟩ | ⟨b1, b3⟩
  · rw [a2] at b2; cases b2; rw [a3, b3]
  · exact absurd ⟨a1, a0, l, a2, a4⟩ b1
  · exact absurd ⟨b1, b0, l2, b2, b4⟩ a1
  · rw [a3, b3]
theorem s_must (c set sex : Int) : SimI (mX11_must (rmD 8 0 0)) (mX12_must (rmD 8 0 0)) [vI c, vI set, vI sex] := by
  rintro g z r ⟨K, hC, hM, hE⟩
  refine (p_must K hC.1.1 c set sex).weaken ?_
  rintro v sh1 g1 z1 r1 ⟨⟨s, q⟩, rfl, rfl, rfl⟩
  obtain ⟨hC1, hM1, hE1⟩ := IV_sc s hC hM hE
  have hv : vM g1 = vC g := hE1.1.symm.trans s.vC
  have e5 : g1 74 5 = g 30 1 := congrFun (congrFun hv 0) 5
  have e6 : g1 74 6 = g 30 2 := congrFun (congrFun hv 0) 6
  have e7 : g1 74 7 = g 30 3 := congrFun (congrFun hv 0) 7
  obtain ⟨x, rfl⟩ : ∃ x, v = some (vI x) := by rcases q with ⟨_, _, _, _, h⟩ | ⟨_, h⟩ <;> exact ⟨_, h⟩
  refine ⟨rfl, x, rfl, (m_must K hM1.1.1 hM1.2.2 hM1.1.2.2.1.1 hM1.1.2.2.1.2 c set sex).weaken ?_⟩
  rintro v2 sh2 g2 z2 r2 ⟨⟨s2, q2⟩, rfl, rfl, rfl⟩
  rw [hv, e5, e6, e7] at q2
  refine ⟨rfl, ?_, K, IV_sm4 s2 hC1 hM1 hE1⟩
  rcases q with ⟨a1, a0, l, a2, a3⟩ | ⟨a1, a3⟩ <;> rcases q2 with ⟨b1, b0, l2, b2, b3⟩ | ⟨b1, b3⟩
  · rw [a2] at b2; cases b2; rw [a3, b3]
  · exact absurd ⟨a1, a0, by rw [a2]; rfl⟩ b1
  · exact absurd ⟨b1, b0, by rw [b2]; rfl⟩ a1
  · rw [a3, b3]
end SIM
