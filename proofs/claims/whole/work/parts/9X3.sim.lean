/-! judge and learnt: class and reference answer alike -/
section SIM3
variable {g g' z z' : GG} {r r' : RR} {K : Nat → CUS}
theorem IV_dc (s : DC g g') (h19 : g' 19 1 = 0) (hC : IC g z r K) (hM : IM g z r K) (hE : EQ g) : IC g' z r K ∧ IM g' z r K ∧ vM g' = vC g ∧ vC g' = vM g' ∧ tM g' = g 20 ∧ g' 20 = g 20 ∧ g' 74 1 = g 19 1 := by
  have hb : ∀ c', ¬ stc c' → bkc c' → g' c' = g c' := fun c' a b => s c' a (by unfold bkc at b; omega)
  have hh : ∀ c, 74 ≤ c → g' c = g c := fun c hc => s c (by unfold stc; omega) (by omega)
  have h20 := s 20 (by unfold stc; omega) (by omega)
  have hvM : vM g' = vM g := vM_cong (fun c a b => hh c (by omega)) (fun k _ _ => by rw [hh 74 (by omega)])
  refine ⟨⟨WP_cg hb (by rw [s 41 (by unfold stc; omega) (by omega)]) (fun c' a b => s c' (by unfold stc; omega) (by omega)) ⟨rfl, rfl⟩ hC.1, DR_cg hb hC.2.1, by rw [h19]; omega, by rw [h20]; exact hC.2.2.2⟩, hM.hi hh (fun _ _ => rfl) hC.rs, hvM.trans hE.1.symm, ?_, ?_, h20, ?_⟩
  · rw [s.vC, hE.1, hvM]
  · unfold tM; rw [hh 75 (by omega)]; exact hE.tp
  · rw [hh 74 (by omega)]; exact hE.2.1
theorem IV_sm2 (s : SM2 g g') (h1 : g' 74 1 = 0) (hC : IC g z r K) (hM : IM g z r K) (hv : vC g = vM g) (ht : tM g = g 20) (h19 : g 19 1 = 0) : IC g' z r K ∧ IM g' z r K ∧ EQ g' := by
  have hl : ∀ c, c ≤ 73 → g' c = g c := fun c hc => s.1 c (by omega) (by omega)
  have hvC : vC g' = vC g := vC_cong (fun c' h' => hl c' (by unfold vcell at h'; omega))
  refine ⟨hC.lo hl (fun _ _ => rfl), IM_cg (fun c' q => s.1 c' (by omega) (by omega)) (fun k q => s.2 k (by omega) (by omega) (by omega)) rfl hC.rs hM, ?_, ?_, fun i => ?_⟩
  · rw [hvC, s.vM]; exact hv
  · rw [h1, hl 19 (by omega), h19]
  · rw [s.tM, ht, hl 20 (by omega)]
theorem s_judge : SimI (mX11_judge (rmD 8 0 0)) (mX12_judge (rmD 9 0 0)) [] := by
  rintro g z r ⟨K, hC, hM, hE⟩
  refine (p_judge K hC.1.1 hC.1.2.1 hC.2.2.1 hC.2.2.2).weaken ?_
  rintro v sh1 g1 z1 r1 ⟨q, rfl, rfl, rfl⟩
  rcases q with ⟨a1, rfl, rfl⟩ | ⟨a1, rfl, s, a19, -⟩
  · refine ⟨rfl, _, rfl, (m_judge K hM.1.1 hM.1.2.2.1.1 hM.1.2.2.1.2 hM.1.2.1).weaken ?_⟩
    rintro v2 sh2 g2 z2 r2 ⟨q2, rfl, rfl, rfl⟩
    rw [hE.2.1, hE.f] at q2
    rcases q2 with ⟨b1, b2, rfl⟩ | ⟨b1, -⟩ | ⟨b1, -⟩
    · exact ⟨rfl, b2, K, hC, hM, hE⟩
    · omega
    · omega
  · have h19 : g1 19 1 = 0 := by rw [a19]; rfl
    obtain ⟨hC1, hM1, hv, hv2, ht, h20, h1⟩ := IV_dc s h19 hC hM hE
    have e2 : g1 74 4 = g 11 7 := congrFun (congrFun hv 0) 2
    have e5 : g1 74 5 = g 30 1 := congrFun (congrFun hv 0) 5
    have e6 : g1 74 6 = g 30 2 := congrFun (congrFun hv 0) 6
    have e7 : g1 74 7 = g 30 3 := congrFun (congrFun hv 0) 7
    refine ⟨rfl, _, rfl, (m_judge K hM1.1.1 hM1.1.2.2.1.1 hM1.1.2.2.1.2 hM1.1.2.1).weaken ?_⟩
    rintro v2 sh2 g2 z2 r2 ⟨q2, rfl, rfl, rfl⟩
    rw [h1, e2, hv, ht, e5, e6, e7] at q2
    rcases q2 with ⟨b1, b2, rfl⟩ | ⟨b1, b0, b2, s2, b3⟩ | ⟨b1, b0, b2, s2, b3⟩
    · omega
    · exact ⟨rfl, by rw [b2, if_neg b0], K, IV_sm2 s2 b3 hC1 hM1 hv2 (ht.trans h20.symm) h19⟩
    · exact ⟨rfl, by rw [b2, if_pos b0], K, IV_sm2 s2 b3 hC1 hM1 hv2 (ht.trans h20.symm) h19⟩
theorem s_learnt (fr to w : Int) : SimI (mX11_learnt (rmD 9 0 0)) (mX12_learnt (rmD 9 0 0)) [vI fr, vI to, vI w] := by
  rintro g z r ⟨K, hC, hM, hE⟩
  refine (p_learnt K hC.1.1 hC.1.2.1 hC.2.2.1 hC.2.2.2 fr to w).weaken ?_
  rintro v sh1 g1 z1 r1 ⟨q, rfl, rfl, rfl⟩
  rcases q with ⟨a1, rfl, rfl⟩ | ⟨a1, a0, rfl, s, a19⟩ | ⟨a1, a0, rfl, s, a19⟩
  · refine ⟨rfl, _, rfl, (m_learnt K hM.1.1 hM.1.2.1 fr to w).weaken ?_⟩
    rintro v2 sh2 g2 z2 r2 ⟨q2, rfl, rfl, rfl⟩
    have hq : leM g1 K fr to w ↔ leOK g1 K fr to w := by unfold leM leOK; rw [hE.2.1, hE.f]
    rcases q2 with ⟨b1, b2, rfl⟩ | ⟨b1, -⟩ | ⟨b1, -⟩
    · exact ⟨rfl, b2, K, hC, hM, hE⟩
    · exact absurd (hq.mp b1) a1
    · exact absurd (hq.mp b1) a1
  · have h19 : g1 19 1 = 0 := by rw [a19]; rfl
    obtain ⟨hC1, hM1, hv, hv2, ht, h20, h1⟩ := IV_dc s h19 hC hM hE
    have e2 : g1 74 4 = g 11 7 := congrFun (congrFun hv 0) 2
    refine ⟨rfl, _, rfl, (m_learnt K hM1.1.1 hM1.1.2.1 fr to w).weaken ?_⟩
    rintro v2 sh2 g2 z2 r2 ⟨q2, rfl, rfl, rfl⟩
    have hq : leM g1 K fr to w ↔ leOK g K fr to w := by unfold leM leOK; rw [h1, e2]
    rw [hv, ht] at q2
    rcases q2 with ⟨b1, b2, rfl⟩ | ⟨b1, b0, b2, s2, b3⟩ | ⟨b1, b0, b2, s2, b3⟩
    · exact absurd (hq.mpr a1) b1
    · exact ⟨rfl, b2, K, IV_sm2 s2 b3 hC1 hM1 hv2 (ht.trans h20.symm) h19⟩
    · exact absurd b0 a0
  · have h19 : g1 19 1 = 0 := by rw [a19]; rfl
    obtain ⟨hC1, hM1, hv, hv2, ht, h20, h1⟩ := IV_dc s h19 hC hM hE
    have e2 : g1 74 4 = g 11 7 := congrFun (congrFun hv 0) 2
    refine ⟨rfl, _, rfl, (m_learnt K hM1.1.1 hM1.1.2.1 fr to w).weaken ?_⟩
    rintro v2 sh2 g2 z2 r2 ⟨q2, rfl, rfl, rfl⟩
    have hq : leM g1 K fr to w ↔ leOK g K fr to w := by unfold leM leOK; rw [h1, e2]
    rw [hv, ht] at q2
    rcases q2 with ⟨b1, b2, rfl⟩ | ⟨b1, b0, b2, s2, b3⟩ | ⟨b1, b0, b2, s2, b3⟩
    · exact absurd (hq.mpr a1) b1
    · exact absurd a0 b0
    · exact ⟨rfl, b2, K, IV_sm2 s2 b3 hC1 hM1 hv2 (ht.trans h20.symm) h19⟩
end SIM3
