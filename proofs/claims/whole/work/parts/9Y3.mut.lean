section MUT3
variable {g g' z z' : GG} {r r' : RR} {K : Nat → CUS}
theorem VN_parent {c w v : Int} (h78 : g' 78 = g 78) (h79 : g' 79 = g 79) (h76 : g' 76 = g 76) (h82 : ∀ j, g' 82 j = if j = (c * 4 + w).toNat then v else g 82 j) (h2 : g' 74 2 = g 74 2) (h3 : g' 74 3 = g 74 3) (hc : 0 ≤ c ∧ c < g 74 3) (hw : 0 ≤ w ∧ w < 4) (hv : v = -1 ∨ (0 ≤ v ∧ v < g 74 2 ∧ g 76 v.toNat = w % 2)) (H : VN g) : VN g' := by
  obtain ⟨v1, v2⟩ := H
  unfold VN
  rw [h78, h79, h76, h2, h3]
  refine ⟨v1, fun c0 w0 hc0 hw0 => ?_⟩
  rw [h82]
  by_cases e : c0 * 4 + w0 = (c * 4 + w).toNat
  · rw [if_pos e]
    rcases hv with q | ⟨q1, q2, q3⟩
    · exact Or.inl q
    · exact Or.inr ⟨q1, q2, by rw [q3]; omega⟩
  · rw [if_neg e]; exact v2 c0 w0 hc0 hw0
theorem s_weighs (a b : Int) : SimI (mX11_weighs (rmD 5 0 0)) (mX12_weighs (rmD 5 0 0)) [vI a, vI b] := by
  rintro g z r ⟨K, hC, hM, hE⟩
  obtain ⟨hB, hB2, hN, hC5, hF, ho, hK⟩ := hC.1.1.2.2
  have h14 := hC.1.2.1
  obtain ⟨m1, m2, m3, m4, m5, m6, m7⟩ := hM.1.1.2.1
  obtain ⟨n1, n2, n3, n4, n5, n6, n7⟩ := hM.1.1.2.2.1
  have h9 := hM.1.2.1
  have h56 := hM.1.2.2.1
  have hV := hM.2.2
  refine (p_weighs hC.rs a b).weaken ?_
  rintro v_ sh1 g1 z1 r1 ⟨q, rfl, rfl, rfl⟩
  rcases q with ⟨a1, rfl, rfl⟩ | ⟨a1, rfl, rfl⟩
  · skip
    have hC1 : IC (up2 (up2 (up2 g 1 3 a) 1 4 b) 41 10 0) z r K := by
      refine IC_mk hC ⟨fun j => ?_, fun j => ?_, fun j => ?_, fun j => ?_⟩ ⟨fun j => ?_, ?_⟩ ?_ ?_ ?_ ?_ (fun c' q => ?_) ?_ (by funext j; simp [up2]) up2_s (by funext j; simp [up2]) (by funext j; simp [up2])
      · have := hB.1 j; simp only [up2_i]; (repeat' split) <;> omega
      · have := hB.2.1 j; simp only [up2_i]; (repeat' split) <;> omega
      · have := hB.2.2.1 j; simp only [up2_i]; (repeat' split) <;> omega
      · have := hB.2.2.2 j; simp only [up2_i]; (repeat' split) <;> omega
      · have := hB2.1 j; simp only [up2_i]; (repeat' split) <;> omega
      · have := hB2.2; simp only [up2_i]; (repeat' split) <;> omega
      · simp only [up2_i]; (repeat' split) <;> omega
      · simp only [up2_i]; (repeat' split) <;> omega
      · simp only [up2_i]; (repeat' split) <;> omega
      · have e1 : (up2 (up2 (up2 g 1 3 a) 1 4 b) 41 10 0) 13 = g 13 := by funext j; simp [up2]
        have e2 : (up2 (up2 (up2 g 1 3 a) 1 4 b) 41 10 0) 11 = g 11 := by funext j; simp [up2]
        have e3 : (up2 (up2 (up2 g 1 3 a) 1 4 b) 41 10 0) 18 = g 18 := by funext j; simp [up2]
        rw [e1, e2, e3]; exact ho
      · unfold cuc at q; rw [up2_ne (by omega), up2_ne (by omega), up2_ne (by omega)]
      · simp only [up2_i]; (repeat' split) <;> omega
    have hh : ∀ cx : Nat, 74 ≤ cx → (up2 (up2 (up2 g 1 3 a) 1 4 b) 41 10 0) cx = g cx := fun cx hc => by rw [up2_ne (by omega), up2_ne (by omega), up2_ne (by omega)]
    have hM1 : IM (up2 (up2 (up2 g 1 3 a) 1 4 b) 41 10 0) z r K := hM.hi hh (fun _ _ => rfl) hC.rs
    have hvC : vC (up2 (up2 (up2 g 1 3 a) 1 4 b) 41 10 0) = up2 (up2 (vC g) 0 3 a) 0 4 b := by
      rw [vC_o (by unfold vcell; omega), vC_z 4 (by decide), vC_z 3 (by decide)]
    generalize hg1 : up2 (up2 (up2 g 1 3 a) 1 4 b) 41 10 0 = g1 at *
    have h19 : g1 19 = g 19 := by rw [← hg1]; funext j; simp [up2]
    have h20 : g1 20 = g 20 := by rw [← hg1]; funext j; simp [up2]
    have hvM1 : vM g1 = vM g := vM_cong (fun c x y => hh c (by omega)) (fun k _ _ => by rw [hh 74 (by omega)])
    have hv : vM g1 = vC g := hvM1.trans hE.1.symm
    skip
    refine ⟨rfl, _, rfl, (m_weighs a b).weaken ?_⟩
    rintro v2 sh2 g2 z2 r2 ⟨q2, rfl, rfl, rfl⟩
    skip
    rcases q2 with ⟨b1, rfl, rfl⟩ | ⟨b1, -⟩
    · refine ⟨rfl, rfl, K, ?_, ?_, ?_, ?_, fun ix => ?_⟩
      · exact hC1.lo (fun cx hc => by rw [up2_ne (by omega), up2_ne (by omega), up2_ne (by omega)]) (fun _ _ => rfl)
      · have hf : ∀ cx k : Nat, 74 ≤ cx → g1 cx k = g cx k := fun cx k hc => by rw [hh cx hc]
        refine IM_mk hM1 ⟨fun j => ?_, fun j => ?_, fun j => ?_, fun j => ?_, fun j => ?_, ?_⟩ ⟨fun j => ?_, fun j => ?_, fun j => ?_, ?_, ?_, ?_, fun j hj => ?_⟩ (fun c' x y => by rw [up2_ne (by omega), up2_ne (by omega), up2_ne (by omega)]) ?_ ?_ up2_s ?_
        all_goals try simp only [up2_i, hf _ _ (show 74 ≤ 84 by omega), hf _ _ (show 74 ≤ 83 by omega), hf _ _ (show 74 ≤ 76 by omega), hf _ _ (show 74 ≤ 80 by omega), hf _ _ (show 74 ≤ 77 by omega), hf _ _ (show 74 ≤ 74 by omega), hf _ _ (show 74 ≤ 78 by omega), hf _ _ (show 74 ≤ 79 by omega), hf _ _ (show 74 ≤ 82 by omega), hf _ _ (show 74 ≤ 87 by omega)] at *
        · have := m1 j; (repeat' split) <;> omega
        · have := m2 j; (repeat' split) <;> omega
        · have := m3 j; (repeat' split) <;> omega
        · have := m4 j; (repeat' split) <;> omega
        · have := m5 j; (repeat' split) <;> omega
        · (repeat' split) <;> omega
        · have := n1 j; (repeat' split) <;> omega
        · have := n2 j; (repeat' split) <;> omega
        · have := n3 j; (repeat' split) <;> omega
        · (repeat' split) <;> omega
        · (repeat' split) <;> omega
        · (repeat' split) <;> omega
        · have := n7 j; simp at hj ⊢; omega
        · (repeat' split) <;> omega
        · (repeat' split) <;> omega
        · refine VN_same (g := g) ?_ ?_ ?_ ?_ ?_ ?_ hV
          · funext j; simp [up2, hf]
          · funext j; simp [up2, hf]
          · funext j; simp [up2, hf]
          · funext j; simp [up2, hf]
          · simp [up2, hf]
          · simp [up2, hf]
      · rw [vM_o2 (by omega), vM_z 4 (by decide), vM_z 3 (by decide), vC_o (by unfold vcell; omega), vC_o (by unfold vcell; omega), vC_o (by unfold vcell; omega), hvC, hvM1, hE.1]
      · simp [up2, h19, hh 74 (by omega)]; exact hE.2.1
      · have : ∀ j, (up2 (up2 (up2 g1 74 8 a) 74 9 b) 74 23 0) 20 j = g1 20 j := fun j => by simp [up2]
        rw [this, h20, hE.2.2 ix]
        unfold tM
        simp [up2, hh 75 (by omega)]
    · exact absurd a1 b1
  · refine ⟨rfl, _, rfl, (m_weighs a b).weaken ?_⟩
    rintro v2 sh2 g2 z2 r2 ⟨q2, rfl, rfl, rfl⟩
    have hv : vM g1 = vC g1 := hE.1.symm
    skip
    skip
    rcases q2 with ⟨b1, -⟩ | ⟨b1, rfl, rfl⟩
    · exact absurd b1 a1
    · exact ⟨rfl, rfl, K, hC, hM, hE⟩

theorem s_customs (a b y : Int) : SimI (mX11_customs (rmD 5 0 0)) (mX12_customs (rmD 5 0 0)) [vI a, vI b, vI y] := by
  rintro g z r ⟨K, hC, hM, hE⟩
  obtain ⟨hB, hB2, hN, hC5, hF, ho, hK⟩ := hC.1.1.2.2
  have h14 := hC.1.2.1
  obtain ⟨m1, m2, m3, m4, m5, m6, m7⟩ := hM.1.1.2.1
  obtain ⟨n1, n2, n3, n4, n5, n6, n7⟩ := hM.1.1.2.2.1
  have h9 := hM.1.2.1
  have h56 := hM.1.2.2.1
  have hV := hM.2.2
  refine (p_customs hC.rs a b y).weaken ?_
  rintro v_ sh1 g1 z1 r1 ⟨q, rfl, rfl, rfl⟩
  rcases q with ⟨a1, rfl, rfl⟩ | ⟨a1, rfl, rfl⟩
  · skip
    have hC1 : IC (up2 (up2 (up2 (up2 g 30 1 a) 30 2 b) 30 3 y) 41 10 0) z r K := by
      refine IC_mk hC ⟨fun j => ?_, fun j => ?_, fun j => ?_, fun j => ?_⟩ ⟨fun j => ?_, ?_⟩ ?_ ?_ ?_ ?_ (fun c' q => ?_) ?_ (by funext j; simp [up2]) up2_s (by funext j; simp [up2]) (by funext j; simp [up2])
      · have := hB.1 j; simp only [up2_i]; (repeat' split) <;> omega
      · have := hB.2.1 j; simp only [up2_i]; (repeat' split) <;> omega
      · have := hB.2.2.1 j; simp only [up2_i]; (repeat' split) <;> omega
      · have := hB.2.2.2 j; simp only [up2_i]; (repeat' split) <;> omega
      · have := hB2.1 j; simp only [up2_i]; (repeat' split) <;> omega
      · have := hB2.2; simp only [up2_i]; (repeat' split) <;> omega
      · simp only [up2_i]; (repeat' split) <;> omega
      · simp only [up2_i]; (repeat' split) <;> omega
      · simp only [up2_i]; (repeat' split) <;> omega
      · have e1 : (up2 (up2 (up2 (up2 g 30 1 a) 30 2 b) 30 3 y) 41 10 0) 13 = g 13 := by funext j; simp [up2]
        have e2 : (up2 (up2 (up2 (up2 g 30 1 a) 30 2 b) 30 3 y) 41 10 0) 11 = g 11 := by funext j; simp [up2]
        have e3 : (up2 (up2 (up2 (up2 g 30 1 a) 30 2 b) 30 3 y) 41 10 0) 18 = g 18 := by funext j; simp [up2]
        rw [e1, e2, e3]; exact ho
      · unfold cuc at q; rw [up2_ne (by omega), up2_ne (by omega), up2_ne (by omega), up2_ne (by omega)]
      · simp only [up2_i]; (repeat' split) <;> omega
    have hh : ∀ cx : Nat, 74 ≤ cx → (up2 (up2 (up2 (up2 g 30 1 a) 30 2 b) 30 3 y) 41 10 0) cx = g cx := fun cx hc => by rw [up2_ne (by omega), up2_ne (by omega), up2_ne (by omega), up2_ne (by omega)]
    have hM1 : IM (up2 (up2 (up2 (up2 g 30 1 a) 30 2 b) 30 3 y) 41 10 0) z r K := hM.hi hh (fun _ _ => rfl) hC.rs
    have hvC : vC (up2 (up2 (up2 (up2 g 30 1 a) 30 2 b) 30 3 y) 41 10 0) = up2 (up2 (up2 (vC g) 0 5 a) 0 6 b) 0 7 y := by
      rw [vC_o (by unfold vcell; omega), vC_z 7 (by decide), vC_z 6 (by decide), vC_z 5 (by decide)]
    generalize hg1 : up2 (up2 (up2 (up2 g 30 1 a) 30 2 b) 30 3 y) 41 10 0 = g1 at *
    have h19 : g1 19 = g 19 := by rw [← hg1]; funext j; simp [up2]
    have h20 : g1 20 = g 20 := by rw [← hg1]; funext j; simp [up2]
    have hvM1 : vM g1 = vM g := vM_cong (fun c x y => hh c (by omega)) (fun k _ _ => by rw [hh 74 (by omega)])
    have hv : vM g1 = vC g := hvM1.trans hE.1.symm
    skip
    refine ⟨rfl, _, rfl, (m_customs a b y).weaken ?_⟩
    rintro v2 sh2 g2 z2 r2 ⟨q2, rfl, rfl, rfl⟩
    skip
    rcases q2 with ⟨b1, rfl, rfl⟩ | ⟨b1, -⟩
    · refine ⟨rfl, rfl, K, ?_, ?_, ?_, ?_, fun ix => ?_⟩
      · exact hC1.lo (fun cx hc => by rw [up2_ne (by omega), up2_ne (by omega), up2_ne (by omega), up2_ne (by omega)]) (fun _ _ => rfl)
      · have hf : ∀ cx k : Nat, 74 ≤ cx → g1 cx k = g cx k := fun cx k hc => by rw [hh cx hc]
        refine IM_mk hM1 ⟨fun j => ?_, fun j => ?_, fun j => ?_, fun j => ?_, fun j => ?_, ?_⟩ ⟨fun j => ?_, fun j => ?_, fun j => ?_, ?_, ?_, ?_, fun j hj => ?_⟩ (fun c' x y => by rw [up2_ne (by omega), up2_ne (by omega), up2_ne (by omega), up2_ne (by omega)]) ?_ ?_ up2_s ?_
        all_goals try simp only [up2_i, hf _ _ (show 74 ≤ 84 by omega), hf _ _ (show 74 ≤ 83 by omega), hf _ _ (show 74 ≤ 76 by omega), hf _ _ (show 74 ≤ 80 by omega), hf _ _ (show 74 ≤ 77 by omega), hf _ _ (show 74 ≤ 74 by omega), hf _ _ (show 74 ≤ 78 by omega), hf _ _ (show 74 ≤ 79 by omega), hf _ _ (show 74 ≤ 82 by omega), hf _ _ (show 74 ≤ 87 by omega)] at *
        · have := m1 j; (repeat' split) <;> omega
        · have := m2 j; (repeat' split) <;> omega
        · have := m3 j; (repeat' split) <;> omega
        · have := m4 j; (repeat' split) <;> omega
        · have := m5 j; (repeat' split) <;> omega
        · (repeat' split) <;> omega
        · have := n1 j; (repeat' split) <;> omega
        · have := n2 j; (repeat' split) <;> omega
        · have := n3 j; (repeat' split) <;> omega
        · (repeat' split) <;> omega
        · (repeat' split) <;> omega
        · (repeat' split) <;> omega
        · have := n7 j; simp at hj ⊢; omega
        · (repeat' split) <;> omega
        · (repeat' split) <;> omega
        · refine VN_same (g := g) ?_ ?_ ?_ ?_ ?_ ?_ hV
          · funext j; simp [up2, hf]
          · funext j; simp [up2, hf]
          · funext j; simp [up2, hf]
          · funext j; simp [up2, hf]
          · simp [up2, hf]
          · simp [up2, hf]
      · rw [vM_o2 (by omega), vM_z 7 (by decide), vM_z 6 (by decide), vM_z 5 (by decide), vC_o (by unfold vcell; omega), vC_o (by unfold vcell; omega), vC_o (by unfold vcell; omega), vC_o (by unfold vcell; omega), hvC, hvM1, hE.1]
      · simp [up2, h19, hh 74 (by omega)]; exact hE.2.1
      · have : ∀ j, (up2 (up2 (up2 (up2 g1 74 5 a) 74 6 b) 74 7 y) 74 23 0) 20 j = g1 20 j := fun j => by simp [up2]
        rw [this, h20, hE.2.2 ix]
        unfold tM
        simp [up2, hh 75 (by omega)]
    · exact absurd a1 b1
  · refine ⟨rfl, _, rfl, (m_customs a b y).weaken ?_⟩
    rintro v2 sh2 g2 z2 r2 ⟨q2, rfl, rfl, rfl⟩
    have hv : vM g1 = vC g1 := hE.1.symm
    skip
    skip
    rcases q2 with ⟨b1, -⟩ | ⟨b1, rfl, rfl⟩
    · exact absurd b1 a1
    · exact ⟨rfl, rfl, K, hC, hM, hE⟩

theorem s_died (i y : Int) : SimI (mX11_died (rmD 5 0 0)) (mX12_died (rmD 5 0 0)) [vI i, vI y] := by
  rintro g z r ⟨K, hC, hM, hE⟩
  obtain ⟨hB, hB2, hN, hC5, hF, ho, hK⟩ := hC.1.1.2.2
  have h14 := hC.1.2.1
  obtain ⟨m1, m2, m3, m4, m5, m6, m7⟩ := hM.1.1.2.1
  obtain ⟨n1, n2, n3, n4, n5, n6, n7⟩ := hM.1.1.2.2.1
  have h9 := hM.1.2.1
  have h56 := hM.1.2.2.1
  have hV := hM.2.2
  refine (p_died hC.rs hF i y).weaken ?_
  rintro v_ sh1 g1 z1 r1 ⟨q, rfl, rfl, rfl⟩
  rcases q with ⟨a1, rfl, rfl⟩ | ⟨a1, rfl, rfl⟩
  · skip
    have hC1 : IC (up2 (up2 g 17 i.toNat y) 41 10 0) z r K := by
      refine IC_mk hC ⟨fun j => ?_, fun j => ?_, fun j => ?_, fun j => ?_⟩ ⟨fun j => ?_, ?_⟩ ?_ ?_ ?_ ?_ (fun c' q => ?_) ?_ (by funext j; simp [up2]) up2_s (by funext j; simp [up2]) (by funext j; simp [up2])
      · have := hB.1 j; simp only [up2_i]; (repeat' split) <;> omega
      · have := hB.2.1 j; simp only [up2_i]; (repeat' split) <;> omega
      · have := hB.2.2.1 j; simp only [up2_i]; (repeat' split) <;> omega
      · have := hB.2.2.2 j; simp only [up2_i]; (repeat' split) <;> omega
      · have := hB2.1 j; simp only [up2_i]; (repeat' split) <;> omega
      · have := hB2.2; simp only [up2_i]; (repeat' split) <;> omega
      · simp only [up2_i]; (repeat' split) <;> omega
      · simp only [up2_i]; (repeat' split) <;> omega
      · simp only [up2_i]; (repeat' split) <;> omega
      · have e1 : (up2 (up2 g 17 i.toNat y) 41 10 0) 13 = g 13 := by funext j; simp [up2]
        have e2 : (up2 (up2 g 17 i.toNat y) 41 10 0) 11 = g 11 := by funext j; simp [up2]
        have e3 : (up2 (up2 g 17 i.toNat y) 41 10 0) 18 = g 18 := by funext j; simp [up2]
        rw [e1, e2, e3]; exact ho
      · unfold cuc at q; rw [up2_ne (by omega), up2_ne (by omega)]
      · simp only [up2_i]; (repeat' split) <;> omega
    have hh : ∀ cx : Nat, 74 ≤ cx → (up2 (up2 g 17 i.toNat y) 41 10 0) cx = g cx := fun cx hc => by rw [up2_ne (by omega), up2_ne (by omega)]
    have hM1 : IM (up2 (up2 g 17 i.toNat y) 41 10 0) z r K := hM.hi hh (fun _ _ => rfl) hC.rs
    have hvC : vC (up2 (up2 g 17 i.toNat y) 41 10 0) = up2 (vC g) 13 i.toNat y := by
      rw [vC_o (by unfold vcell; omega), vC_u 13 (by decide)]
    generalize hg1 : up2 (up2 g 17 i.toNat y) 41 10 0 = g1 at *
    have h19 : g1 19 = g 19 := by rw [← hg1]; funext j; simp [up2]
    have h20 : g1 20 = g 20 := by rw [← hg1]; funext j; simp [up2]
    have hvM1 : vM g1 = vM g := vM_cong (fun c x y => hh c (by omega)) (fun k _ _ => by rw [hh 74 (by omega)])
    have hv : vM g1 = vC g := hvM1.trans hE.1.symm
    have e2 : g1 74 4 = g 11 7 := congrFun (congrFun hv 0) 2
    have e84 : g1 84 i.toNat = g 13 i.toNat := congrFun (congrFun hv 9) i.toNat
    refine ⟨rfl, _, rfl, (m_died hC.rs hM1.1.1.2.2.1.2.2.2.2.2.1 i y).weaken ?_⟩
    rintro v2 sh2 g2 z2 r2 ⟨q2, rfl, rfl, rfl⟩
    rw [e2, e84] at q2
    rcases q2 with ⟨b1, rfl, rfl⟩ | ⟨b1, -⟩
    · refine ⟨rfl, rfl, K, ?_, ?_, ?_, ?_, fun ix => ?_⟩
      · exact hC1.lo (fun cx hc => by rw [up2_ne (by omega), up2_ne (by omega)]) (fun _ _ => rfl)
      · have hf : ∀ cx k : Nat, 74 ≤ cx → g1 cx k = g cx k := fun cx k hc => by rw [hh cx hc]
        refine IM_mk hM1 ⟨fun j => ?_, fun j => ?_, fun j => ?_, fun j => ?_, fun j => ?_, ?_⟩ ⟨fun j => ?_, fun j => ?_, fun j => ?_, ?_, ?_, ?_, fun j hj => ?_⟩ (fun c' x y => by rw [up2_ne (by omega), up2_ne (by omega)]) ?_ ?_ up2_s ?_
        all_goals try simp only [up2_i, hf _ _ (show 74 ≤ 84 by omega), hf _ _ (show 74 ≤ 83 by omega), hf _ _ (show 74 ≤ 76 by omega), hf _ _ (show 74 ≤ 80 by omega), hf _ _ (show 74 ≤ 77 by omega), hf _ _ (show 74 ≤ 74 by omega), hf _ _ (show 74 ≤ 78 by omega), hf _ _ (show 74 ≤ 79 by omega), hf _ _ (show 74 ≤ 82 by omega), hf _ _ (show 74 ≤ 87 by omega)] at *
        · have := m1 j; (repeat' split) <;> omega
        · have := m2 j; (repeat' split) <;> omega
        · have := m3 j; (repeat' split) <;> omega
        · have := m4 j; (repeat' split) <;> omega
        · have := m5 j; (repeat' split) <;> omega
        · (repeat' split) <;> omega
        · have := n1 j; (repeat' split) <;> omega
        · have := n2 j; (repeat' split) <;> omega
        · have := n3 j; (repeat' split) <;> omega
        · (repeat' split) <;> omega
        · (repeat' split) <;> omega
        · (repeat' split) <;> omega
        · have := n7 j; simp at hj ⊢; omega
        · (repeat' split) <;> omega
        · (repeat' split) <;> omega
        · refine VN_same (g := g) ?_ ?_ ?_ ?_ ?_ ?_ hV
          · funext j; simp [up2, hf]
          · funext j; simp [up2, hf]
          · funext j; simp [up2, hf]
          · funext j; simp [up2, hf]
          · simp [up2, hf]
          · simp [up2, hf]
      · rw [vM_o2 (by omega), vM_u 13 (by decide), vC_o (by unfold vcell; omega), vC_o (by unfold vcell; omega), hvC, hvM1, hE.1]
      · simp [up2, h19, hh 74 (by omega)]; exact hE.2.1
      · have : ∀ j, (up2 (up2 g1 88 i.toNat y) 74 23 0) 20 j = g1 20 j := fun j => by simp [up2]
        rw [this, h20, hE.2.2 ix]
        unfold tM
        simp [up2, hh 75 (by omega)]
    · exact absurd a1 b1
  · refine ⟨rfl, _, rfl, (m_died hC.rs hM.1.1.2.2.1.2.2.2.2.2.1 i y).weaken ?_⟩
    rintro v2 sh2 g2 z2 r2 ⟨q2, rfl, rfl, rfl⟩
    have hv : vM g1 = vC g1 := hE.1.symm
    have e2 : g1 74 4 = g1 11 7 := congrFun (congrFun hv 0) 2
    have e84 : g1 84 i.toNat = g1 13 i.toNat := congrFun (congrFun hv 9) i.toNat
    rw [e2, e84] at q2
    rcases q2 with ⟨b1, -⟩ | ⟨b1, rfl, rfl⟩
    · exact absurd b1 a1
    · exact ⟨rfl, rfl, K, hC, hM, hE⟩

theorem s_parent (c w v : Int) : SimI (mX11_parent (rmD 5 0 0)) (mX12_parent (rmD 5 0 0)) [vI c, vI w, vI v] := by
  rintro g z r ⟨K, hC, hM, hE⟩
  obtain ⟨hB, hB2, hN, hC5, hF, ho, hK⟩ := hC.1.1.2.2
  have h14 := hC.1.2.1
  obtain ⟨m1, m2, m3, m4, m5, m6, m7⟩ := hM.1.1.2.1
  obtain ⟨n1, n2, n3, n4, n5, n6, n7⟩ := hM.1.1.2.2.1
  have h9 := hM.1.2.1
  have h56 := hM.1.2.2.1
  have hV := hM.2.2
  refine (p_parent hC.rs hN hC5 c w v).weaken ?_
  rintro v_ sh1 g1 z1 r1 ⟨q, rfl, rfl, rfl⟩
  rcases q with ⟨a1, rfl, rfl⟩ | ⟨a1, rfl, rfl⟩
  · have hv1 : -1 ≤ v := by
      rcases a1.2.2.2.2 with h | h
      · omega
      · have := h.1; omega
    have hC1 : IC (up2 (up2 g 10 (c * 4 + w).toNat v) 41 10 0) z r K := by
      refine IC_mk hC ⟨fun j => ?_, fun j => ?_, fun j => ?_, fun j => ?_⟩ ⟨fun j => ?_, ?_⟩ ?_ ?_ ?_ ?_ (fun c' q => ?_) ?_ (by funext j; simp [up2]) up2_s (by funext j; simp [up2]) (by funext j; simp [up2])
      · have := hB.1 j; simp only [up2_i]; (repeat' split) <;> omega
      · have := hB.2.1 j; simp only [up2_i]; (repeat' split) <;> omega
      · have := hB.2.2.1 j; simp only [up2_i]; (repeat' split) <;> omega
      · have := hB.2.2.2 j; simp only [up2_i]; (repeat' split) <;> omega
      · have := hB2.1 j; simp only [up2_i]; (repeat' split) <;> omega
      · have := hB2.2; simp only [up2_i]; (repeat' split) <;> omega
      · simp only [up2_i]; (repeat' split) <;> omega
      · simp only [up2_i]; (repeat' split) <;> omega
      · simp only [up2_i]; (repeat' split) <;> omega
      · have e1 : (up2 (up2 g 10 (c * 4 + w).toNat v) 41 10 0) 13 = g 13 := by funext j; simp [up2]
        have e2 : (up2 (up2 g 10 (c * 4 + w).toNat v) 41 10 0) 11 = g 11 := by funext j; simp [up2]
        have e3 : (up2 (up2 g 10 (c * 4 + w).toNat v) 41 10 0) 18 = g 18 := by funext j; simp [up2]
        rw [e1, e2, e3]; exact ho
      · unfold cuc at q; rw [up2_ne (by omega), up2_ne (by omega)]
      · simp only [up2_i]; (repeat' split) <;> omega
    have hh : ∀ cx : Nat, 74 ≤ cx → (up2 (up2 g 10 (c * 4 + w).toNat v) 41 10 0) cx = g cx := fun cx hc => by rw [up2_ne (by omega), up2_ne (by omega)]
    have hM1 : IM (up2 (up2 g 10 (c * 4 + w).toNat v) 41 10 0) z r K := hM.hi hh (fun _ _ => rfl) hC.rs
    have hvC : vC (up2 (up2 g 10 (c * 4 + w).toNat v) 41 10 0) = up2 (vC g) 7 (c * 4 + w).toNat v := by
      rw [vC_o (by unfold vcell; omega), vC_u 7 (by decide)]
    generalize hg1 : up2 (up2 g 10 (c * 4 + w).toNat v) 41 10 0 = g1 at *
    have h19 : g1 19 = g 19 := by rw [← hg1]; funext j; simp [up2]
    have h20 : g1 20 = g 20 := by rw [← hg1]; funext j; simp [up2]
    have hvM1 : vM g1 = vM g := vM_cong (fun c x y => hh c (by omega)) (fun k _ _ => by rw [hh 74 (by omega)])
    have hv : vM g1 = vC g := hvM1.trans hE.1.symm
    have e1 : g1 74 3 = g 5 5 := congrFun (congrFun hv 0) 1
    refine ⟨rfl, _, rfl, (m_parent hC.rs hM1.1.1.2.2.1.2.2.2.1 hM1.1.1.2.2.1.2.2.2.2.1 c w v).weaken ?_⟩
    rintro v2 sh2 g2 z2 r2 ⟨q2, rfl, rfl, rfl⟩
    rw [e1, hv, show 4 * c + w = c * 4 + w by omega] at q2
    rcases q2 with ⟨b1, rfl, rfl⟩ | ⟨b1, -⟩
    · refine ⟨rfl, rfl, K, ?_, ?_, ?_, ?_, fun ix => ?_⟩
      · exact hC1.lo (fun cx hc => by rw [up2_ne (by omega), up2_ne (by omega)]) (fun _ _ => rfl)
      · have hf : ∀ cx k : Nat, 74 ≤ cx → g1 cx k = g cx k := fun cx k hc => by rw [hh cx hc]
        refine IM_mk hM1 ⟨fun j => ?_, fun j => ?_, fun j => ?_, fun j => ?_, fun j => ?_, ?_⟩ ⟨fun j => ?_, fun j => ?_, fun j => ?_, ?_, ?_, ?_, fun j hj => ?_⟩ (fun c' x y => by rw [up2_ne (by omega), up2_ne (by omega)]) ?_ ?_ up2_s ?_
        all_goals try simp only [up2_i, hf _ _ (show 74 ≤ 84 by omega), hf _ _ (show 74 ≤ 83 by omega), hf _ _ (show 74 ≤ 76 by omega), hf _ _ (show 74 ≤ 80 by omega), hf _ _ (show 74 ≤ 77 by omega), hf _ _ (show 74 ≤ 74 by omega), hf _ _ (show 74 ≤ 78 by omega), hf _ _ (show 74 ≤ 79 by omega), hf _ _ (show 74 ≤ 82 by omega), hf _ _ (show 74 ≤ 87 by omega)] at *
        · have := m1 j; (repeat' split) <;> omega
        · have := m2 j; (repeat' split) <;> omega
        · have := m3 j; (repeat' split) <;> omega
        · have := m4 j; (repeat' split) <;> omega
        · have := m5 j; (repeat' split) <;> omega
        · (repeat' split) <;> omega
        · have := n1 j; (repeat' split) <;> omega
        · have := n2 j; (repeat' split) <;> omega
        · have := n3 j; (repeat' split) <;> omega
        · (repeat' split) <;> omega
        · (repeat' split) <;> omega
        · (repeat' split) <;> omega
        · have := n7 j; simp at hj ⊢; omega
        · (repeat' split) <;> omega
        · (repeat' split) <;> omega
        · refine VN_parent (g := g) (c := c) (w := w) (v := v) ?_ ?_ ?_ (fun j => ?_) ?_ ?_ ⟨a1.1, by rw [hE.c]; exact a1.2.1⟩ ⟨a1.2.2.1, a1.2.2.2.1⟩ ?_ hV
          · funext j; simp [up2, hf]
          · funext j; simp [up2, hf]
          · funext j; simp [up2, hf]
          · simp [up2, hf]
          · simp [up2, hf]
          · simp [up2, hf]
          · rcases a1.2.2.2.2 with q | ⟨q1, q2, q3⟩
            · exact Or.inl q
            · exact Or.inr ⟨q1, by rw [hE.n]; exact q2, by rw [← q3]; exact (congrFun (congrFun hE.1 1) v.toNat).symm⟩
      · rw [vM_o2 (by omega), vM_u 7 (by decide), vC_o (by unfold vcell; omega), vC_o (by unfold vcell; omega), hvC, hvM1, hE.1]
      · simp [up2, h19, hh 74 (by omega)]; exact hE.2.1
      · have : ∀ j, (up2 (up2 g1 82 (c * 4 + w).toNat v) 74 23 0) 20 j = g1 20 j := fun j => by simp [up2]
        rw [this, h20, hE.2.2 ix]
        unfold tM
        simp [up2, hh 75 (by omega)]
    · exact absurd a1 b1
  · refine ⟨rfl, _, rfl, (m_parent hC.rs hM.1.1.2.2.1.2.2.2.1 hM.1.1.2.2.1.2.2.2.2.1 c w v).weaken ?_⟩
    rintro v2 sh2 g2 z2 r2 ⟨q2, rfl, rfl, rfl⟩
    have hv : vM g1 = vC g1 := hE.1.symm
    have e1 : g1 74 3 = g1 5 5 := congrFun (congrFun hv 0) 1
    rw [e1, hv, show 4 * c + w = c * 4 + w by omega] at q2
    rcases q2 with ⟨b1, -⟩ | ⟨b1, rfl, rfl⟩
    · exact absurd b1 a1
    · exact ⟨rfl, rfl, K, hC, hM, hE⟩

end MUT3
