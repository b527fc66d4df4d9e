section MUT2
variable {g g' z z' : GG} {r r' : RR} {K : Nat → CUS}
def cuc (c : Nat) : Prop := ¬ stc c ∧ ((24 ≤ c ∧ c ≤ 28) ∨ (50 ≤ c ∧ c ≤ 73))
theorem ciK_cg (h : ∀ c', cuc c' → g' c' = g c') (hT : TL r) (H : ciK g r K) : ciK g' r K := by
  intro k hk
  have hc := (hT k hk).1
  have hcell : ∀ d, d < 5 → g' (tc r k + d) = g (tc r k + d) := fun d hd => h _ (by unfold cuc stc; rcases hc with e | e | e | e | e <;> rw [e] <;> omega)
  have := H k hk
  unfold CuIs at this ⊢
  rw [show g' (tc r k) = g (tc r k) from hcell 0 (by omega), hcell 1 (by omega), hcell 2 (by omega), hcell 3 (by omega), hcell 4 (by omega)]
  exact this
theorem DR_cc (h : ∀ c', cuc c' → g' c' = g c') (H : DR g r) : DR g' r := by
  obtain ⟨dc, h1, h2, h3, h4, h5⟩ := H
  refine ⟨dc, h1, h2, ?_, h4, h5⟩
  unfold VBd at h3 ⊢
  rw [h (dc + 4) (by unfold cuc stc; rcases h2 with e | e | e | e | e <;> rw [e] <;> omega)]
  exact h3
theorem IC_mk (H : IC g z r K) (hB : BD g') (hB2 : BD2 g') (h2 : 0 ≤ g' 2 2 ∧ g' 2 2 ≤ 16) (h5 : 0 ≤ g' 5 5 ∧ g' 5 5 ≤ 6) (h11 : 0 ≤ g' 11 7 ∧ g' 11 7 ≤ 10) (ho : ∀ (j a : Nat), (ordL (g' 13) (g' 11 7).toNat)[j]? = some a → g' 18 j = (a : Int)) (hc : ∀ c', cuc c' → g' c' = g c') (h14 : 0 ≤ g' 1 4 ∧ g' 1 4 ≤ 1000) (h43 : g' 43 = g 43) (h41 : g' 41 10 = 0) (h19 : g' 19 = g 19) (h20 : g' 20 = g 20) : IC g' z r K :=
  ⟨⟨⟨H.1.1.1, H.1.1.2.1, hB, hB2, h2, h5, h11, ho, ciK_cg hc H.1.1.2.1 H.1.1.2.2.2.2.2.2.2.2⟩, h14, by rw [h43]; exact H.1.2.2.1, Or.inl h41⟩, DR_cc hc H.2.1, by rw [h19]; exact H.2.2.1, by rw [h20]; exact H.2.2.2⟩
/-- the WAYS' result is forgotten -/
theorem IC_off (H : IC g z r K) : IC (up2 g 41 10 0) z r K := by
  have e : ∀ c, c ≠ 41 → up2 g 41 10 0 c = g c := fun c hc => up2_ne hc
  obtain ⟨⟨⟨h1, h2, h3, h4, h5, h6, h7, h8, h9⟩, h14, h43, -⟩, hD, h19, h20⟩ := H
  have hc : ∀ c', cuc c' → up2 g 41 10 0 c' = g c' := fun c' q => e c' (by unfold cuc at q; omega)
  exact ⟨⟨⟨h1, h2, BD_cong (fun c' q => e c' (by unfold vcell at q; omega)) h3, by unfold BD2; rw [e 4 (by omega), e 1 (by omega)]; exact h4, by rw [e 2 (by omega)]; exact h5, by rw [e 5 (by omega)]; exact h6, by rw [e 11 (by omega)]; exact h7, by rw [e 13 (by omega), e 11 (by omega), e 18 (by omega)]; exact h8, ciK_cg hc h2 h9⟩, by rw [e 1 (by omega)]; exact h14, by rw [e 43 (by omega)]; exact h43, Or.inl up2_s⟩, DR_cc hc hD, by rw [e 19 (by omega)]; exact h19, by rw [e 20 (by omega)]; exact h20⟩
theorem IV_off (hC : IC g z r K) (hM : IM g z r K) (hE : EQ g) : IC (up2 g 41 10 0) z r K ∧ IM (up2 g 41 10 0) z r K ∧ EQ (up2 g 41 10 0) := by
  refine ⟨IC_off hC, hM.hi (fun c hc => up2_ne (by omega)) (fun _ _ => rfl) hC.rs, ?_, ?_, ?_⟩
  · rw [vC_o (by unfold vcell; omega), vM_o (by omega)]; exact hE.1
  · rw [up2_ne (by omega), up2_ne (by omega)]; exact hE.2.1
  · unfold tM; rw [up2_ne (by omega), up2_ne (by omega)]; exact hE.2.2
theorem IM_mk (H : IM g z r K) (hB : BM g') (hB2 : BM2 g') (hc : ∀ c', 89 ≤ c' → c' ≤ 94 → g' c' = g c') (h9 : 0 ≤ g' 74 9 ∧ g' 74 9 ≤ 1000) (h56 : (-1 ≤ g' 74 5 ∧ g' 74 5 < 4) ∧ (-1 ≤ g' 74 6 ∧ g' 74 6 < 4)) (h23 : g' 74 23 = 0) (hV : VN g') : IM g' z r K := by
  refine ⟨⟨⟨H.1.1.1, hB, hB2, kmK_cong hc H.1.1.2.2.2⟩, h9, h56, Or.inl h23⟩, ?_, hV⟩
  unfold KmR; rw [hc 91 (by omega) (by omega), hc 92 (by omega) (by omega)]; exact H.2.1
theorem up2_i {c k c' k' : Nat} {v : Int} : up2 g c k v c' k' = if c' = c ∧ k' = k then v else g c' k' := rfl
theorem VN_name {n : Nat} (h78 : g' 78 = g 78) (h79 : g' 79 = g 79) (h82 : g' 82 = g 82) (h76 : ∀ j, j ≠ n → g' 76 j = g 76 j) (h2 : g' 74 2 = (n : Int) + 1) (h3 : g' 74 3 = g 74 3) (hn : g 74 2 = (n : Int)) (H : VN g) : VN g' := by
  obtain ⟨v1, v2⟩ := H
  unfold VN
  rw [h78, h79, h82, h2, h3]
  refine ⟨fun c hc => ?_, fun c w hc hw => ?_⟩
  · obtain ⟨⟨a1, a2, a3⟩, b1, b2, b3⟩ := v1 c hc
    rw [h76 _ (by omega), h76 _ (by omega)]
    exact ⟨⟨a1, by omega, a3⟩, b1, by omega, b3⟩
  · rcases v2 c w hc hw with q | ⟨a1, a2, a3⟩
    · exact Or.inl q
    · rw [h76 _ (by omega)]
      exact Or.inr ⟨a1, by omega, a3⟩
theorem VN_same (h78 : g' 78 = g 78) (h79 : g' 79 = g 79) (h82 : g' 82 = g 82) (h76 : g' 76 = g 76) (h2 : g' 74 2 = g 74 2) (h3 : g' 74 3 = g 74 3) (H : VN g) : VN g' := by
  unfold VN; rw [h78, h79, h82, h76, h2, h3]; exact H
theorem s_name (a b : Int) : SimI (mX11_name (rmD 5 0 0)) (mX12_name (rmD 5 0 0)) [vI a, vI b] := by
  rintro g z r ⟨K, hC, hM, hE⟩
  obtain ⟨hB, hB2, hN, hC5, hF, ho, hK⟩ := hC.1.1.2.2
  have h14 := hC.1.2.1
  obtain ⟨m1, m2, m3, m4, m5, m6, m7⟩ := hM.1.1.2.1
  obtain ⟨n1, n2, n3, n4, n5, n6, n7⟩ := hM.1.1.2.2.1
  have h9 := hM.1.2.1
  have h56 := hM.1.2.2.1
  obtain ⟨v1, v2⟩ := hM.2.2
  refine (p_name hC.rs hN a b).weaken ?_
  rintro v sh1 g1 z1 r1 ⟨q, rfl, rfl, rfl⟩
  rcases q with ⟨a1, rfl, rfl⟩ | ⟨a1, rfl, rfl⟩
  · generalize hn : (g 2 2).toNat = n
    have hn' : g 2 2 = (n : Int) := by omega
    have hC1 : IC (up2 (up2 (up2 (up2 g 3 n a) 4 n b) 2 2 (g 2 2 + 1)) 41 10 0) z r K := by
      refine IC_mk hC ⟨fun j => ?_, fun j => ?_, fun j => ?_, fun j => ?_⟩ ⟨fun j => ?_, ?_⟩ ?_ ?_ ?_ ?_ (fun c' q => ?_) ?_ (by funext j; simp [up2]) up2_s (by funext j; simp [up2]) (by funext j; simp [up2])
      · have := hB.1 j; simp only [up2_i]; (repeat' split) <;> omega
      · have := hB.2.1 j; simp only [up2_i]; (repeat' split) <;> omega
      · have := hB.2.2.1 j; simp only [up2_i]; (repeat' split) <;> omega
      · have := hB.2.2.2 j; simp only [up2_i]; (repeat' split) <;> omega
      · have := hB2.1 j; simp only [up2_i]; (repeat' split) <;> omega
      · have := hB2.2; simp only [up2_i]; (repeat' split) <;> omega
      · simp only [up2_i]; (repeat' split) <;> omega
      · simp only [up2_i]; (repeat' split) <;> omega
      · simp only [up2_i]; (repeat' split) <;> omega
      · have e1 : (up2 (up2 (up2 (up2 g 3 n a) 4 n b) 2 2 (g 2 2 + 1)) 41 10 0) 13 = g 13 := by funext j; simp [up2]
        have e2 : (up2 (up2 (up2 (up2 g 3 n a) 4 n b) 2 2 (g 2 2 + 1)) 41 10 0) 11 = g 11 := by funext j; simp [up2]
        have e3 : (up2 (up2 (up2 (up2 g 3 n a) 4 n b) 2 2 (g 2 2 + 1)) 41 10 0) 18 = g 18 := by funext j; simp [up2]
        rw [e1, e2, e3]; exact ho
      · unfold cuc at q; rw [up2_ne (by omega), up2_ne (by omega), up2_ne (by omega), up2_ne (by omega)]
      · simp only [up2_i]; (repeat' split) <;> omega
    have hh : ∀ c, 74 ≤ c → (up2 (up2 (up2 (up2 g 3 n a) 4 n b) 2 2 (g 2 2 + 1)) 41 10 0) c = g c := fun c hc => by rw [up2_ne (by omega), up2_ne (by omega), up2_ne (by omega), up2_ne (by omega)]
    have hM1 : IM (up2 (up2 (up2 (up2 g 3 n a) 4 n b) 2 2 (g 2 2 + 1)) 41 10 0) z r K := hM.hi hh (fun _ _ => rfl) hC.rs
    have hvC : vC (up2 (up2 (up2 (up2 g 3 n a) 4 n b) 2 2 (g 2 2 + 1)) 41 10 0) = up2 (up2 (up2 (vC g) 1 n a) 2 n b) 0 0 (g 2 2 + 1) := by
      rw [vC_o (by unfold vcell; omega), vC_z 0 (by decide), vC_u 2 (by decide), vC_u 1 (by decide)]
    generalize hg1 : up2 (up2 (up2 (up2 g 3 n a) 4 n b) 2 2 (g 2 2 + 1)) 41 10 0 = g1 at *
    have e2 : g1 74 2 = (n : Int) := by rw [hh 74 (by omega), hE.n, hn']
    have h19 : g1 19 = g 19 := by rw [← hg1]; funext j; simp [up2]
    have h20 : g1 20 = g 20 := by rw [← hg1]; funext j; simp [up2]
    have hvM1 : vM g1 = vM g := vM_cong (fun c x y => hh c (by omega)) (fun k _ _ => by rw [hh 74 (by omega)])
    refine ⟨rfl, _, rfl, (m_name hC.rs (by rw [e2]; omega) a b).weaken ?_⟩
    rintro v2 sh2 g2 z2 r2 ⟨q2, rfl, rfl, rfl⟩
    rw [e2] at q2
    rcases q2 with ⟨b1, rfl, rfl⟩ | ⟨b1, -⟩
    · rw [show (n : Int).toNat = n by omega]
      refine ⟨rfl, by rw [hn'], K, ?_, ?_, ?_, ?_, fun i => ?_⟩
      · exact hC1.lo (fun c hc => by rw [up2_ne (by omega), up2_ne (by omega), up2_ne (by omega), up2_ne (by omega)]) (fun _ _ => rfl)
      · have hf : ∀ c k, 74 ≤ c → g1 c k = g c k := fun c k hc => by rw [hh c hc]
        refine IM_mk hM1 ⟨fun j => ?_, fun j => ?_, fun j => ?_, fun j => ?_, fun j => ?_, ?_⟩ ⟨fun j => ?_, fun j => ?_, fun j => ?_, ?_, ?_, ?_, fun j hj => ?_⟩ (fun c' x y => by rw [up2_ne (by omega), up2_ne (by omega), up2_ne (by omega), up2_ne (by omega)]) ?_ ?_ up2_s ?_
        all_goals simp only [up2_i, hf _ _ (show 74 ≤ 84 by omega), hf _ _ (show 74 ≤ 83 by omega), hf _ _ (show 74 ≤ 76 by omega), hf _ _ (show 74 ≤ 80 by omega), hf _ _ (show 74 ≤ 77 by omega), hf _ _ (show 74 ≤ 74 by omega), hf _ _ (show 74 ≤ 78 by omega), hf _ _ (show 74 ≤ 79 by omega), hf _ _ (show 74 ≤ 82 by omega), hf _ _ (show 74 ≤ 87 by omega)] at *
        · have := m1 j; (repeat' split) <;> omega
        · have := m2 j; (repeat' split) <;> omega
        · have := m3 j; (repeat' split) <;> omega
        · have := m4 j; (repeat' split) <;> omega
        · have := m5 j; (repeat' split) <;> omega
        · (repeat' split) <;> omega
        · have := n1 j; (repeat' split) <;> omega
        · have := n2 j; (repeat' split) <;> omega
        · have := n3 j; (repeat' split) <;> omega
        · (repeat' split) <;> omega
        · (repeat' split) <;> omega
        · (repeat' split) <;> omega
        · have := n7 j; have := hE.n; simp at hj ⊢; omega
        · (repeat' split) <;> omega
        · (repeat' split) <;> omega
        · refine VN_name (n := n) (g := g) ?_ ?_ ?_ (fun j hj => ?_) ?_ ?_ (hE.n.trans hn') ⟨v1, v2⟩
          · funext j; simp [up2, hf]
          · funext j; simp [up2, hf]
          · funext j; simp [up2, hf]
          · simp [up2, hf, hj]
          · simp [up2]
          · simp [up2, hf]
      · rw [vM_o2 (by omega), vM_z 0 (by decide), vM_u 2 (by decide), vM_u 1 (by decide), vC_o (by unfold vcell; omega), vC_o (by unfold vcell; omega), vC_o (by unfold vcell; omega), vC_o (by unfold vcell; omega), hvC, hvM1, hE.1, hn']
      · simp [up2, h19, hh 74 (by omega)]; exact hE.2.1
      · have : ∀ j, up2 (up2 (up2 (up2 g1 76 n a) 77 n b) 74 2 ((n : Int) + 1)) 74 23 0 20 j = g1 20 j := fun j => by simp [up2]
        rw [this, h20, hE.2.2 i]
        unfold tM
        simp [up2, hh 75 (by omega)]
    · exact absurd (by omega) b1
  · obtain ⟨hC1, hM1, hE1⟩ := IV_off hC hM hE
    refine ⟨rfl, _, rfl, (m_name hC.rs hM1.1.1.2.2.1.2.2.2.1 a b).weaken ?_⟩
    rintro v2 sh2 g2 z2 r2 ⟨q2, rfl, rfl, rfl⟩
    rw [show up2 g 41 10 0 74 2 = g 2 2 by rw [up2_ne (by omega)]; exact hE.n] at q2
    rcases q2 with ⟨b1, -⟩ | ⟨b1, rfl, rfl⟩
    · exact absurd b1 a1
    · exact ⟨rfl, rfl, K, hC1, hM1, hE1⟩
end MUT2
