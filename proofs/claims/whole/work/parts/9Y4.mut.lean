section MUT4
variable {g g' z z' : GG} {r r' : RR} {K : Nat → CUS}
theorem VN_couple {n : Nat} {a b : Int} (h78 : ∀ j, g' 78 j = if j = n then a else g 78 j) (h79 : ∀ j, g' 79 j = if j = n then b else g 79 j) (h76 : g' 76 = g 76) (h82 : ∀ c w, w < 4 → g' 82 (c * 4 + w) = if c = n then -1 else g 82 (c * 4 + w)) (h2 : g' 74 2 = g 74 2) (h3 : g' 74 3 = (n : Int) + 1) (hn : g 74 3 = (n : Int)) (ha : 0 ≤ a ∧ a < g 74 2 ∧ g 76 a.toNat = 0) (hb : 0 ≤ b ∧ b < g 74 2 ∧ g 76 b.toNat = 1) (H : VN g) : VN g' := by
  obtain ⟨v1, v2⟩ := H
  unfold VN
  rw [h76, h2, h3]
  refine ⟨fun c hc => ?_, fun c w hc hw => ?_⟩
  · rw [h78, h79]
    by_cases e : c = n
    · rw [if_pos e, if_pos e]; exact ⟨ha, hb⟩
    · rw [if_neg e, if_neg e]; exact v1 c (by omega)
  · rw [h82 c w hw]
    by_cases e : c = n
    · rw [if_pos e]; exact Or.inl rfl
    · rw [if_neg e]; exact v2 c w (by omega) hw
def cgC (g : GG) (n : Nat) (a b w l : Int) : GG := up2 (up2 (up2 (up2 (up2 (up2 (up2 (up2 (up2 (up2 g 6 n a) 7 n b) 8 n w) 9 n l) 10 ((n : Int) * 4 + 0).toNat (-1)) 10 ((n : Int) * 4 + 1).toNat (-1)) 10 ((n : Int) * 4 + 2).toNat (-1)) 10 ((n : Int) * 4 + 3).toNat (-1)) 5 5 ((n : Int) + 1)) 41 10 0
def cgM (g : GG) (n : Nat) (a b w l : Int) : GG := up2 (up2 (up2 (up2 (up2 (up2 (up2 (up2 (up2 (up2 g 78 n a) 79 n b) 80 n w) 81 n l) 82 ((n : Int) * 4 + 0).toNat (-1)) 82 ((n : Int) * 4 + 1).toNat (-1)) 82 ((n : Int) * 4 + 2).toNat (-1)) 82 ((n : Int) * 4 + 3).toNat (-1)) 74 3 ((n : Int) + 1)) 74 23 0
def cgV (s : VW) (n : Nat) (a b w l : Int) : VW := up2 (up2 (up2 (up2 (up2 (up2 (up2 (up2 (up2 s 3 n a) 4 n b) 5 n w) 6 n l) 7 ((n : Int) * 4 + 0).toNat (-1)) 7 ((n : Int) * 4 + 1).toNat (-1)) 7 ((n : Int) * 4 + 2).toNat (-1)) 7 ((n : Int) * 4 + 3).toNat (-1)) 0 1 ((n : Int) + 1)
variable {n : Nat} {a b w l : Int}
theorem cgC_o {c : Nat} (h : c ≠ 41 ∧ c ≠ 5 ∧ c ≠ 10 ∧ c ≠ 9 ∧ c ≠ 8 ∧ c ≠ 7 ∧ c ≠ 6) : cgC g n a b w l c = g c := by
  obtain ⟨h1, h2, h3, h4, h5, h6, h7⟩ := h
  unfold cgC
  rw [up2_ne h1, up2_ne h2, up2_ne h3, up2_ne h3, up2_ne h3, up2_ne h3, up2_ne h4, up2_ne h5, up2_ne h6, up2_ne h7]
theorem cgM_o {c : Nat} (h : c ≠ 74 ∧ c ≠ 82 ∧ c ≠ 81 ∧ c ≠ 80 ∧ c ≠ 79 ∧ c ≠ 78) : cgM g n a b w l c = g c := by
  obtain ⟨h1, h3, h4, h5, h6, h7⟩ := h
  unfold cgM
  rw [up2_ne h1, up2_ne h1, up2_ne h3, up2_ne h3, up2_ne h3, up2_ne h3, up2_ne h4, up2_ne h5, up2_ne h6, up2_ne h7]
theorem cgC_v : vC (cgC g n a b w l) = cgV (vC g) n a b w l := by
  unfold cgC cgV
  rw [vC_o (by unfold vcell; omega), vC_z 1 (by decide), vC_u 7 (by decide), vC_u 7 (by decide), vC_u 7 (by decide), vC_u 7 (by decide), vC_u 6 (by decide), vC_u 5 (by decide), vC_u 4 (by decide), vC_u 3 (by decide)]
theorem cgM_v : vM (cgM g n a b w l) = cgV (vM g) n a b w l := by
  unfold cgM cgV
  rw [vM_o2 (by omega), vM_z 1 (by decide), vM_u 7 (by decide), vM_u 7 (by decide), vM_u 7 (by decide), vM_u 7 (by decide), vM_u 6 (by decide), vM_u 5 (by decide), vM_u 4 (by decide), vM_u 3 (by decide)]
theorem up2_if {f : GG} {c k j : Nat} {v : Int} : up2 f c k v c j = if j = k then v else f c j := by
  unfold up2
  by_cases h : j = k
  · rw [if_pos ⟨rfl, h⟩, if_pos h]
  · rw [if_neg (fun q => h q.2), if_neg h]
theorem cgC_8 (j : Nat) : cgC g n a b w l 8 j = if j = n then w else g 8 j := by
  unfold cgC
  rw [up2_ne (by omega), up2_ne (by omega), up2_ne (by omega), up2_ne (by omega), up2_ne (by omega), up2_ne (by omega), up2_ne (by omega), up2_if, up2_ne (by omega), up2_ne (by omega)]
theorem cgC_5 : cgC g n a b w l 5 5 = (n : Int) + 1 := by unfold cgC; rw [up2_ne (by omega), up2_s]
theorem cgC_41 : cgC g n a b w l 41 10 = 0 := by unfold cgC; rw [up2_s]
theorem cgM_74 {k : Nat} (h : k ≠ 23) (h' : k ≠ 3) : cgM g n a b w l 74 k = g 74 k := by
  unfold cgM
  rw [up2_k h, up2_k h', up2_ne (by omega), up2_ne (by omega), up2_ne (by omega), up2_ne (by omega), up2_ne (by omega), up2_ne (by omega), up2_ne (by omega), up2_ne (by omega)]
theorem cgM_3 : cgM g n a b w l 74 3 = (n : Int) + 1 := by unfold cgM; rw [up2_k (by omega), up2_s]
theorem cgM_23 : cgM g n a b w l 74 23 = 0 := by unfold cgM; rw [up2_s]
theorem cgM_80 (j : Nat) : cgM g n a b w l 80 j = if j = n then w else g 80 j := by
  unfold cgM
  rw [up2_ne (by omega), up2_ne (by omega), up2_ne (by omega), up2_ne (by omega), up2_ne (by omega), up2_ne (by omega), up2_ne (by omega), up2_if, up2_ne (by omega), up2_ne (by omega)]
theorem cgM_78 (j : Nat) : cgM g n a b w l 78 j = if j = n then a else g 78 j := by
  unfold cgM
  rw [up2_ne (by omega), up2_ne (by omega), up2_ne (by omega), up2_ne (by omega), up2_ne (by omega), up2_ne (by omega), up2_ne (by omega), up2_ne (by omega), up2_ne (by omega), up2_if]
theorem cgM_79 (j : Nat) : cgM g n a b w l 79 j = if j = n then b else g 79 j := by
  unfold cgM
  rw [up2_ne (by omega), up2_ne (by omega), up2_ne (by omega), up2_ne (by omega), up2_ne (by omega), up2_ne (by omega), up2_ne (by omega), up2_ne (by omega), up2_if, up2_ne (by omega)]
theorem cgM_82 (c k : Nat) (hk : k < 4) : cgM g n a b w l 82 (c * 4 + k) = if c = n then -1 else g 82 (c * 4 + k) := by
  unfold cgM
  rw [up2_ne (by omega), up2_ne (by omega), up2_if, up2_if, up2_if, up2_if, up2_ne (by omega), up2_ne (by omega), up2_ne (by omega), up2_ne (by omega)]
  (repeat' split) <;> omega
theorem cgM_82b (j : Nat) (h : -1 ≤ g 82 j) : -1 ≤ cgM g n a b w l 82 j := by
  have := cgM_82 (g := g) (n := n) (a := a) (b := b) (w := w) (l := l) (j / 4) (j % 4) (by omega)
  rw [show j / 4 * 4 + j % 4 = j by omega] at this
  rw [this]
  split <;> omega
theorem IC_couple (hn : g 5 5 = (n : Int)) (h6 : n < 6) (hw : 0 ≤ w ∧ w ≤ 299) (H : IC g z r K) : IC (cgC g n a b w l) z r K := by
  obtain ⟨hB, hB2, hN, hC5, hF, ho, hK⟩ := H.1.1.2.2
  have h14 := H.1.2.1
  refine IC_mk H ?_ ?_ ?_ ?_ ?_ ?_ (fun c' q => cgC_o (by unfold cuc at q; omega)) ?_ (cgC_o (by omega)) cgC_41 (cgC_o (by omega)) (cgC_o (by omega))
  · unfold BD
    rw [cgC_o (c := 13) (by omega), cgC_o (c := 12) (by omega), cgC_o (c := 3) (by omega)]
    refine ⟨hB.1, hB.2.1, hB.2.2.1, fun j => ?_⟩
    rw [cgC_8]
    have := hB.2.2.2 j
    split <;> omega
  · unfold BD2; rw [cgC_o (c := 4) (by omega), cgC_o (c := 1) (by omega)]; exact hB2
  · rw [cgC_o (c := 2) (by omega)]; exact hN
  · rw [cgC_5]; omega
  · rw [cgC_o (c := 11) (by omega)]; exact hF
  · rw [cgC_o (c := 13) (by omega), cgC_o (c := 11) (by omega), cgC_o (c := 18) (by omega)]; exact ho
  · rw [cgC_o (c := 1) (by omega)]; exact h14
theorem IM_couple (hn : g 74 3 = (n : Int)) (h6 : n < 6) (hw : 0 ≤ w ∧ w ≤ 299) (ha : 0 ≤ a ∧ a < g 74 2 ∧ g 76 a.toNat = 0) (hb : 0 ≤ b ∧ b < g 74 2 ∧ g 76 b.toNat = 1) (H : IM g z r K) : IM (cgM g n a b w l) z r K := by
  obtain ⟨m1, m2, m3, m4, m5, m6⟩ := H.1.1.2.1
  obtain ⟨n1, n2, n3, n4, n5, n6, n7⟩ := H.1.1.2.2.1
  refine IM_mk H ?_ ?_ (fun c' x y => cgM_o (by omega)) ?_ ?_ cgM_23 ?_
  · unfold BM
    rw [cgM_o (c := 84) (by omega), cgM_o (c := 83) (by omega), cgM_o (c := 76) (by omega), cgM_o (c := 77) (by omega), cgM_74 (by omega) (by omega)]
    refine ⟨m1, m2, m3, fun j => ?_, m5, m6⟩
    rw [cgM_80]
    have := m4 j
    split <;> omega
  · unfold BM2
    rw [cgM_o (c := 87) (by omega), cgM_o (c := 83) (by omega), cgM_74 (k := 2) (by omega) (by omega), cgM_74 (k := 4) (by omega) (by omega), cgM_3]
    refine ⟨fun j => ?_, fun j => cgM_82b j (n2 j), n3, n4, by omega, n6, n7⟩
    rw [cgM_78, cgM_79]
    have := n1 j
    constructor <;> split <;> omega
  · rw [cgM_74 (by omega) (by omega)]; exact H.1.2.1
  · rw [cgM_74 (k := 5) (by omega) (by omega), cgM_74 (k := 6) (by omega) (by omega)]; exact H.1.2.2.1
  · exact VN_couple (n := n) (a := a) (b := b) cgM_78 cgM_79 (cgM_o (by omega)) (fun c k hk => cgM_82 c k hk) (cgM_74 (by omega) (by omega)) cgM_3 hn ha hb H.2.2
theorem s_couple (a b w l : Int) : SimI (mX11_couple (rmD 5 0 0)) (mX12_couple (rmD 5 0 0)) [vI a, vI b, vI w, vI l] := by
  rintro g z r ⟨K, hC, hM, hE⟩
  obtain ⟨hB, hB2, hN, hC5, hF, ho, hK⟩ := hC.1.1.2.2
  refine (p_couple hC.rs hN hC5 a b w l).weaken ?_
  rintro v_ sh1 g1 z1 r1 ⟨q, rfl, rfl, rfl⟩
  rcases q with ⟨a1, rfl, hg1⟩ | ⟨a1, rfl, rfl | rfl⟩
  · obtain ⟨n, hn⟩ : ∃ n : Nat, g 5 5 = (n : Int) := ⟨(g 5 5).toNat, by omega⟩
    rw [hn] at a1
    rw [hn, Int.toNat_natCast] at hg1
    have hg : g1 = cgC g n a b w l := hg1
    subst hg
    have hC1 := IC_couple (a := a) (b := b) (l := l) hn (by omega) (w := w) (by omega) hC
    have hh : ∀ cx : Nat, 74 ≤ cx → cgC g n a b w l cx = g cx := fun cx hc => cgC_o (by omega)
    have hM1 : IM (cgC g n a b w l) z r K := hM.hi hh (fun _ _ => rfl) hC.rs
    have hvM1 : vM (cgC g n a b w l) = vM g := vM_cong (fun c x y => hh c (by omega)) (fun k _ _ => by rw [hh 74 (by omega)])
    have hv : vM (cgC g n a b w l) = vC g := hvM1.trans hE.1.symm
    have e1 : cgC g n a b w l 74 3 = (n : Int) := (congrFun (congrFun hv 0) 1).trans hn
    have h20 : cgC g n a b w l 20 = g 20 := cgC_o (by omega)
    have h19 : cgC g n a b w l 19 = g 19 := cgC_o (by omega)
    have hvC : vC (cgC g n a b w l) = cgV (vC g) n a b w l := cgC_v
    generalize cgC g n a b w l = g1 at *
    refine ⟨rfl, (n : Int), by rw [hn], (m_couple hC.rs hM1.1.1.2.2.1.2.2.2.1 hM1.1.1.2.2.1.2.2.2.2.1 a b w l).weaken ?_⟩
    rintro v2 sh2 g2 z2 r2 ⟨q2, rfl, rfl, rfl⟩
    rw [e1, hv, Int.toNat_natCast, show 4 * (n : Int) + 0 = (n : Int) * 4 + 0 by omega, show 4 * (n : Int) + 1 = (n : Int) * 4 + 1 by omega, show 4 * (n : Int) + 2 = (n : Int) * 4 + 2 by omega, show 4 * (n : Int) + 3 = (n : Int) * 4 + 3 by omega] at q2
    rcases q2 with ⟨b1, rfl, hg2⟩ | ⟨b1, -⟩
    · have hg : g2 = cgM g1 n a b w l := hg2
      subst hg
      have hc2 : ∀ cx : Nat, cx ≤ 73 → cgM g1 n a b w l cx = g1 cx := fun cx hc => cgM_o (by omega)
      refine ⟨rfl, rfl, K, hC1.lo hc2 (fun _ _ => rfl), IM_couple e1 (by omega) (by omega) ?_ ?_ hM1, ?_, ?_, fun ix => ?_⟩
      · obtain ⟨q1, q2, q3⟩ := a1.1
        exact ⟨q1, by rw [show g1 74 2 = g 2 2 from congrFun (congrFun hv 0) 0]; exact q2, by rw [← q3]; exact congrFun (congrFun hv 1) a.toNat⟩
      · obtain ⟨q1, q2, q3⟩ := a1.2.1
        exact ⟨q1, by rw [show g1 74 2 = g 2 2 from congrFun (congrFun hv 0) 0]; exact q2, by rw [← q3]; exact congrFun (congrFun hv 1) b.toNat⟩
      · rw [vC_cong (g := g1) (fun c' h' => hc2 c' (by unfold vcell at h'; omega)), hvC, cgM_v, hv]
      · rw [cgM_74 (by omega) (by omega), hc2 19 (by omega), h19, hh 74 (by omega)]; exact hE.2.1
      · rw [hc2 20 (by omega), h20, hE.2.2 ix]
        unfold tM
        rw [cgM_o (by omega), hh 75 (by omega)]
    · exact absurd a1 b1
  · refine ⟨rfl, _, rfl, (m_couple hC.rs hM.1.1.2.2.1.2.2.2.1 hM.1.1.2.2.1.2.2.2.2.1 a b w l).weaken ?_⟩
    rintro v2 sh2 g2 z2 r2 ⟨q2, rfl, rfl, rfl⟩
    rw [hE.c, ← hE.1] at q2
    rcases q2 with ⟨b1, -⟩ | ⟨b1, rfl, rfl⟩
    · exact absurd b1 a1
    · exact ⟨rfl, rfl, K, hC, hM, hE⟩
  · obtain ⟨hC1, hM1, hE1⟩ := IV_off hC hM hE
    refine ⟨rfl, _, rfl, (m_couple hC.rs hM1.1.1.2.2.1.2.2.2.1 hM1.1.1.2.2.1.2.2.2.2.1 a b w l).weaken ?_⟩
    rintro v2 sh2 g2 z2 r2 ⟨q2, rfl, rfl, rfl⟩
    have hv : vM (up2 g 41 10 0) = vC g := by rw [vM_o (by omega)]; exact hE.1.symm
    rw [show up2 g 41 10 0 74 3 = g 5 5 by rw [up2_ne (by omega)]; exact hE.c, hv] at q2
    rcases q2 with ⟨b1, -⟩ | ⟨b1, rfl, rfl⟩
    · exact absurd b1 a1
    · exact ⟨rfl, rfl, K, hC1, hM1, hE1⟩
end MUT4
