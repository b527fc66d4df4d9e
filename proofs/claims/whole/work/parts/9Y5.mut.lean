section MUT5
variable {g g' z z' : GG} {r r' : RR} {K : Nat → CUS} {n : Nat} {v y f m p : Int} {o : Nat → Int}
def chC (g : GG) (n : Nat) (v y f m p : Int) (o : Nat → Int) : GG := up2 (up2 (upC (up2 (up2 (up2 (up2 (up2 (up2 g 12 n v) 13 n y) 14 n f) 15 n m) 16 n p) 17 n (-1)) 18 o) 11 7 ((n : Int) + 1)) 41 10 0
def chM (g : GG) (n : Nat) (v y f m p : Int) : GG := up2 (up2 (up2 (up2 (up2 (up2 (up2 (up2 g 83 n v) 84 n y) 85 n f) 86 n m) 87 n p) 88 n (-1)) 74 4 ((n : Int) + 1)) 74 23 0
def chV (s : VW) (n : Nat) (v y f m p : Int) : VW := up2 (up2 (up2 (up2 (up2 (up2 (up2 s 8 n v) 9 n y) 10 n f) 11 n m) 12 n p) 13 n (-1)) 0 2 ((n : Int) + 1)
theorem upC_ne {f : GG} {c c' : Nat} {o : Nat → Int} (h : c' ≠ c) : upC f c o c' = f c' := by funext k; exact upC_far h
theorem vC_18 : vC (upC g 18 o) = vC g := vC_cong (fun c' h' => upC_ne (by unfold vcell at h'; omega))
theorem chC_o {c : Nat} (h : c ≠ 41 ∧ c ≠ 11 ∧ c ≠ 18 ∧ c ≠ 17 ∧ c ≠ 16 ∧ c ≠ 15 ∧ c ≠ 14 ∧ c ≠ 13 ∧ c ≠ 12) : chC g n v y f m p o c = g c := by
  obtain ⟨h1, h2, h3, h4, h5, h6, h7, h8, h9⟩ := h
  unfold chC
  rw [up2_ne h1, up2_ne h2, upC_ne h3, up2_ne h4, up2_ne h5, up2_ne h6, up2_ne h7, up2_ne h8, up2_ne h9]
theorem chM_o {c : Nat} (h : c ≠ 74 ∧ c ≠ 88 ∧ c ≠ 87 ∧ c ≠ 86 ∧ c ≠ 85 ∧ c ≠ 84 ∧ c ≠ 83) : chM g n v y f m p c = g c := by
  obtain ⟨h1, h4, h5, h6, h7, h8, h9⟩ := h
  unfold chM
  rw [up2_ne h1, up2_ne h1, up2_ne h4, up2_ne h5, up2_ne h6, up2_ne h7, up2_ne h8, up2_ne h9]
theorem chC_v : vC (chC g n v y f m p o) = chV (vC g) n v y f m p := by
  unfold chC chV
  rw [vC_o (by unfold vcell; omega), vC_z 2 (by decide), vC_18, vC_u 13 (by decide), vC_u 12 (by decide), vC_u 11 (by decide), vC_u 10 (by decide), vC_u 9 (by decide), vC_u 8 (by decide)]
theorem chM_v : vM (chM g n v y f m p) = chV (vM g) n v y f m p := by
  unfold chM chV
  rw [vM_o2 (by omega), vM_z 2 (by decide), vM_u 13 (by decide), vM_u 12 (by decide), vM_u 11 (by decide), vM_u 10 (by decide), vM_u 9 (by decide), vM_u 8 (by decide)]
theorem chC_12 (j : Nat) : chC g n v y f m p o 12 j = if j = n then v else g 12 j := by
  unfold chC
  rw [up2_ne (by omega), up2_ne (by omega), upC_ne (by omega), up2_ne (by omega), up2_ne (by omega), up2_ne (by omega), up2_ne (by omega), up2_ne (by omega), up2_if]
theorem chC_13 (j : Nat) : chC g n v y f m p o 13 j = if j = n then y else g 13 j := by
  unfold chC
  rw [up2_ne (by omega), up2_ne (by omega), upC_ne (by omega), up2_ne (by omega), up2_ne (by omega), up2_ne (by omega), up2_ne (by omega), up2_if, up2_ne (by omega)]
theorem chC_18 : chC g n v y f m p o 18 = o := by
  unfold chC
  rw [up2_ne (by omega), up2_ne (by omega)]
  unfold upC
  rw [if_pos rfl]
theorem chC_11 : chC g n v y f m p o 11 7 = (n : Int) + 1 := by unfold chC; rw [up2_ne (by omega), up2_s]
theorem chC_41 : chC g n v y f m p o 41 10 = 0 := by unfold chC; rw [up2_s]
theorem chM_74 {k : Nat} (h : k ≠ 23) (h' : k ≠ 4) : chM g n v y f m p 74 k = g 74 k := by
  unfold chM
  rw [up2_k h, up2_k h', up2_ne (by omega), up2_ne (by omega), up2_ne (by omega), up2_ne (by omega), up2_ne (by omega), up2_ne (by omega)]
theorem chM_4 : chM g n v y f m p 74 4 = (n : Int) + 1 := by unfold chM; rw [up2_k (by omega), up2_s]
theorem chM_23 : chM g n v y f m p 74 23 = 0 := by unfold chM; rw [up2_s]
theorem chM_83 (j : Nat) : chM g n v y f m p 83 j = if j = n then v else g 83 j := by
  unfold chM
  rw [up2_ne (by omega), up2_ne (by omega), up2_ne (by omega), up2_ne (by omega), up2_ne (by omega), up2_ne (by omega), up2_ne (by omega), up2_if]
theorem chM_84 (j : Nat) : chM g n v y f m p 84 j = if j = n then y else g 84 j := by
  unfold chM
  rw [up2_ne (by omega), up2_ne (by omega), up2_ne (by omega), up2_ne (by omega), up2_ne (by omega), up2_ne (by omega), up2_if, up2_ne (by omega)]
theorem chM_87 (j : Nat) : chM g n v y f m p 87 j = if j = n then p else g 87 j := by
  unfold chM
  rw [up2_ne (by omega), up2_ne (by omega), up2_ne (by omega), up2_if, up2_ne (by omega), up2_ne (by omega), up2_ne (by omega), up2_ne (by omega)]
theorem IC_chr (h10 : n < 10) (hv : 0 ≤ v ∧ v < g 2 2) (hy : 0 ≤ y ∧ y ≤ 299) (hord : ∀ (j a : Nat), (ordL (fun i => if i = n then y else g 13 i) (n + 1))[j]? = some a → o j = (a : Int)) (H : IC g z r K) : IC (chC g n v y f m p o) z r K := by
  obtain ⟨hB, hB2, hN, hC5, hF, ho, hK⟩ := H.1.1.2.2
  have h14 := H.1.2.1
  refine IC_mk H ?_ ?_ ?_ ?_ ?_ ?_ (fun c' q => chC_o (by unfold cuc at q; omega)) ?_ (chC_o (by omega)) chC_41 (chC_o (by omega)) (chC_o (by omega))
  · unfold BD
    rw [chC_o (c := 3) (by omega), chC_o (c := 8) (by omega)]
    refine ⟨fun j => ?_, fun j => ?_, hB.2.2.1, hB.2.2.2⟩
    · rw [chC_13]; have := hB.1 j; split <;> omega
    · rw [chC_12]; have := hB.2.1 j; split <;> omega
  · unfold BD2; rw [chC_o (c := 4) (by omega), chC_o (c := 1) (by omega)]; exact hB2
  · rw [chC_o (c := 2) (by omega)]; exact hN
  · rw [chC_o (c := 5) (by omega)]; exact hC5
  · rw [chC_11]; omega
  · rw [chC_11, chC_18, show chC g n v y f m p o 13 = (fun i => if i = n then y else g 13 i) from funext chC_13, show ((n : Int) + 1).toNat = n + 1 by omega]
    exact hord
  · rw [chC_o (c := 1) (by omega)]; exact h14
theorem IM_chr (hn : g 74 4 = (n : Int)) (h10 : n < 10) (hv : 0 ≤ v ∧ v < g 74 2) (hy : 0 ≤ y ∧ y ≤ 299) (hp : -1 ≤ p) (H : IM g z r K) : IM (chM g n v y f m p) z r K := by
  obtain ⟨m1, m2, m3, m4, m5, m6⟩ := H.1.1.2.1
  obtain ⟨n1, n2, n3, n4, n5, n6, n7⟩ := H.1.1.2.2.1
  refine IM_mk H ?_ ?_ (fun c' x y => chM_o (by omega)) ?_ ?_ chM_23 ?_
  · unfold BM
    rw [chM_o (c := 76) (by omega), chM_o (c := 80) (by omega), chM_o (c := 77) (by omega), chM_74 (by omega) (by omega)]
    refine ⟨fun j => ?_, fun j => ?_, m3, m4, m5, m6⟩
    · rw [chM_84]; have := m1 j; split <;> omega
    · rw [chM_83]; have := m2 j; split <;> omega
  · unfold BM2
    rw [chM_o (c := 78) (by omega), chM_o (c := 79) (by omega), chM_o (c := 82) (by omega), chM_74 (k := 2) (by omega) (by omega), chM_74 (k := 3) (by omega) (by omega), chM_4]
    refine ⟨n1, n2, fun j => ?_, n4, n5, by omega, fun j hj => ?_⟩
    · rw [chM_87]; have := n3 j; split <;> omega
    · rw [chM_83]; have := n7 j; split <;> omega
  · rw [chM_74 (by omega) (by omega)]; exact H.1.2.1
  · rw [chM_74 (k := 5) (by omega) (by omega), chM_74 (k := 6) (by omega) (by omega)]; exact H.1.2.2.1
  · exact VN_same (chM_o (by omega)) (chM_o (by omega)) (chM_o (by omega)) (chM_o (by omega)) (chM_74 (by omega) (by omega)) (chM_74 (by omega) (by omega)) H.2.2
theorem s_christening (v y f m p : Int) : SimI (mX11_christening (rmD 5 0 0)) (mX12_christening (rmD 5 0 0)) [vI v, vI y, vI f, vI m, vI p] := by
  rintro g z r ⟨K, hC, hM, hE⟩
  obtain ⟨hB, hB2, hN, hC5, hF, ho, hK⟩ := hC.1.1.2.2
  obtain ⟨n, hn⟩ : ∃ n : Nat, g 11 7 = (n : Int) := ⟨(g 11 7).toNat, by omega⟩
  have hn0 : (g 11 7).toNat = n := by omega
  rw [hn0] at ho
  refine (p_christening hC.rs hN (fun i _ => hB.2.2.1 i) n hn (by omega) ho v y f m p).weaken ?_
  rintro v_ sh1 g1 z1 r1 ⟨q, rfl, rfl, rfl⟩
  rcases q with ⟨a1, rfl, o, hg1, hord⟩ | ⟨a1, rfl, rfl | rfl⟩
  · have hg : g1 = chC g n v y f m p o := hg1
    subst hg
    have hp1 : -1 ≤ p := by
      rcases a1.2.2.2.2.2.2.1 with h | h
      · omega
      · have := h.1; omega
    have hC1 := IC_chr (f := f) (m := m) (p := p) (n := n) (by omega) ⟨a1.1, a1.2.1⟩ ⟨a1.2.2.1, a1.2.2.2.1⟩ hord hC
    have hh : ∀ cx : Nat, 74 ≤ cx → chC g n v y f m p o cx = g cx := fun cx hc => chC_o (by omega)
    have hM1 : IM (chC g n v y f m p o) z r K := hM.hi hh (fun _ _ => rfl) hC.rs
    have hvM1 : vM (chC g n v y f m p o) = vM g := vM_cong (fun c x y => hh c (by omega)) (fun k _ _ => by rw [hh 74 (by omega)])
    have hv : vM (chC g n v y f m p o) = vC g := hvM1.trans hE.1.symm
    have e4 : chC g n v y f m p o 74 4 = (n : Int) := (congrFun (congrFun hv 0) 2).trans hn
    have e2 : chC g n v y f m p o 74 2 = g 2 2 := congrFun (congrFun hv 0) 0
    have e76 : chC g n v y f m p o 76 v.toNat = g 3 v.toNat := congrFun (congrFun hv 1) v.toNat
    have h20 : chC g n v y f m p o 20 = g 20 := chC_o (by omega)
    have h19 : chC g n v y f m p o 19 = g 19 := chC_o (by omega)
    have hvC : vC (chC g n v y f m p o) = chV (vC g) n v y f m p := chC_v
    generalize chC g n v y f m p o = g1 at *
    refine ⟨rfl, (n : Int), rfl, (m_christening hC.rs hM1.1.1.2.2.1.2.2.2.1 n e4 (by omega) v y f m p).weaken ?_⟩
    rintro v2 sh2 g2 z2 r2 ⟨q2, rfl, rfl, rfl⟩
    rw [e2, hv, e76] at q2
    rcases q2 with ⟨b1, rfl, hg2⟩ | ⟨b1, -⟩
    · have hg : g2 = chM g1 n v y f m p := hg2
      subst hg
      have hc2 : ∀ cx : Nat, cx ≤ 73 → chM g1 n v y f m p cx = g1 cx := fun cx hc => chM_o (by omega)
      refine ⟨rfl, rfl, K, hC1.lo hc2 (fun _ _ => rfl), IM_chr e4 (by omega) ⟨a1.1, by rw [e2]; exact a1.2.1⟩ ⟨a1.2.2.1, a1.2.2.2.1⟩ hp1 hM1, ?_, ?_, fun ix => ?_⟩
      · rw [vC_cong (g := g1) (fun c' h' => hc2 c' (by unfold vcell at h'; omega)), hvC, chM_v, hv]
      · rw [chM_74 (by omega) (by omega), hc2 19 (by omega), h19, hh 74 (by omega)]; exact hE.2.1
      · rw [hc2 20 (by omega), h20, hE.2.2 ix]
        unfold tM
        rw [chM_o (by omega), hh 75 (by omega)]
    · exact absurd a1 b1
  · refine ⟨rfl, _, rfl, (m_christening hC.rs hM.1.1.2.2.1.2.2.2.1 n (hE.f.trans hn) (by omega) v y f m p).weaken ?_⟩
    rintro v2 sh2 g2 z2 r2 ⟨q2, rfl, rfl, rfl⟩
    rw [hE.n, ← hE.1, show g1 76 v.toNat = g1 3 v.toNat from (congrFun (congrFun hE.1 1) v.toNat).symm] at q2
    rcases q2 with ⟨b1, -⟩ | ⟨b1, rfl, rfl⟩
    · exact absurd b1 a1
    · exact ⟨rfl, rfl, K, hC, hM, hE⟩
  · obtain ⟨hC1, hM1, hE1⟩ := IV_off hC hM hE
    have hv : vM (up2 g 41 10 0) = vC g := by rw [vM_o (by omega)]; exact hE.1.symm
    refine ⟨rfl, _, rfl, (m_christening hC.rs hM1.1.1.2.2.1.2.2.2.1 n ((congrFun (congrFun hv 0) 2).trans hn) (by omega) v y f m p).weaken ?_⟩
    rintro v2 sh2 g2 z2 r2 ⟨q2, rfl, rfl, rfl⟩
    rw [show up2 g 41 10 0 74 2 = g 2 2 from congrFun (congrFun hv 0) 0, hv, show up2 g 41 10 0 76 v.toNat = g 3 v.toNat from congrFun (congrFun hv 1) v.toNat] at q2
    rcases q2 with ⟨b1, -⟩ | ⟨b1, rfl, rfl⟩
    · exact absurd b1 a1
    · exact ⟨rfl, rfl, K, hC1, hM1, hE1⟩
end MUT5
