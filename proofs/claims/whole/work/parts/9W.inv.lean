/-! THE INVARIANT of the law's loop: what the class rests on, what the reference rests on, and that both know the same -/
section INV
variable {g g' z z' : GG} {r r' : RR} {K : Nat → CUS}
def IC (g z : GG) (r : RR) (K : Nat → CUS) : Prop := WP g z r K ∧ DR g r ∧ (0 ≤ g 19 1 ∧ g 19 1 ≤ 200) ∧ ∀ i, 0 ≤ g 20 i ∧ g 20 i ≤ 255
def IM (g z : GG) (r : RR) (K : Nat → CUS) : Prop := WQ g z r K ∧ KmR g K ∧ VN g
/-- both know the same -/
def EQ (g : GG) : Prop := vC g = vM g ∧ g 74 1 = g 19 1 ∧ ∀ i, g 20 i = tM g i
def IV (g z : GG) (r : RR) : Prop := ∃ K, IC g z r K ∧ IM g z r K ∧ EQ g
/-- the cells that the class's books, customs and draft rest on -/
def bkc (c : Nat) : Prop := (c ≤ 30 ∧ c ≠ 19) ∨ (50 ≤ c ∧ c ≤ 73)
theorem FP_cg (h : ∀ c', ¬ stc c' → bkc c' → g' c' = g c') (H : FP g r K) : FP g' r K := by
  obtain ⟨h1, h2, h3, h4, h5, h6, h7, h8, h9⟩ := H
  have hv : ∀ c', vcell c' → g' c' = g c' := fun c' h' => h c' (by unfold stc; unfold vcell at h'; omega) (by unfold bkc; unfold vcell at h'; omega)
  refine ⟨h1, h2, BD_cong hv h3, ?_, ?_, ?_, ?_, ?_, fun k hk => ?_⟩
  · unfold BD2; rw [hv 4 (by unfold vcell; omega), hv 1 (by unfold vcell; omega)]; exact h4
  · rw [hv 2 (by unfold vcell; omega)]; exact h5
  · rw [hv 5 (by unfold vcell; omega)]; exact h6
  · rw [hv 11 (by unfold vcell; omega)]; exact h7
  · rw [hv 13 (by unfold vcell; omega), hv 11 (by unfold vcell; omega), h 18 (by unfold stc; omega) (by unfold bkc; omega)]; exact h8
  · have hc := (h2 k hk).1
    have hcell : ∀ d, d < 5 → g' (tc r k + d) = g (tc r k + d) := fun d hd => h _ (by unfold stc; rcases hc with e | e | e | e | e <;> rw [e] <;> omega) (by unfold bkc; rcases hc with e | e | e | e | e <;> rw [e] <;> omega)
    have := h9 k hk
    unfold CuIs at this ⊢
    rw [show g' (tc r k) = g (tc r k) from hcell 0 (by omega), hcell 1 (by omega), hcell 2 (by omega), hcell 3 (by omega), hcell 4 (by omega)]
    exact this
theorem DR_cg (h : ∀ c', ¬ stc c' → bkc c' → g' c' = g c') (H : DR g r) : DR g' r := by
  obtain ⟨dc, h1, h2, h3, h4, h5⟩ := H
  refine ⟨dc, h1, h2, ?_, h4, h5⟩
  unfold VBd at h3 ⊢
  rw [h (dc + 4) (by unfold stc; rcases h2 with e | e | e | e | e <;> rw [e] <;> omega) (by unfold bkc; rcases h2 with e | e | e | e | e <;> rw [e] <;> omega)]
  exact h3
theorem vC_cg (h : ∀ c', ¬ stc c' → bkc c' → g' c' = g c') : vC g' = vC g := vC_cong (fun c' h' => h c' (by unfold stc; unfold vcell at h'; omega) (by unfold bkc; unfold vcell at h'; omega))
theorem WP_cg (h : ∀ c', ¬ stc c' → bkc c' → g' c' = g c') (h41 : g' 41 10 = g 41 10) (hx : ∀ c', 43 ≤ c' → c' ≤ 47 → g' c' = g c') (hz : z' 48 = z 48 ∧ z' 49 = z 49) (H : WP g z r K) : WP g' z' r K := by
  obtain ⟨h1, h2, h3, h4⟩ := H
  have e1 := h 1 (by unfold stc; omega) (by unfold bkc; omega)
  have e30 := h 30 (by unfold stc; omega) (by unfold bkc; omega)
  refine ⟨FP_cg h h1, by rw [e1]; exact h2, by rw [hx 43 (by omega) (by omega)]; exact h3, ?_⟩
  rw [h41, e30, vC_cg h]
  rcases h4 with q | ⟨q, w⟩
  · exact Or.inl q
  · refine Or.inr ⟨q, XI_cong ?_ ?_ ?_ ?_ ?_ ?_ w⟩
    · rw [hx 44 (by omega) (by omega)]
    · rw [hx 45 (by omega) (by omega)]
    · rw [hx 46 (by omega) (by omega)]
    · rw [hx 47 (by omega) (by omega)]
    · rw [hz.1]
    · rw [hz.2]
/-- the class's side does not hang on the reference's cells -/
theorem IC.lo (h : ∀ c, c ≤ 73 → g' c = g c) (hz : ∀ c, c ≤ 73 → z' c = z c) (H : IC g z r K) : IC g' z' r K := by
  obtain ⟨h1, h2, h3, h4⟩ := H
  have hb : ∀ c', ¬ stc c' → bkc c' → g' c' = g c' := fun c' _ q => h c' (by unfold bkc at q; omega)
  exact ⟨WP_cg hb (by rw [h 41 (by omega)]) (fun c' a b => h c' (by omega)) ⟨hz 48 (by omega), hz 49 (by omega)⟩ h1, DR_cg hb h2, by rw [h 19 (by omega)]; exact h3, by rw [h 20 (by omega)]; exact h4⟩
theorem MP_cg (h : ∀ c', 76 ≤ c' → c' ≤ 94 → g' c' = g c') (h74 : ∀ k, 2 ≤ k → k ≤ 9 → g' 74 k = g 74 k) (hr : RS r') (H : MP g r K) : MP g' r' K := by
  obtain ⟨-, h2, h3, h4⟩ := H
  refine ⟨hr, ?_, ?_, kmK_cong (fun c a b => h c (by omega) b) h4⟩
  · unfold BM; rw [h 84 (by decide) (by decide), h 83 (by decide) (by decide), h 76 (by decide) (by decide), h 80 (by decide) (by decide), h 77 (by decide) (by decide), h74 8 (by decide) (by decide)]; exact h2
  · unfold BM2; rw [h 78 (by decide) (by decide), h 79 (by decide) (by decide), h 82 (by decide) (by decide), h 87 (by decide) (by decide), h 83 (by decide) (by decide), h74 2 (by decide) (by decide), h74 3 (by decide) (by decide), h74 4 (by decide) (by decide)]; exact h3
theorem IM_cg (h : ∀ c', (76 ≤ c' ∧ c' ≤ 94) ∨ c' = 106 ∨ c' = 115 ∨ c' = 116 → g' c' = g c') (h74 : ∀ k, (2 ≤ k ∧ k ≤ 9) ∨ k = 23 ∨ k = 62 ∨ k = 63 → g' 74 k = g 74 k) (hz : z' 74 = z 74) (hr : RS r') (H : IM g z r K) : IM g' z' r' K := by
  obtain ⟨⟨h1, h2, h3, h4⟩, h5, h6⟩ := H
  have hv : vM g' = vM g := vM_cong (fun c a b => h c (by omega)) (fun k a b => h74 k (by omega))
  refine ⟨⟨MP_cg (fun c' a b => h c' (by omega)) (fun k a b => h74 k (by omega)) hr h1, by rw [h74 9 (by omega)]; exact h2, by rw [h74 5 (by omega), h74 6 (by omega)]; exact h3, ?_⟩, ?_, ?_⟩
  · rw [h74 23 (by omega), hv, h74 5 (by omega), h74 6 (by omega), h74 7 (by omega)]
    rcases h4 with q | ⟨q, w⟩
    · exact Or.inl q
    · refine Or.inr ⟨q, ?_⟩
      unfold FI at w ⊢
      rw [h74 62 (by omega), h74 63 (by omega), hz, h 106 (by omega), h 115 (by omega), h 116 (by omega)]
      exact w
  · unfold KmR; rw [h 91 (by omega), h 92 (by omega)]; exact h5
  · unfold VN; rw [h 78 (by omega), h 79 (by omega), h 76 (by omega), h 82 (by omega), h74 2 (by omega), h74 3 (by omega)]; exact h6
theorem IM.hi (h : ∀ c, 74 ≤ c → g' c = g c) (hz : ∀ c, 74 ≤ c → z' c = z c) (hr : RS r') (H : IM g z r K) : IM g' z' r' K := IM_cg (fun c' q => h c' (by omega)) (fun k _ => by rw [h 74 (by omega)]) (hz 74 (by omega)) hr H
theorem IC.rs (H : IC g z r K) : RS r := H.1.1.1
/-- a pair of calls: the class answers x, then the reference answers x, and all stands as before -/
def SimI (mc mm : MI) (as : List AV) : Prop := ∀ (g z : GG) (r : RR), IV g z r → CT mc 0 0 shW (vR (some 0) :: as) g z r (fun v sh1 g1 z1 r1 => sh1 = shW ∧ ∃ x, v = some (vI x) ∧ CT mm 0 0 shW (vR (some 74) :: as) g1 z1 r1 (fun v2 sh2 g2 z2 r2 => sh2 = shW ∧ v2 = some (vI x) ∧ IV g2 z2 r2))
def SimL (mc mm : MI) (as : List AV) : Prop := ∀ (g z : GG) (r : RR), IV g z r → CT mc 0 0 shW (vR (some 0) :: as) g z r (fun v sh1 g1 z1 r1 => sh1 = shW ∧ ∃ x, v = some (vL x) ∧ CT mm 0 0 shW (vR (some 74) :: as) g1 z1 r1 (fun v2 sh2 g2 z2 r2 => sh2 = shW ∧ v2 = some (vL x) ∧ IV g2 z2 r2))
end INV
