/-- as SM2, but for which CUSTOMS are kept -/
def SM3 (g g' : GG) : Prop := (∀ c', c' ≠ 74 → c' ≤ 100 ∨ 106 ≤ c' → g' c' = g c') ∧ ∀ k, k ≠ 45 → k ≠ 46 → k ≠ 1 → k ≠ 5 → k ≠ 6 → k ≠ 7 → g' 74 k = g 74 k
theorem SM2.sm3 {g g' : GG} (h : SM2 g g') : SM3 g g' := ⟨h.1, fun k a b d _ _ _ => h.2 k a b d⟩
theorem SM3.trans {g g1 g2 : GG} (h1 : SM3 g g1) (h2 : SM3 g1 g2) : SM3 g g2 := ⟨fun c' a b => (h2.1 c' a b).trans (h1.1 c' a b), fun k a b d e f i => (h2.2 k a b d e f i).trans (h1.2 k a b d e f i)⟩
theorem SM3.up {g g' : GG} {k : Nat} {v : Int} (h : SM3 g g') (hk : k = 5 ∨ k = 6 ∨ k = 7) : SM3 g (up2 g' 74 k v) := ⟨fun c' a b => by rw [up2_ne a]; exact h.1 c' a b, fun k' a b d e f i => by rw [up2_k (by omega)]; exact h.2 k' a b d e f i⟩
theorem SM3.nv {g g' : GG} (h : SM3 g g') : nv (vM g') = nv (vM g) := by
  funext f i
  have e76 := h.1 76 (by omega) (by omega); have e77 := h.1 77 (by omega) (by omega); have e78 := h.1 78 (by omega) (by omega); have e79 := h.1 79 (by omega) (by omega); have e80 := h.1 80 (by omega) (by omega); have e81 := h.1 81 (by omega) (by omega); have e82 := h.1 82 (by omega) (by omega); have e83 := h.1 83 (by omega) (by omega); have e84 := h.1 84 (by omega) (by omega); have e85 := h.1 85 (by omega) (by omega); have e86 := h.1 86 (by omega) (by omega); have e87 := h.1 87 (by omega) (by omega); have e88 := h.1 88 (by omega) (by omega)
  have a2 := h.2 2 (by omega) (by omega) (by omega) (by omega) (by omega) (by omega); have a3 := h.2 3 (by omega) (by omega) (by omega) (by omega) (by omega) (by omega); have a4 := h.2 4 (by omega) (by omega) (by omega) (by omega) (by omega) (by omega); have a8 := h.2 8 (by omega) (by omega) (by omega) (by omega) (by omega) (by omega); have a9 := h.2 9 (by omega) (by omega) (by omega) (by omega) (by omega) (by omega)
  match f with
  | 0 =>
    match i with
    | 0 => exact a2
    | 1 => exact a3
    | 2 => exact a4
    | 3 => exact a8
    | 4 => exact a9
    | 5 => rfl
    | 6 => rfl
    | 7 => rfl
    | n + 8 => rfl
  | f + 1 =>
    show vM g' (f + 1) i = vM g (f + 1) i
    match f with
    | 0 => exact congrFun e76 i
    | 1 => exact congrFun e77 i
    | 2 => exact congrFun e78 i
    | 3 => exact congrFun e79 i
    | 4 => exact congrFun e80 i
    | 5 => exact congrFun e81 i
    | 6 => exact congrFun e82 i
    | 7 => exact congrFun e83 i
    | 8 => exact congrFun e84 i
    | 9 => exact congrFun e85 i
    | 10 => exact congrFun e86 i
    | 11 => exact congrFun e87 i
    | 12 => exact congrFun e88 i
    | n + 13 => rfl
theorem SM3.tM {g g' : GG} (h : SM3 g g') : tM g' = tM g := by
  funext i
  show bAnd (g' 75 i) 255 = bAnd (g 75 i) 255
  rw [h.1 75 (by decide) (by decide)]
theorem SM3.MP {g g' : GG} {r : RR} {K : Nat → CUS} (h : SM3 g g') (H : MP g r K) : MP g' r K := by
  obtain ⟨h1, h2, h3, h4⟩ := H
  refine ⟨h1, ?_, ?_, kmK_cong (fun c a b => h.1 c (by omega) (by omega)) h4⟩
  · show _ ∧ _
    rw [h.1 84 (by decide) (by decide), h.1 83 (by decide) (by decide), h.1 76 (by decide) (by decide), h.1 80 (by decide) (by decide), h.1 77 (by decide) (by decide), h.2 8 (by decide) (by decide) (by decide) (by decide) (by decide) (by decide)]
    exact h2
  · show _ ∧ _
    rw [h.1 78 (by decide) (by decide), h.1 79 (by decide) (by decide), h.1 82 (by decide) (by decide), h.1 87 (by decide) (by decide), h.1 83 (by decide) (by decide), h.2 2 (by decide) (by decide) (by decide) (by decide) (by decide) (by decide), h.2 3 (by decide) (by decide) (by decide) (by decide) (by decide) (by decide), h.2 4 (by decide) (by decide) (by decide) (by decide) (by decide) (by decide)]
    exact h3
theorem setsR_nvc {s s' : VW} (h : nv s = nv s') {T : Nat → Int} : setsR s T = setsR s' T := by
  have : s 0 2 = s' 0 2 := congrFun (congrFun h 0) 2
  unfold setsR
  rw [this]
/-- how the reference's best so far stands to the class's -/
def RL (st ref : LST) : Prop := (st.1 = -1000000 ∧ ref.1 = -100000000) ∨ (ref = st ∧ -1000000 < st.1)
theorem RL_step {st ref t : LST} (h : RL st ref) (ht : -1000000 < t.1) : RL (if st.1 < t.1 then t else st) (if ref.1 < t.1 then t else ref) := by
  rcases h with ⟨h1, h2⟩ | ⟨h1, h2⟩
  · rw [if_pos (by omega), if_pos (by omega)]
    exact Or.inr ⟨rfl, ht⟩
  · subst h1
    by_cases q : ref.1 < t.1
    · rw [if_pos q]; exact Or.inr ⟨rfl, ht⟩
    · rw [if_neg q]; exact Or.inr ⟨rfl, h2⟩
def leM (g : GG) (K : Nat → CUS) (fr to w : Int) : Prop := (0 ≤ fr ∧ fr ≤ to ∧ to ≤ 300 ∧ 0 ≤ w ∧ w ≤ 3) ∧ (0 < (K 0).length ∨ 0 < (K 1).length ∨ 0 < (K 2).length ∨ 0 < (K 3).length) ∧ ¬ g 74 1 < g 74 4
section MLEARN
variable {g z : GG} {r : RR}
theorem sumY_m {K : Nat → CUS} (H : MP g r K) (hal : 0 ≤ g 74 9 ∧ g 74 9 ≤ 1000) {S : Nat → Nat} (hfam : ∀ c : Nat, (c : Int) < g 74 3 → ∃ l, fam (vM g) c (S c) = some l) (p : Nat) (y : Int) : -1000000 < sumY (vM g) K S p y ∧ sumY (vM g) K S p y < 1000000 := by
  have hC := H.2.2.1.2.2.2.2.1
  have h1 := wpU_m H ((p / 4 : Nat) : Int) ((p % 4 : Nat) : Int) y S (g 74 3).toNat (fun c' hc' => hfam c' (by omega))
  have hp := popS_le (S 6)
  have hal2 : -10000 ≤ -(g 74 9) * (popS (S 6) : Int) ∧ -(g 74 9) * (popS (S 6) : Int) ≤ 0 := by
    have h1 : g 74 9 * (popS (S 6) : Int) ≤ 1000 * 10 := Int.mul_le_mul hal.2 (by omega) (by omega) (by omega)
    have h2 : 0 ≤ g 74 9 * (popS (S 6) : Int) := Int.mul_nonneg hal.1 (by omega)
    rw [Int.neg_mul]
    omega
  have e : sumY (vM g) K S p y = -(g 74 9) * (popS (S 6) : Int) + wpU (vM g) K ((p / 4 : Nat) : Int) ((p % 4 : Nat) : Int) y S (g 74 3).toNat := rfl
  omega
theorem lrY_mono {s : VW} {K : Nat → CUS} {S : Nat → Nat} {fr : Int} {p : Nat} {st : LST} : ∀ n, st.1 ≤ (lrY s K S fr p n st).1 := by
  intro n
  induction n with
  | zero => exact Int.le_refl _
  | succ n ih => unfold lrY; split; simp only; omega; exact ih
theorem lrP_some {K : Nat → CUS} (H : MP g r K) (hal : 0 ≤ g 74 9 ∧ g 74 9 ≤ 1000) (fr to : Int) (hft : 0 ≤ fr ∧ fr ≤ to ∧ to ≤ 300) {S : Nat → Nat} (hfam : ∀ c : Nat, (c : Int) < g 74 3 → ∃ l, fam (vM g) c (S c) = some l) (hany : 0 < (K 0).length ∨ 0 < (K 1).length ∨ 0 < (K 2).length ∨ 0 < (K 3).length) : (lrP (vM g) K S fr to 16).1 ≠ -1000000 := by
  have step : ∀ p, (lrP (vM g) K S fr to p).1 ≤ (lrP (vM g) K S fr to (p + 1)).1 := by
    intro p
    rw [lrP]
    split
    · exact lrY_mono _
    · exact Int.le_refl _
  have mono : ∀ n p, (lrP (vM g) K S fr to p).1 ≤ (lrP (vM g) K S fr to (p + n)).1 := by
    intro n p
    induction n with
    | zero => exact Int.le_refl _
    | succ n ih => exact Int.le_trans ih (step (p + n))
  have key : ∀ k, k < 4 → 0 < (K k).length → -1000000 < (lrP (vM g) K S fr to (5 * k + 1)).1 := by
    intro k hk hl
    rw [lrP, if_pos ⟨by rw [show 5 * k / 4 = k by omega]; exact hl, by rw [show 5 * k % 4 = k by omega]; exact hl⟩]
    obtain ⟨n, hn⟩ : ∃ n : Nat, (to - fr + 1).toNat = n + 1 := ⟨(to - fr + 1).toNat - 1, by omega⟩
    rw [hn]
    have h1 := lrY_ge (s := vM g) (K := K) (S := S) (fr := fr) (p := 5 * k) (n := n) (st := lrP (vM g) K S fr to (5 * k))
    have h2 := sumY_m H hal hfam (5 * k) (fr + (n : Int))
    omega
  have fin : ∀ k, k < 4 → 0 < (K k).length → (lrP (vM g) K S fr to 16).1 ≠ -1000000 := by
    intro k hk hl
    have h1 := key k hk hl
    have h2 := mono (15 - 5 * k) (5 * k + 1)
    rw [show 5 * k + 1 + (15 - 5 * k) = 16 by omega] at h2
    omega
  rcases hany with h | h | h | h
  · exact fin 0 (by omega) h
  · exact fin 1 (by omega) h
  · exact fin 2 (by omega) h
  · exact fin 3 (by omega) h
theorem m_learn_loop {Q : PQ} (K : Nat → CUS) (H : MP g r K) (hal : 0 ≤ g 74 9 ∧ g 74 9 ≤ 1000) (fr to w : Int) (hft : 0 ≤ fr ∧ fr ≤ to ∧ to ≤ 300) (hfam : ∀ c : Nat, (c : Int) < g 74 3 → ∃ l, fam (vM g) c (setsR (vM g) (tM g) c) = some l) (hFT : 0 ≤ g 74 4 ∧ g 74 4 ≤ 10)
    (hend : ∀ (g' : GG) (ref : LST) (a11 : Option AV), SM3 g g' → g' 74 1 = 0 → RL (lrP (vM g) K (setsR (vM g) (tM g)) fr to 16) ref → RJ (mX12_learnt (rmD 9 0 0)) 0 0 shW.length Q 0 0 shW 270 [some (vR (some 74)), some (vI fr), some (vI to), some (vI w), some (vI (g 74 5)), some (vI (g 74 6)), some (vI (g 74 7)), some (vI ref.1), some (vI ref.2.1), some (vI ref.2.2.1), some (vI ref.2.2.2), a11] [] g' z r)
    (g0 : GG) (a11 : Option AV) (hs0 : SM3 g g0) (h01 : g0 74 1 = 0) (h05 : g0 74 5 = 0) : RJ (mX12_learnt (rmD 9 0 0)) 0 0 shW.length Q 0 0 shW 135 [some (vR (some 74)), some (vI fr), some (vI to), some (vI w), some (vI (g 74 5)), some (vI (g 74 6)), some (vI (g 74 7)), some (vI (-100000000)), some (vI 0), some (vI 0), some (vI 0), a11] [] g0 z r := by
  obtain ⟨hr, hB, hB2, hK⟩ := id H
  have many : ∀ g' : GG, SM3 g g' → ∀ k, k < 4 → g' 89 k = ((K k).length : Int) := fun g' s k hk => by rw [s.1 89 (by decide) (by decide)]; exact (hK k hk).1
  generalize hSd : setsR (vM g) (tM g) = S at *
  have inner : ∀ (A B : Nat), A < 4 → B < 4 → (0 < (K A).length ∧ 0 < (K B).length) → ∀ (st0 : LST), (∀ (g' : GG) (ref : LST) (a11 : Option AV), SM3 g g' → g' 74 1 = 0 → g' 74 5 = (A : Int) → g' 74 6 = (B : Int) → RL (lrY (vM g) K S fr (4 * A + B) (to - fr + 1).toNat st0) ref → RJ (mX12_learnt (rmD 9 0 0)) 0 0 shW.length Q 0 0 shW 244 [some (vR (some 74)), some (vI fr), some (vI to), some (vI w), some (vI (g 74 5)), some (vI (g 74 6)), some (vI (g 74 7)), some (vI ref.1), some (vI ref.2.1), some (vI ref.2.2.1), some (vI ref.2.2.2), a11] [] g' z r) → ∀ (m n : Nat) (g' : GG) (ref : LST) (a11 : Option AV), (n : Int) + m = to - fr + 1 → SM3 g g' → g' 74 1 = 0 → g' 74 5 = (A : Int) → g' 74 6 = (B : Int) → g' 74 7 = fr + (n : Int) → RL (lrY (vM g) K S fr (4 * A + B) n st0) ref → RJ (mX12_learnt (rmD 9 0 0)) 0 0 shW.length Q 0 0 shW 161 [some (vR (some 74)), some (vI fr), some (vI to), some (vI w), some (vI (g 74 5)), some (vI (g 74 6)), some (vI (g 74 7)), some (vI ref.1), some (vI ref.2.1), some (vI ref.2.2.1), some (vI ref.2.2.2), a11] [] g' z r := by
    intro A B hA4 hB4 hAB st0 hk m
    have hdiv : (4 * A + B) / 4 = A := by omega
    have hmod : (4 * A + B) % 4 = B := by omega
    induction m with
    | zero =>
      intro n g' ref a11 hn s1 h1 h5 h6 h7 hrl
      refine R_aload_n dX12_learnt_161 rfl ?_
      refine R_getI fd12_7 kf12_20 rfl dX12_learnt_162 ?_
      rw [h7]
      refine R_iload_n dX12_learnt_165 rfl ?_
      refine R_icmp_gt 244 dX12_learnt_166 (by decide) (fun hc166 => ?_) (fun hc166 => ?_)
      · exact hk g' ref a11 s1 h1 h5 h6 (by rw [show (to - fr + 1).toNat = n by omega]; exact hrl)
      · exact absurd (by omega) hc166
    | succ m ih =>
      intro n g' ref a11 hn s1 h1 h5 h6 h7 hrl
      have hsum := sumY_m H hal hfam (4 * A + B) (fr + (n : Int))
      have hfp := (s1.MP H)
      have hn1 := fun g' ref a11 => ih (n + 1) g' ref a11 (by omega)
      rw [lrY] at hn1
      have next : ∀ (g2 : GG) (ref2 : LST) (a11 : Option AV), SM3 g g2 → g2 74 1 = 0 → g2 74 5 = (A : Int) → g2 74 6 = (B : Int) → g2 74 7 = fr + (n : Int) → RL (if (lrY (vM g) K S fr (4 * A + B) n st0).1 < sumY (vM g) K S (4 * A + B) (fr + (n : Int)) then (sumY (vM g) K S (4 * A + B) (fr + (n : Int)), (((4 * A + B) / 4 : Nat) : Int), (((4 * A + B) % 4 : Nat) : Int), fr + (n : Int)) else lrY (vM g) K S fr (4 * A + B) n st0) ref2 → RJ (mX12_learnt (rmD 9 0 0)) 0 0 shW.length Q 0 0 shW 231 [some (vR (some 74)), some (vI fr), some (vI to), some (vI w), some (vI (g 74 5)), some (vI (g 74 6)), some (vI (g 74 7)), some (vI ref2.1), some (vI ref2.2.1), some (vI ref2.2.2.1), some (vI ref2.2.2.2), a11] [] g2 z r := by
        intro g2 ref2 a11 t1 t2 t5 t6 t7 trl
        refine R_aload_n dX12_learnt_231 rfl ?_
        refine R_dup dX12_learnt_232 (fun _ h => by cases h) ?_
        refine R_getI fd12_7 kf12_20 rfl dX12_learnt_233 ?_
        rw [t7]
        refine R_iconst dX12_learnt_236 rfl rfl ?_
        refine R_iaddN dX12_learnt_237 (by unfold inI; omega) ?_
        refine R_putI fd12_7 rfl kf12_20 rfl dX12_learnt_238 ?_
        refine R_goto 161 dX12_learnt_241 (by decide) ?_
        refine hn1 _ ref2 _ (t1.up (Or.inr (Or.inr rfl))) (by rw [up2_k (by decide)]; exact t2) (by rw [up2_k (by decide)]; exact t5) (by rw [up2_k (by decide)]; exact t6) (by rw [up2_s]; omega) trl
      refine R_aload_n dX12_learnt_161 rfl ?_
      refine R_getI fd12_7 kf12_20 rfl dX12_learnt_162 ?_
      rw [h7]
      refine R_iload_n dX12_learnt_165 rfl ?_
      refine R_icmp_gt 244 dX12_learnt_166 (by decide) (fun hc166 => ?_) (fun hc166 => ?_)
      · exact absurd hc166 (by omega)
      refine R_aload_n dX12_learnt_169 rfl ?_
      refine R_getR _ (hr _ _ _ rfl) fd12_24 kf12_69 rfl dX12_learnt_170 ?_
      refine R_aload_n dX12_learnt_173 rfl ?_
      refine R_getI fd12_5 kf12_13 rfl dX12_learnt_174 ?_
      rw [h5]
      refine R_iald rfl (by omega) (by omega) dX12_learnt_177 ?_
      rw [Int.toNat_natCast, many g' s1 A hA4]
      refine R_if_le 244 dX12_learnt_178 (by decide) (fun hc178 => ?_) (fun hc178 => ?_)
      · exact absurd hc178 (by omega)
      refine R_aload_n dX12_learnt_181 rfl ?_
      refine R_getR _ (hr _ _ _ rfl) fd12_24 kf12_69 rfl dX12_learnt_182 ?_
      refine R_aload_n dX12_learnt_185 rfl ?_
      refine R_getI fd12_6 kf12_17 rfl dX12_learnt_186 ?_
      rw [h6]
      refine R_iald rfl (by omega) (by omega) dX12_learnt_189 ?_
      rw [Int.toNat_natCast, many g' s1 B hB4]
      refine R_if_le 244 dX12_learnt_190 (by decide) (fun hc190 => ?_) (fun hc190 => ?_)
      · exact absurd hc190 (by omega)
      refine R_aload_n dX12_learnt_193 rfl ?_
      refine R_callV (m_wayPoints K hfp (by rw [h5]; omega) (by rw [h6]; omega) (by rw [s1.2 9 (by decide) (by decide) (by decide) (by decide) (by decide) (by decide)]; exact hal) (fun c hc => by rw [fam_nvc s1.nv, setsR_nvc s1.nv, s1.tM, hSd]; rw [s1.2 3 (by decide) (by decide) (by decide) (by decide) (by decide) (by decide)] at hc; exact hfam c hc)) (mvX12_wayPoints _) kiX12_wayPoints kvX12_wayPoints km12_459 rfl rfl (by decide) ⟨rfl, rfl, by decide, by decide⟩ (Nat.le_of_ble_eq_true rfl) dX12_learnt_194 (fun v1 sh1 g2 z1 r1 hq => ?_)
      obtain ⟨⟨rfl, s2⟩, rfl, rfl, rfl⟩ := hq
      have esum : wpS (vM g') K (g' 74 5) (g' 74 6) (g' 74 7) (setsR (vM g') (tM g')) = sumY (vM g) K S (4 * A + B) (fr + (n : Int)) := by
        rw [wpS_nvc s1.nv, setsR_nvc s1.nv, s1.tM, hSd, h5, h6, h7, sumY, hdiv, hmod]
      rw [esum]
      have s3 : SM3 g g2 := s1.trans s2.sm2.sm3
      have f1 : g2 74 1 = 0 := by rw [s2.2 1 (by decide) (by decide)]; exact h1
      have f5 : g2 74 5 = (A : Int) := by rw [s2.2 5 (by decide) (by decide)]; exact h5
      have f6 : g2 74 6 = (B : Int) := by rw [s2.2 6 (by decide) (by decide)]; exact h6
      have f7 : g2 74 7 = fr + (n : Int) := by rw [s2.2 7 (by decide) (by decide)]; exact h7
      have hst := RL_step hrl (t := (sumY (vM g) K S (4 * A + B) (fr + (n : Int)), (((4 * A + B) / 4 : Nat) : Int), (((4 * A + B) % 4 : Nat) : Int), fr + (n : Int))) hsum.1
      simp only at hst
      refine R_istore dX12_learnt_197 (by decide) rfl [_, _, _, _, _, _, _, _, _, _, _, _] rfl ?_
      refine R_iload dX12_learnt_199 rfl ?_
      refine R_iload dX12_learnt_201 rfl ?_
      refine R_icmp_gt 209 dX12_learnt_203 (by decide) (fun hc203 => ?_) (fun hc203 => ?_)
      · rw [if_pos (show ref.1 < sumY (vM g) K S (4 * A + B) (fr + (n : Int)) by omega)] at hst
        refine R_iload dX12_learnt_209 rfl ?_
        refine R_istore dX12_learnt_211 (by decide) rfl [_, _, _, _, _, _, _, _, _, _, _, _] rfl ?_
        refine R_aload_n dX12_learnt_213 rfl ?_
        refine R_getI fd12_5 kf12_13 rfl dX12_learnt_214 ?_
        rw [f5]
        refine R_istore dX12_learnt_217 (by decide) rfl [_, _, _, _, _, _, _, _, _, _, _, _] rfl ?_
        refine R_aload_n dX12_learnt_219 rfl ?_
        refine R_getI fd12_6 kf12_17 rfl dX12_learnt_220 ?_
        rw [f6]
        refine R_istore dX12_learnt_223 (by decide) rfl [_, _, _, _, _, _, _, _, _, _, _, _] rfl ?_
        refine R_aload_n dX12_learnt_225 rfl ?_
        refine R_getI fd12_7 kf12_20 rfl dX12_learnt_226 ?_
        rw [f7]
        refine R_istore dX12_learnt_229 (by decide) rfl [_, _, _, _, _, _, _, _, _, _, _, _] rfl ?_
        have := next g2 _ (some (vI (sumY (vM g) K S (4 * A + B) (fr + (n : Int))))) s3 f1 f5 f6 f7 hst
        simp only [hdiv, hmod] at this
        exact this
      · rw [if_neg (show ¬ ref.1 < sumY (vM g) K S (4 * A + B) (fr + (n : Int)) by omega)] at hst
        refine R_goto 231 dX12_learnt_206 (by decide) ?_
        exact next g2 ref _ s3 f1 f5 f6 f7 hst
  have loopB : ∀ (A : Nat), A < 4 → (∀ (g' : GG) (ref : LST) (a11 : Option AV), SM3 g g' → g' 74 1 = 0 → g' 74 5 = (A : Int) → RL (lrP (vM g) K S fr to (4 * A + 4)) ref → RJ (mX12_learnt (rmD 9 0 0)) 0 0 shW.length Q 0 0 shW 257 [some (vR (some 74)), some (vI fr), some (vI to), some (vI w), some (vI (g 74 5)), some (vI (g 74 6)), some (vI (g 74 7)), some (vI ref.1), some (vI ref.2.1), some (vI ref.2.2.1), some (vI ref.2.2.2), a11] [] g' z r) → ∀ (m B : Nat) (g' : GG) (ref : LST) (a11 : Option AV), B + m = 4 → SM3 g g' → g' 74 1 = 0 → g' 74 5 = (A : Int) → g' 74 6 = (B : Int) → RL (lrP (vM g) K S fr to (4 * A + B)) ref → RJ (mX12_learnt (rmD 9 0 0)) 0 0 shW.length Q 0 0 shW 148 [some (vR (some 74)), some (vI fr), some (vI to), some (vI w), some (vI (g 74 5)), some (vI (g 74 6)), some (vI (g 74 7)), some (vI ref.1), some (vI ref.2.1), some (vI ref.2.2.1), some (vI ref.2.2.2), a11] [] g' z r := by
    intro A hA4 hk m
    induction m with
    | zero =>
      intro B g' ref a11 hB s1 h1 h5 h6 hrl
      obtain rfl : B = 4 := by omega
      refine R_aload_n dX12_learnt_148 rfl ?_
      refine R_getI fd12_6 kf12_17 rfl dX12_learnt_149 ?_
      rw [h6]
      refine R_iconst dX12_learnt_152 rfl rfl ?_
      refine R_icmp_ge 257 dX12_learnt_153 (by decide) (fun hc153 => ?_) (fun hc153 => ?_)
      · exact hk g' ref a11 s1 h1 h5 hrl
      · exact absurd (by omega) hc153
    | succ m ih =>
      intro B g' ref a11 hB s1 h1 h5 h6 hrl
      have hB4 : B < 4 := by omega
      have hdiv : (4 * A + B) / 4 = A := by omega
      have hmod : (4 * A + B) % 4 = B := by omega
      have hn1 := fun g' ref a11 => ih (B + 1) g' ref a11 (by omega)
      rw [show 4 * A + (B + 1) = (4 * A + B) + 1 by omega, lrP, hdiv, hmod] at hn1
      have next : ∀ (g2 : GG) (ref2 : LST) (a11 : Option AV), SM3 g g2 → g2 74 1 = 0 → g2 74 5 = (A : Int) → g2 74 6 = (B : Int) → RL (if 0 < (K A).length ∧ 0 < (K B).length then lrY (vM g) K S fr (4 * A + B) (to - fr + 1).toNat (lrP (vM g) K S fr to (4 * A + B)) else lrP (vM g) K S fr to (4 * A + B)) ref2 → RJ (mX12_learnt (rmD 9 0 0)) 0 0 shW.length Q 0 0 shW 244 [some (vR (some 74)), some (vI fr), some (vI to), some (vI w), some (vI (g 74 5)), some (vI (g 74 6)), some (vI (g 74 7)), some (vI ref2.1), some (vI ref2.2.1), some (vI ref2.2.2.1), some (vI ref2.2.2.2), a11] [] g2 z r := by
        intro g2 ref2 a11 t1 t2 t5 t6 trl
        refine R_aload_n dX12_learnt_244 rfl ?_
        refine R_dup dX12_learnt_245 (fun _ h => by cases h) ?_
        refine R_getI fd12_6 kf12_17 rfl dX12_learnt_246 ?_
        rw [t6]
        refine R_iconst dX12_learnt_249 rfl rfl ?_
        refine R_iaddN dX12_learnt_250 (by unfold inI; omega) ?_
        refine R_putI fd12_6 rfl kf12_17 rfl dX12_learnt_251 ?_
        refine R_goto 148 dX12_learnt_254 (by decide) ?_
        exact hn1 _ ref2 _ (t1.up (Or.inr (Or.inl rfl))) (by rw [up2_k (by decide)]; exact t2) (by rw [up2_k (by decide)]; exact t5) (by rw [up2_s]; omega) trl
      refine R_aload_n dX12_learnt_148 rfl ?_
      refine R_getI fd12_6 kf12_17 rfl dX12_learnt_149 ?_
      rw [h6]
      refine R_iconst dX12_learnt_152 rfl rfl ?_
      refine R_icmp_ge 257 dX12_learnt_153 (by decide) (fun hc153 => ?_) (fun hc153 => ?_)
      · exact absurd hc153 (by omega)
      have s7 : SM3 g (up2 g' 74 7 fr) := s1.up (Or.inr (Or.inr rfl))
      have t1 : (up2 g' 74 7 fr) 74 1 = 0 := by rw [up2_k (by decide)]; exact h1
      have t5 : (up2 g' 74 7 fr) 74 5 = (A : Int) := by rw [up2_k (by decide)]; exact h5
      have t6 : (up2 g' 74 7 fr) 74 6 = (B : Int) := by rw [up2_k (by decide)]; exact h6
      have t7 : (up2 g' 74 7 fr) 74 7 = fr := up2_s
      refine R_aload_n dX12_learnt_156 rfl ?_
      refine R_iload_n dX12_learnt_157 rfl ?_
      refine R_putI fd12_7 rfl kf12_20 rfl dX12_learnt_158 ?_
      by_cases hAB : 0 < (K A).length ∧ 0 < (K B).length
      · refine inner A B hA4 hB4 hAB (lrP (vM g) K S fr to (4 * A + B)) (fun g2 ref2 a11 q1 q2 q3 q4 q5 => next g2 ref2 a11 q1 q2 q3 q4 (by rw [if_pos hAB]; exact q5)) (to - fr + 1).toNat 0 _ ref _ (by omega) s7 t1 t5 t6 (by rw [t7]; omega) hrl
      · rw [if_neg hAB] at next
        refine R_aload_n dX12_learnt_161 rfl ?_
        refine R_getI fd12_7 kf12_20 rfl dX12_learnt_162 ?_
        rw [t7]
        refine R_iload_n dX12_learnt_165 rfl ?_
        refine R_icmp_gt 244 dX12_learnt_166 (by decide) (fun hc166 => ?_) (fun hc166 => ?_)
        · exact absurd hc166 (by omega)
        refine R_aload_n dX12_learnt_169 rfl ?_
        refine R_getR _ (hr _ _ _ rfl) fd12_24 kf12_69 rfl dX12_learnt_170 ?_
        refine R_aload_n dX12_learnt_173 rfl ?_
        refine R_getI fd12_5 kf12_13 rfl dX12_learnt_174 ?_
        rw [t5]
        refine R_iald rfl (by omega) (by omega) dX12_learnt_177 ?_
        rw [Int.toNat_natCast, many _ s7 A hA4]
        refine R_if_le 244 dX12_learnt_178 (by decide) (fun hc178 => ?_) (fun hc178 => ?_)
        · exact next _ ref _ s7 t1 t5 t6 hrl
        refine R_aload_n dX12_learnt_181 rfl ?_
        refine R_getR _ (hr _ _ _ rfl) fd12_24 kf12_69 rfl dX12_learnt_182 ?_
        refine R_aload_n dX12_learnt_185 rfl ?_
        refine R_getI fd12_6 kf12_17 rfl dX12_learnt_186 ?_
        rw [t6]
        refine R_iald rfl (by omega) (by omega) dX12_learnt_189 ?_
        rw [Int.toNat_natCast, many _ s7 B hB4]
        refine R_if_le 244 dX12_learnt_190 (by decide) (fun hc190 => ?_) (fun hc190 => ?_)
        · exact next _ ref _ s7 t1 t5 t6 hrl
        · exact absurd ⟨by omega, by omega⟩ hAB
  have loopA : ∀ (m A : Nat) (g' : GG) (ref : LST) (a11 : Option AV), A + m = 4 → SM3 g g' → g' 74 1 = 0 → g' 74 5 = (A : Int) → RL (lrP (vM g) K S fr to (4 * A)) ref → RJ (mX12_learnt (rmD 9 0 0)) 0 0 shW.length Q 0 0 shW 135 [some (vR (some 74)), some (vI fr), some (vI to), some (vI w), some (vI (g 74 5)), some (vI (g 74 6)), some (vI (g 74 7)), some (vI ref.1), some (vI ref.2.1), some (vI ref.2.2.1), some (vI ref.2.2.2), a11] [] g' z r := by
    intro m
    induction m with
    | zero =>
      intro A g' ref a11 hA s1 h1 h5 hrl
      obtain rfl : A = 4 := by omega
      refine R_aload_n dX12_learnt_135 rfl ?_
      refine R_getI fd12_5 kf12_13 rfl dX12_learnt_136 ?_
      rw [h5]
      refine R_iconst dX12_learnt_139 rfl rfl ?_
      refine R_icmp_ge 270 dX12_learnt_140 (by decide) (fun hc140 => ?_) (fun hc140 => ?_)
      · exact hend g' ref a11 s1 h1 hrl
      · exact absurd (by omega) hc140
    | succ m ih =>
      intro A g' ref a11 hA s1 h1 h5 hrl
      refine R_aload_n dX12_learnt_135 rfl ?_
      refine R_getI fd12_5 kf12_13 rfl dX12_learnt_136 ?_
      rw [h5]
      refine R_iconst dX12_learnt_139 rfl rfl ?_
      refine R_icmp_ge 270 dX12_learnt_140 (by decide) (fun hc140 => ?_) (fun hc140 => ?_)
      · exact absurd hc140 (by omega)
      refine R_aload_n dX12_learnt_143 rfl ?_
      refine R_iconst dX12_learnt_144 rfl rfl ?_
      refine R_putI fd12_6 rfl kf12_17 rfl dX12_learnt_145 ?_
      refine loopB A (by omega) (fun g2 ref2 a11 q1 q2 q3 q4 => ?_) 4 0 _ ref _ (by omega) (s1.up (Or.inr (Or.inl rfl))) (by rw [up2_k (by decide)]; exact h1) (by rw [up2_k (by decide)]; exact h5) (by rw [up2_s]; rfl) hrl
      refine R_aload_n dX12_learnt_257 rfl ?_
      refine R_dup dX12_learnt_258 (fun _ h => by cases h) ?_
      refine R_getI fd12_5 kf12_13 rfl dX12_learnt_259 ?_
      rw [q3]
      refine R_iconst dX12_learnt_262 rfl rfl ?_
      refine R_iaddN dX12_learnt_263 (by unfold inI; omega) ?_
      refine R_putI fd12_5 rfl kf12_13 rfl dX12_learnt_264 ?_
      refine R_goto 135 dX12_learnt_267 (by decide) ?_
      exact ih (A + 1) _ ref2 _ (by omega) (q1.up (Or.inl rfl)) (by rw [up2_k (by decide)]; exact q2) (by rw [up2_s]; omega) q4
  exact loopA 4 0 g0 (-100000000, 0, 0, 0) a11 (by omega) hs0 h01 h05 (Or.inl ⟨rfl, rfl⟩)
theorem m_learnt (K : Nat → CUS) (H : MP g r K) (hal : 0 ≤ g 74 9 ∧ g 74 9 ≤ 1000) (fr to w : Int) : CT (mX12_learnt (rmD 9 0 0)) 0 0 shW [vR (some 74), vI fr, vI to, vI w] g z r (qG shW z r fun v g' => (¬ leM g K fr to w ∧ v = some (vI (-1000000)) ∧ g' = g) ∨ (leM g K fr to w ∧ wayF (vM g) (tM g) ≠ 0 ∧ v = some (vI (-2000000)) ∧ SM2 g g' ∧ g' 74 1 = 0) ∨ (leM g K fr to w ∧ wayF (vM g) (tM g) = 0 ∧ v = some (vI (leW (lrP (vM g) K (setsR (vM g) (tM g)) fr to 16) w)) ∧ SM2 g g' ∧ g' 74 1 = 0)) := by
  obtain ⟨hr, hB, hB2, hK⟩ := id H
  have hF := hB2.2.2.2.2.2.1
  have hK0 := (hK 0 (by omega)).1
  have hK1 := (hK 1 (by omega)).1
  have hK2 := (hK 2 (by omega)).1
  have hK3 := (hK 3 (by omega)).1
  have hl0 := (hK 0 (by omega)).2.1
  have hl1 := (hK 1 (by omega)).2.1
  have hl2 := (hK 2 (by omega)).2.1
  have hl3 := (hK 3 (by omega)).2.1
  refine CT.of 8 rfl rfl ?_
  refine R_iload_n dX12_learnt_0 rfl ?_
  refine R_i2l dX12_learnt_1 ?_
  refine R_lconst dX12_learnt_2 ?_
  refine R_ldc2_w (v := 300) kk12_316 dX12_learnt_3 (by decide) ?_
  refine R_callS (m_lies _ _ _) (mvX12_lies _) ksX12_lies km12_164 ⟨rfl, rfl, by decide, by decide⟩ (Nat.le_of_ble_eq_true rfl) dX12_learnt_6 (fun v1 sh1 g1 z1 r1 hq => ?_)
  obtain ⟨rfl, rfl, rfl, rfl, rfl⟩ := hq
  refine R_if_eq 78 dX12_learnt_9 (by decide) (fun hc9 => ?_) (fun hc9 => ?_)
  · try simp only [b2i_z, bi_z, ne_eq, Classical.not_not] at hc9
    refine R_ldc_wC (v := -1000000) kk12_400 (by decide +kernel) dX12_learnt_78 (by decide) ?_
    refine R_ireturn rfl (by first | rfl | exact nar_b2i | exact nar_bi) (by decide) (by decide) dX12_learnt_81 ?_
    exact ⟨Or.inl ⟨fun q => by have q1 := q.1; have q2 := q.2.1; have q3 := q.2.2; try simp only [show (0 : Int).toNat = 0 from rfl, show (1 : Int).toNat = 1 from rfl, show (2 : Int).toNat = 2 from rfl, show (3 : Int).toNat = 3 from rfl, hK0, hK1, hK2, hK3] at *; omega, rfl, rfl⟩, rfl, rfl, rfl⟩
  · try simp only [b2i_z, bi_z, ne_eq, Classical.not_not] at hc9
    refine R_iload_n dX12_learnt_12 rfl ?_
    refine R_i2l dX12_learnt_13 ?_
    refine R_iload_n dX12_learnt_14 rfl ?_
    refine R_i2l dX12_learnt_15 ?_
    refine R_ldc2_w (v := 300) kk12_316 dX12_learnt_16 (by decide) ?_
    refine R_callS (m_lies _ _ _) (mvX12_lies _) ksX12_lies km12_164 ⟨rfl, rfl, by decide, by decide⟩ (Nat.le_of_ble_eq_true rfl) dX12_learnt_19 (fun v1 sh1 g1 z1 r1 hq => ?_)
    obtain ⟨rfl, rfl, rfl, rfl, rfl⟩ := hq
    refine R_if_eq 78 dX12_learnt_22 (by decide) (fun hc22 => ?_) (fun hc22 => ?_)
    · try simp only [b2i_z, bi_z, ne_eq, Classical.not_not] at hc22
      refine R_ldc_wC (v := -1000000) kk12_400 (by decide +kernel) dX12_learnt_78 (by decide) ?_
      refine R_ireturn rfl (by first | rfl | exact nar_b2i | exact nar_bi) (by decide) (by decide) dX12_learnt_81 ?_
      exact ⟨Or.inl ⟨fun q => by have q1 := q.1; have q2 := q.2.1; have q3 := q.2.2; try simp only [show (0 : Int).toNat = 0 from rfl, show (1 : Int).toNat = 1 from rfl, show (2 : Int).toNat = 2 from rfl, show (3 : Int).toNat = 3 from rfl, hK0, hK1, hK2, hK3] at *; omega, rfl, rfl⟩, rfl, rfl, rfl⟩
    · try simp only [b2i_z, bi_z, ne_eq, Classical.not_not] at hc22
      refine R_iload_n dX12_learnt_25 rfl ?_
      refine R_i2l dX12_learnt_26 ?_
      refine R_lconst dX12_learnt_27 ?_
      refine R_ldc2_w (v := 3) kk12_196 dX12_learnt_28 (by decide) ?_
      refine R_callS (m_lies _ _ _) (mvX12_lies _) ksX12_lies km12_164 ⟨rfl, rfl, by decide, by decide⟩ (Nat.le_of_ble_eq_true rfl) dX12_learnt_31 (fun v1 sh1 g1 z1 r1 hq => ?_)
      obtain ⟨rfl, rfl, rfl, rfl, rfl⟩ := hq
      refine R_if_eq 78 dX12_learnt_34 (by decide) (fun hc34 => ?_) (fun hc34 => ?_)
      · try simp only [b2i_z, bi_z, ne_eq, Classical.not_not] at hc34
        refine R_ldc_wC (v := -1000000) kk12_400 (by decide +kernel) dX12_learnt_78 (by decide) ?_
        refine R_ireturn rfl (by first | rfl | exact nar_b2i | exact nar_bi) (by decide) (by decide) dX12_learnt_81 ?_
        exact ⟨Or.inl ⟨fun q => by have q1 := q.1; have q2 := q.2.1; have q3 := q.2.2; try simp only [show (0 : Int).toNat = 0 from rfl, show (1 : Int).toNat = 1 from rfl, show (2 : Int).toNat = 2 from rfl, show (3 : Int).toNat = 3 from rfl, hK0, hK1, hK2, hK3] at *; omega, rfl, rfl⟩, rfl, rfl, rfl⟩
      · try simp only [b2i_z, bi_z, ne_eq, Classical.not_not] at hc34
        refine R_aload_n dX12_learnt_37 rfl ?_
        refine R_getR _ (hr _ _ _ rfl) fd12_24 kf12_69 rfl dX12_learnt_38 ?_
        refine R_iconst dX12_learnt_41 rfl rfl ?_
        refine R_iald rfl (by omega) (by omega) dX12_learnt_42 ?_
        refine R_aload_n dX12_learnt_43 rfl ?_
        refine R_getR _ (hr _ _ _ rfl) fd12_24 kf12_69 rfl dX12_learnt_44 ?_
        refine R_iconst dX12_learnt_47 rfl rfl ?_
        refine R_iald rfl (by omega) (by omega) dX12_learnt_48 ?_
        refine R_iaddN dX12_learnt_49 (by simp only [show (0 : Int).toNat = 0 from rfl, show (1 : Int).toNat = 1 from rfl, show (2 : Int).toNat = 2 from rfl, show (3 : Int).toNat = 3 from rfl, hK0, hK1, hK2, hK3]; unfold inI; omega) ?_
        refine R_aload_n dX12_learnt_50 rfl ?_
        refine R_getR _ (hr _ _ _ rfl) fd12_24 kf12_69 rfl dX12_learnt_51 ?_
        refine R_iconst dX12_learnt_54 rfl rfl ?_
        refine R_iald rfl (by omega) (by omega) dX12_learnt_55 ?_
        refine R_iaddN dX12_learnt_56 (by simp only [show (0 : Int).toNat = 0 from rfl, show (1 : Int).toNat = 1 from rfl, show (2 : Int).toNat = 2 from rfl, show (3 : Int).toNat = 3 from rfl, hK0, hK1, hK2, hK3]; unfold inI; omega) ?_
        refine R_aload_n dX12_learnt_57 rfl ?_
        refine R_getR _ (hr _ _ _ rfl) fd12_24 kf12_69 rfl dX12_learnt_58 ?_
        refine R_iconst dX12_learnt_61 rfl rfl ?_
        refine R_iald rfl (by omega) (by omega) dX12_learnt_62 ?_
        refine R_iaddN dX12_learnt_63 (by simp only [show (0 : Int).toNat = 0 from rfl, show (1 : Int).toNat = 1 from rfl, show (2 : Int).toNat = 2 from rfl, show (3 : Int).toNat = 3 from rfl, hK0, hK1, hK2, hK3]; unfold inI; omega) ?_
        refine R_if_eq 78 dX12_learnt_64 (by decide) (fun hc64 => ?_) (fun hc64 => ?_)
        · refine R_ldc_wC (v := -1000000) kk12_400 (by decide +kernel) dX12_learnt_78 (by decide) ?_
          refine R_ireturn rfl (by first | rfl | exact nar_b2i | exact nar_bi) (by decide) (by decide) dX12_learnt_81 ?_
          exact ⟨Or.inl ⟨fun q => by have q1 := q.1; have q2 := q.2.1; have q3 := q.2.2; try simp only [show (0 : Int).toNat = 0 from rfl, show (1 : Int).toNat = 1 from rfl, show (2 : Int).toNat = 2 from rfl, show (3 : Int).toNat = 3 from rfl, hK0, hK1, hK2, hK3] at *; omega, rfl, rfl⟩, rfl, rfl, rfl⟩
        · refine R_aload_n dX12_learnt_67 rfl ?_
          refine R_getI fd12_1 kf12_203 rfl dX12_learnt_68 ?_
          refine R_aload_n dX12_learnt_71 rfl ?_
          refine R_getI fd12_4 kf12_175 rfl dX12_learnt_72 ?_
          refine R_icmp_ge 82 dX12_learnt_75 (by decide) (fun hc75 => ?_) (fun hc75 => ?_)
          · have hok : leM g K fr to w := ⟨by omega, by simp only [show (0 : Int).toNat = 0 from rfl, show (1 : Int).toNat = 1 from rfl, show (2 : Int).toNat = 2 from rfl, show (3 : Int).toNat = 3 from rfl, hK0, hK1, hK2, hK3] at hc64; omega, by omega⟩
            have sT : SM2 g (up2 g 74 1 0) := ⟨fun c' a b => up2_ne a, fun k a b e => up2_k e⟩
            have hm : MP (up2 g 74 1 0) r K := sT.MP H
            refine R_aload_n dX12_learnt_82 rfl ?_
            refine R_iconst dX12_learnt_83 rfl rfl ?_
            refine R_putI fd12_1 rfl kf12_203 rfl dX12_learnt_84 ?_
            refine R_aload_n dX12_learnt_87 rfl ?_
            refine R_callV (m_wayOf K hm) (mvX12_wayOf _) kiX12_wayOf kvX12_wayOf km12_456 rfl rfl (by decide) ⟨rfl, rfl, by decide, by decide⟩ (Nat.le_of_ble_eq_true rfl) dX12_learnt_88 (fun v1 sh1 g1 z1 r1 hq => ?_)
            obtain ⟨⟨rfl, s1⟩, rfl, rfl, rfl⟩ := hq
            have s2 := sT.trans s1.sm2
            rw [sT.vM, sT.tM]
            have h1 : g1 74 1 = 0 := by rw [s1.2 1 (by decide) (by decide), up2_s]
            have hw := wayF_le (s := vM g) (T := tM g)
            refine R_if_ge 98 dX12_learnt_91 (by decide) (fun hc91 => ?_) (fun hc91 => ?_)
            · have hw0 : wayF (vM g) (tM g) = 0 := by omega
              have hbrk : ∀ c : Nat, (c : Int) < g 74 3 → ∃ l, fam (vM g) c (setsR (vM g) (tM g) c) = some l := fun c hc => brk_none (way_ok hw0).2 c (by show c < (g 74 3).toNat; omega)
              refine R_aload_n dX12_learnt_98 rfl ?_
              refine R_getI fd12_5 kf12_13 rfl dX12_learnt_99 ?_
              refine R_istore dX12_learnt_102 (by decide) rfl [_, _, _, _, _, _, _, _, _, _, _, _] rfl ?_
              refine R_aload_n dX12_learnt_104 rfl ?_
              refine R_getI fd12_6 kf12_17 rfl dX12_learnt_105 ?_
              refine R_istore dX12_learnt_108 (by decide) rfl [_, _, _, _, _, _, _, _, _, _, _, _] rfl ?_
              refine R_aload_n dX12_learnt_110 rfl ?_
              refine R_getI fd12_7 kf12_20 rfl dX12_learnt_111 ?_
              refine R_istore dX12_learnt_114 (by decide) rfl [_, _, _, _, _, _, _, _, _, _, _, _] rfl ?_
              refine R_ldc_wC (v := -100000000) kk12_404 (by decide +kernel) dX12_learnt_116 (by decide) ?_
              refine R_istore dX12_learnt_119 (by decide) rfl [_, _, _, _, _, _, _, _, _, _, _, _] rfl ?_
              refine R_iconst dX12_learnt_121 rfl rfl ?_
              refine R_istore dX12_learnt_122 (by decide) rfl [_, _, _, _, _, _, _, _, _, _, _, _] rfl ?_
              refine R_iconst dX12_learnt_124 rfl rfl ?_
              refine R_istore dX12_learnt_125 (by decide) rfl [_, _, _, _, _, _, _, _, _, _, _, _] rfl ?_
              refine R_iconst dX12_learnt_127 rfl rfl ?_
              refine R_istore dX12_learnt_128 (by decide) rfl [_, _, _, _, _, _, _, _, _, _, _, _] rfl ?_
              refine R_aload_n dX12_learnt_130 rfl ?_
              refine R_iconst dX12_learnt_131 rfl rfl ?_
              refine R_putI fd12_5 rfl kf12_13 rfl dX12_learnt_132 ?_
              rw [s2.2 5 (by decide) (by decide) (by decide), s2.2 6 (by decide) (by decide) (by decide), s2.2 7 (by decide) (by decide) (by decide)]
              refine m_learn_loop K H hal fr to w (by omega) hbrk (by omega) (fun g' ref a11 s3 h31 hrl => ?_) (up2 g1 74 5 0) none ⟨fun c' a b => by rw [up2_ne a]; exact s2.1 c' a b, fun k a b d e f i => by rw [up2_k e]; exact s2.2 k a b d⟩ (by rw [up2_k (by decide)]; exact h1) (by rw [up2_s])
              have href : ref = lrP (vM g) K (setsR (vM g) (tM g)) fr to 16 := by
                rcases hrl with ⟨q1, q2⟩ | ⟨q1, q2⟩
                · exact absurd q1 (lrP_some H hal fr to (by omega) hbrk hok.2.1)
                · exact q1
              subst href
              have sF : SM2 g (up2 (up2 (up2 g' 74 5 (g 74 5)) 74 6 (g 74 6)) 74 7 (g 74 7)) := by
                refine ⟨fun c' a b => by rw [up2_ne a, up2_ne a, up2_ne a]; exact s3.1 c' a b, fun k a b d => ?_⟩
                by_cases e7 : k = 7
                · subst e7; rw [up2_s]
                · rw [up2_k e7]
                  by_cases e6 : k = 6
                  · subst e6; rw [up2_s]
                  · rw [up2_k e6]
                    by_cases e5 : k = 5
                    · subst e5; rw [up2_s]
                    · rw [up2_k e5]; exact s3.2 k a b d e5 e6 e7
              have hF1 : (up2 (up2 (up2 g' 74 5 (g 74 5)) 74 6 (g 74 6)) 74 7 (g 74 7)) 74 1 = 0 := by rw [up2_k (by decide), up2_k (by decide), up2_k (by decide)]; exact h31
              refine R_aload_n dX12_learnt_270 rfl ?_
              refine R_iload dX12_learnt_271 rfl ?_
              refine R_putI fd12_5 rfl kf12_13 rfl dX12_learnt_273 ?_
              refine R_aload_n dX12_learnt_276 rfl ?_
              refine R_iload dX12_learnt_277 rfl ?_
              refine R_putI fd12_6 rfl kf12_17 rfl dX12_learnt_279 ?_
              refine R_aload_n dX12_learnt_282 rfl ?_
              refine R_iload dX12_learnt_283 rfl ?_
              refine R_putI fd12_7 rfl kf12_20 rfl dX12_learnt_285 ?_
              refine R_iload_n dX12_learnt_288 rfl ?_
              refine R_if_ne 297 dX12_learnt_289 (by decide) (fun hc289 => ?_) (fun hc289 => ?_)
              · refine R_iload_n dX12_learnt_297 rfl ?_
                refine R_iconst dX12_learnt_298 rfl rfl ?_
                refine R_icmp_ne 307 dX12_learnt_299 (by decide) (fun hc299 => ?_) (fun hc299 => ?_)
                · refine R_iload_n dX12_learnt_307 rfl ?_
                  refine R_iconst dX12_learnt_308 rfl rfl ?_
                  refine R_icmp_ne 317 dX12_learnt_309 (by decide) (fun hc309 => ?_) (fun hc309 => ?_)
                  · refine R_iload dX12_learnt_317 rfl ?_
                    refine R_ireturn rfl (by first | rfl | exact nar_b2i | exact nar_bi) (by decide) (by decide) dX12_learnt_319 ?_
                    first | exact ⟨Or.inr (Or.inr ⟨hok, hw0, by rw [leW]; simp [*], sF, hF1⟩), rfl, rfl, rfl⟩ | exact ⟨Or.inr (Or.inr ⟨hok, hw0, by rw [leW, if_neg (by omega), if_neg (by omega), if_neg (by omega)], sF, hF1⟩), rfl, rfl, rfl⟩
                  · refine R_iload dX12_learnt_312 rfl ?_
                    refine R_goto 319 dX12_learnt_314 (by decide) ?_
                    refine R_ireturn rfl (by first | rfl | exact nar_b2i | exact nar_bi) (by decide) (by decide) dX12_learnt_319 ?_
                    first | exact ⟨Or.inr (Or.inr ⟨hok, hw0, by rw [leW]; simp [*], sF, hF1⟩), rfl, rfl, rfl⟩ | exact ⟨Or.inr (Or.inr ⟨hok, hw0, by rw [leW, if_neg (by omega), if_neg (by omega), if_neg (by omega)], sF, hF1⟩), rfl, rfl, rfl⟩
                · refine R_iload dX12_learnt_302 rfl ?_
                  refine R_goto 319 dX12_learnt_304 (by decide) ?_
                  refine R_ireturn rfl (by first | rfl | exact nar_b2i | exact nar_bi) (by decide) (by decide) dX12_learnt_319 ?_
                  first | exact ⟨Or.inr (Or.inr ⟨hok, hw0, by rw [leW]; simp [*], sF, hF1⟩), rfl, rfl, rfl⟩ | exact ⟨Or.inr (Or.inr ⟨hok, hw0, by rw [leW, if_neg (by omega), if_neg (by omega), if_neg (by omega)], sF, hF1⟩), rfl, rfl, rfl⟩
              · refine R_iload dX12_learnt_292 rfl ?_
                refine R_goto 319 dX12_learnt_294 (by decide) ?_
                refine R_ireturn rfl (by first | rfl | exact nar_b2i | exact nar_bi) (by decide) (by decide) dX12_learnt_319 ?_
                first | exact ⟨Or.inr (Or.inr ⟨hok, hw0, by rw [leW]; simp [*], sF, hF1⟩), rfl, rfl, rfl⟩ | exact ⟨Or.inr (Or.inr ⟨hok, hw0, by rw [leW, if_neg (by omega), if_neg (by omega), if_neg (by omega)], sF, hF1⟩), rfl, rfl, rfl⟩
            · refine R_ldc_wC (v := -2000000) kk12_451 (by decide +kernel) dX12_learnt_94 (by decide) ?_
              refine R_ireturn rfl (by first | rfl | exact nar_b2i | exact nar_bi) (by decide) (by decide) dX12_learnt_97 ?_
              exact ⟨Or.inr (Or.inl ⟨hok, by omega, rfl, s2, h1⟩), rfl, rfl, rfl⟩
          · refine R_ldc_wC (v := -1000000) kk12_400 (by decide +kernel) dX12_learnt_78 (by decide) ?_
            refine R_ireturn rfl (by first | rfl | exact nar_b2i | exact nar_bi) (by decide) (by decide) dX12_learnt_81 ?_
            exact ⟨Or.inl ⟨fun q => by have q1 := q.1; have q2 := q.2.1; have q3 := q.2.2; try simp only [show (0 : Int).toNat = 0 from rfl, show (1 : Int).toNat = 1 from rfl, show (2 : Int).toNat = 2 from rfl, show (3 : Int).toNat = 3 from rfl, hK0, hK1, hK2, hK3] at *; omega, rfl, rfl⟩, rfl, rfl, rfl⟩
end MLEARN
