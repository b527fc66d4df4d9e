section MUT6
variable {g g' z z' : GG} {r r' : RR} {K K' : Nat → CUS}
theorem b8_and (x : Int) : bAnd (b8 x) 255 = bAnd x 255 := by
  unfold bAnd b8
  rw [o32]
  congr 1
  generalize i32 x = y
  apply Int32.toBitVec_inj.mp
  rw [Int32.toBitVec_and, Int32.toBitVec_and, Int8.toBitVec_toInt32, Int32.toBitVec_toInt8]
  have h8 : ∀ i, i < 32 → 8 ≤ i → (i32 255).toBitVec.getLsbD i = false := by decide +kernel
  apply BitVec.eq_of_getLsbD_eq
  intro i hi
  rw [BitVec.getLsbD_and, BitVec.getLsbD_and]
  by_cases h : i < 8
  · rw [BitVec.getLsbD_signExtend, if_pos h, BitVec.getLsbD_signExtend, if_pos hi]
    simp [h, hi]
  · rw [h8 i hi (by omega), Bool.and_false, Bool.and_false]
theorem tp_tq {f h : Nat → Int} (n : Nat) (w : Int) (hf : ∀ i, f i = bAnd (h i) 255) : ∀ i, tp4 f n w i = bAnd (tq4 h n w i) 255 := by
  intro i
  unfold tp4 tq4 byt
  by_cases h1 : i = n + 3
  · rw [if_pos h1, if_pos h1]; exact (b8_and _).symm
  rw [if_neg h1, if_neg h1]
  by_cases h2 : i = n + 2
  · rw [if_pos h2, if_pos h2]; exact (b8_and _).symm
  rw [if_neg h2, if_neg h2]
  by_cases h3 : i = n + 1
  · rw [if_pos h3, if_pos h3]; exact (b8_and _).symm
  rw [if_neg h3, if_neg h3]
  by_cases h4 : i = n
  · rw [if_pos h4, if_pos h4]; exact (b8_and _).symm
  rw [if_neg h4, if_neg h4]
  exact hf i
theorem tp_tq20 {f h : Nat → Int} (n : Nat) (a b c d e : Int) (hf : ∀ i, f i = bAnd (h i) 255) : ∀ i, tp20 f n a b c d e i = bAnd (tq20 h n a b c d e i) 255 := tp_tq _ _ (tp_tq _ _ (tp_tq _ _ (tp_tq _ _ (tp_tq _ _ hf))))
theorem byte_b (x : Int) : 0 ≤ bAnd x 255 ∧ bAnd x 255 ≤ 255 := by
  obtain ⟨n, hn, e⟩ := byte_of x
  rw [e]; omega
/-- the class's books do not hang on the tape, the reader, the draft's text -/
theorem WP_tp (e : ∀ c, c ≤ 18 ∨ c = 30 ∨ (43 ≤ c ∧ c ≤ 47) → g' c = g c) (h41 : g' 41 10 = g 41 10) (hF : FP g' r K) (H : WP g z r K) : WP g' z r K := by
  have hv : vC g' = vC g := vC_cong (fun c' h' => e c' (by unfold vcell at h'; omega))
  refine ⟨hF, by rw [e 1 (by omega)]; exact H.2.1, by rw [e 43 (by omega)]; exact H.2.2.1, ?_⟩
  rw [h41, e 30 (by omega), hv]
  rcases H.2.2.2 with q | ⟨q, w⟩
  · exact Or.inl q
  · refine Or.inr ⟨q, XI_cong ?_ ?_ ?_ ?_ rfl rfl w⟩
    · rw [e 44 (by omega)]
    · rw [e 45 (by omega)]
    · rw [e 46 (by omega)]
    · rw [e 47 (by omega)]
theorem IC_tp (e : ∀ c, c ≠ 19 → c ≠ 20 → c ≤ 73 → g' c = g c) (h19 : 0 ≤ g' 19 1 ∧ g' 19 1 ≤ 200) (h20 : ∀ i, 0 ≤ g' 20 i ∧ g' 20 i ≤ 255) (H : IC g z r K) : IC g' z r K := by
  obtain ⟨h1, h2, h3, h4, h5, h6, h7, h8, h9⟩ := id H.1.1
  have hc : ∀ c', cuc c' → g' c' = g c' := fun c' q => e c' (by unfold cuc at q; omega) (by unfold cuc at q; omega) (by unfold cuc at q; omega)
  refine ⟨WP_tp (fun c q => e c (by omega) (by omega) (by omega)) (by rw [e 41 (by omega) (by omega) (by omega)]) ⟨h1, h2, BD_cong (fun c' q => e c' (by unfold vcell at q; omega) (by unfold vcell at q; omega) (by unfold vcell at q; omega)) h3, by unfold BD2; rw [e 4 (by omega) (by omega) (by omega), e 1 (by omega) (by omega) (by omega)]; exact h4, by rw [e 2 (by omega) (by omega) (by omega)]; exact h5, by rw [e 5 (by omega) (by omega) (by omega)]; exact h6, by rw [e 11 (by omega) (by omega) (by omega)]; exact h7, by rw [e 13 (by omega) (by omega) (by omega), e 11 (by omega) (by omega) (by omega), e 18 (by omega) (by omega) (by omega)]; exact h8, ciK_cg hc h2 h9⟩ H.1, DR_cc hc H.2.1, h19, h20⟩
theorem TP_o {f : Nat → Int} {x : Int} {c : Nat} (h1 : c ≠ 19) (h2 : c ≠ 20) : TP g f x c = g c := by unfold TP; rw [up2_ne h1, upC_ne h2]
theorem TP_20 {f : Nat → Int} {x : Int} : TP g f x 20 = f := by unfold TP; rw [up2_ne (by omega)]; unfold upC; rw [if_pos rfl]
theorem TP_19 {f : Nat → Int} {x : Int} : TP g f x 19 1 = x := by unfold TP; rw [up2_s]
theorem TQ_o {f : Nat → Int} {x : Int} {c : Nat} (h1 : c ≠ 74) (h2 : c ≠ 75) : TQ g f x c = g c := by unfold TQ; rw [up2_ne h1, upC_ne h2]
theorem TQ_75 {f : Nat → Int} {x : Int} : TQ g f x 75 = f := by unfold TQ; rw [up2_ne (by omega)]; unfold upC; rw [if_pos rfl]
theorem TQ_1 {f : Nat → Int} {x : Int} : TQ g f x 74 1 = x := by unfold TQ; rw [up2_s]
theorem TQ_k {f : Nat → Int} {x : Int} {k : Nat} (h : k ≠ 1) : TQ g f x 74 k = g 74 k := by unfold TQ; rw [up2_k h, upC_ne (by omega)]
theorem s_feed (a b c d e : Int) : SimI (mX11_feed (rmD 5 0 0)) (mX12_feed (rmD 5 0 0)) [vI a, vI b, vI c, vI d, vI e] := by
  rintro g z r ⟨K, hC, hM, hE⟩
  have h19 := hC.2.2.1
  obtain ⟨n, hn⟩ : ∃ n : Nat, g 19 1 = (n : Int) := ⟨(g 19 1).toNat, by omega⟩
  refine (p_feed hC.rs n hn (by omega) a b c d e).weaken ?_
  rintro v_ sh1 g1 z1 r1 ⟨q, rfl, rfl, rfl⟩
  rcases q with ⟨a1, rfl, rfl⟩ | ⟨a1, rfl, rfl⟩
  · have hh : ∀ cx, 74 ≤ cx → TP g (tp20 (g 20) n a b c d e) ((n + 20 : Nat) : Int) cx = g cx := fun cx hc => TP_o (by omega) (by omega)
    have htq := tp_tq20 (f := g 20) (h := g 75) n a b c d e hE.2.2
    have hC1 : IC (TP g (tp20 (g 20) n a b c d e) ((n + 20 : Nat) : Int)) z r K := IC_tp (fun cx h1 h2 _ => TP_o h1 h2) (by rw [TP_19]; omega) (fun i => by rw [TP_20, htq i]; exact byte_b _) hC
    have hM1 : IM (TP g (tp20 (g 20) n a b c d e) ((n + 20 : Nat) : Int)) z r K := hM.hi hh (fun _ _ => rfl) hC.rs
    have h20 : TP g (tp20 (g 20) n a b c d e) ((n + 20 : Nat) : Int) 20 = tp20 (g 20) n a b c d e := TP_20
    have h191 : TP g (tp20 (g 20) n a b c d e) ((n + 20 : Nat) : Int) 19 1 = ((n + 20 : Nat) : Int) := TP_19
    have hvC : vC (TP g (tp20 (g 20) n a b c d e) ((n + 20 : Nat) : Int)) = vC g := vC_cong (fun c' h' => TP_o (by unfold vcell at h'; omega) (by unfold vcell at h'; omega))
    generalize TP g (tp20 (g 20) n a b c d e) ((n + 20 : Nat) : Int) = g1 at *
    have hvM : vM g1 = vM g := vM_cong (fun c x y => hh c (by omega)) (fun k _ _ => by rw [hh 74 (by omega)])
    refine ⟨rfl, _, rfl, (m_feed hC.rs n (by rw [hh 74 (by omega), hE.2.1, hn]) (by omega) a b c d e).weaken ?_⟩
    rintro v2 sh2 g2 z2 r2 ⟨q2, rfl, rfl, rfl⟩
    rcases q2 with ⟨b1, rfl, rfl⟩ | ⟨b1, -⟩
    · rw [hh 75 (by omega)]
      refine ⟨rfl, rfl, K, hC1.lo (fun cx hc => TQ_o (by omega) (by omega)) (fun _ _ => rfl), IM_cg (fun c' q => TQ_o (by omega) (by omega)) (fun k q => TQ_k (by omega)) rfl hC.rs hM1, ?_, ?_, fun ix => ?_⟩
      · rw [vC_cong (g := g1) (fun c' h' => TQ_o (by unfold vcell at h'; omega) (by unfold vcell at h'; omega)), vM_cong (g := g1) (fun c' x y => TQ_o (by omega) (by omega)) (fun k x y => TQ_k (by omega)), hvC, hvM]
        exact hE.1
      · rw [TQ_1, TQ_o (by omega) (by omega), h191]
      · rw [TQ_o (by omega) (by omega), h20, htq ix]
        unfold tM
        rw [TQ_75]
    · exact absurd a1 b1
  · refine ⟨rfl, _, rfl, (m_feed hC.rs n (hE.2.1.trans hn) (by omega) a b c d e).weaken ?_⟩
    rintro v2 sh2 g2 z2 r2 ⟨q2, rfl, rfl, rfl⟩
    rcases q2 with ⟨b1, -⟩ | ⟨b1, rfl, rfl⟩
    · exact absurd b1 a1
    · exact ⟨rfl, rfl, K, hC, hM, hE⟩
theorem tX_eq {f h : Nat → Int} (hf : ∀ i, f i = bAnd (h i) 255) (hb : ∀ i, 0 ≤ f i ∧ f i ≤ 255) (N : Nat) : tX f N = tX h N := by
  funext p
  unfold tX
  by_cases hp : p < N
  · rw [if_pos hp, if_pos hp, ← hf p]
    obtain ⟨m, hm⟩ : ∃ m : Nat, f p = (m : Int) := ⟨(f p).toNat, by have := hb p; omega⟩
    have := hb p
    rw [hm, show (255 : Int) = ((255 : Nat) : Int) from rfl, bAnd_n' (by decide), show (255 : Nat) = 2 ^ 8 - 1 from rfl, Nat.and_two_pow_sub_one_eq_mod, Nat.mod_eq_of_lt (by omega)]
  · rw [if_neg hp, if_neg hp]
theorem IM_fru (s : FrU g g') (hK : kmK g' K') (hR : KmR g' K') (h23 : g' 74 23 = 0 ∨ (g' 74 23 = g 74 23 ∧ K' = K)) (H : IM g z r K) : IM g' z r K' := by
  obtain ⟨⟨⟨h1, h2, h3, h4⟩, h5, h6, h7⟩, h8, h9⟩ := H
  have hk : ∀ k, 2 ≤ k → k ≤ 9 → g' 74 k = g 74 k := fun k a b => s.2 k (by omega) (by omega) (by omega)
  have hc : ∀ c, 76 ≤ c → c ≤ 88 → g' c = g c := fun c a b => s.1 c (by omega) (by omega)
  refine ⟨⟨⟨h1, ?_, ?_, hK⟩, by rw [hk 9 (by omega) (by omega)]; exact h5, by rw [hk 5 (by omega) (by omega), hk 6 (by omega) (by omega)]; exact h6, ?_⟩, hR, ?_⟩
  · unfold BM; rw [hc 84 (by decide) (by decide), hc 83 (by decide) (by decide), hc 76 (by decide) (by decide), hc 80 (by decide) (by decide), hc 77 (by decide) (by decide), hk 8 (by decide) (by decide)]; exact h2
  · unfold BM2; rw [hc 78 (by decide) (by decide), hc 79 (by decide) (by decide), hc 82 (by decide) (by decide), hc 87 (by decide) (by decide), hc 83 (by decide) (by decide), hk 2 (by decide) (by decide), hk 3 (by decide) (by decide), hk 4 (by decide) (by decide)]; exact h3
  · rcases h23 with q | ⟨q, rfl⟩
    · exact Or.inl q
    · rw [q, vM_cong (g := g) hc (fun k a b => hk k a b), hk 5 (by omega) (by omega), hk 6 (by omega) (by omega), hk 7 (by omega) (by omega)]
      rcases h7 with w | ⟨w, f⟩
      · exact Or.inl w
      · refine Or.inr ⟨w, ?_⟩
        unfold FI at f ⊢
        rw [s.2 62 (by omega) (by omega) (by omega), s.2 63 (by omega) (by omega) (by omega), s.1 106 (by omega) (by omega), s.1 115 (by omega) (by omega), s.1 116 (by omega) (by omega)]
        exact f
  · exact VN_same (hc 78 (by omega) (by omega)) (hc 79 (by omega) (by omega)) (hc 82 (by omega) (by omega)) (hc 76 (by omega) (by omega)) (hk 2 (by omega) (by omega)) (hk 3 (by omega) (by omega)) h9
theorem s_custom (k n : Int) : SimI (mX11_custom (rmD 45 0 0)) (mX12_custom (rmD 7 0 0)) [vI k, vI n] := by
  rintro g z r ⟨K, hC, hM, hE⟩
  refine (p_custom K hC.1.1 hC.2.1 hC.2.2.1 k n).weaken ?_
  rintro v sh1 g1 z1 r1 ⟨rfl, rfl, q⟩
  rcases q with ⟨a1, rfl, rfl, rfl⟩ | ⟨a1, s, a19, q⟩
  · refine ⟨rfl, _, rfl, (m_custom hC.rs K hM.1.1.2.2.2 hM.2.1 (by rw [hE.2.1]; exact hC.2.2.1) k n).weaken ?_⟩
    rintro v2 sh2 g2 z2 r2 ⟨q2, rfl, rfl, rfl⟩
    rw [hE.2.1] at q2
    rcases q2 with ⟨b1, rfl, rfl⟩ | ⟨b1, -⟩
    · exact ⟨rfl, rfl, K, hC, hM, hE⟩
    · exact absurd b1 a1
  · have hh : ∀ cx, 74 ≤ cx → g1 cx = g cx := fun cx hc => s.1 cx (by omega) (by omega) (by omega) (by omega) (by omega) (by omega)
    have hl : ∀ cx, cx ≤ 18 ∨ cx = 20 ∨ cx = 30 ∨ (43 ≤ cx ∧ cx ≤ 47) → g1 cx = g cx := fun cx hc => s.1 cx (by omega) (by omega) (by omega) (by omega) (by omega) (by omega)
    have hvC : vC g1 = vC g := vC_cong (fun c' h' => hl c' (by unfold vcell at h'; omega))
    have hvM : vM g1 = vM g := vM_cong (fun c x y => hh c (by omega)) (fun k _ _ => by rw [hh 74 (by omega)])
    have htx : tX (g1 75) n.toNat = tX (g 20) n.toNat := by rw [hh 75 (by omega)]; exact (tX_eq hE.2.2 hC.2.2.2 n.toNat).symm
    have e1 : g1 74 1 = g 19 1 := by rw [hh 74 (by omega)]; exact hE.2.1
    have hEq : ∀ g2 : GG, FrU g1 g2 → g2 74 1 = 0 → EQ g2 := fun g2 t t1 => by
      refine ⟨?_, ?_, fun ix => ?_⟩
      · rw [vC_cong (g := g1) (fun c' h' => t.1 c' (by unfold vcell at h'; omega) (by unfold vcell at h'; omega)), vM_cong (g := g1) (fun c x y => t.1 c (by omega) (by omega)) (fun k x y => t.2 k (by omega) (by omega) (by omega)), hvC, hvM]
        exact hE.1
      · rw [t1, t.1 19 (by omega) (by omega), a19]
      · rw [t.1 20 (by omega) (by omega), hl 20 (by omega), hE.2.2 ix]
        unfold tM
        rw [t.1 75 (by omega) (by omega), hh 75 (by omega)]
    cases hx : txtP (tX (g 20) n.toNat) n.toNat 13 0 [] with
    | inl f =>
      rw [hx] at q
      obtain ⟨rfl, rfl, q41, qF, qD⟩ := q
      have hC1 : IC g1 z r K := ⟨WP_tp (fun c q => hl c (by omega)) (by rw [q41]) qF hC.1, qD, by rw [a19]; omega, by rw [hl 20 (by omega)]; exact hC.2.2.2⟩
      have hM1 : IM g1 z r K := hM.hi hh (fun _ _ => rfl) hC.rs
      refine ⟨rfl, _, rfl, (m_custom hC.rs K hM1.1.1.2.2.2 hM1.2.1 (by rw [e1]; exact hC.2.2.1) k n).weaken ?_⟩
      rintro v2 sh2 g2 z2 r2 ⟨q2, rfl, rfl, rfl⟩
      rw [e1, htx, hx] at q2
      rcases q2 with ⟨b1, -⟩ | ⟨b1, t1, t, rfl, t23, tc⟩
      · exact absurd a1 b1
      · refine ⟨rfl, rfl, K, hC1.lo (fun cx hc => t.1 cx (by omega) (by omega)) (fun _ _ => rfl), IM_fru t (kmK_cong tc hM1.1.1.2.2.2) ?_ (Or.inr ⟨t23, rfl⟩) hM1, hEq g2 t t1⟩
        unfold KmR; rw [tc 91 (by omega) (by omega), tc 92 (by omega) (by omega)]; exact hM1.2.1
    | inr acc =>
      rw [hx] at q
      obtain ⟨rfl, q41, qF, qD⟩ := q
      have hC1 : IC g1 z r1 (upK K k.toNat (cusK acc)) := ⟨⟨qF, by rw [hl 1 (by omega)]; exact hC.1.2.1, by rw [hl 43 (by omega)]; exact hC.1.2.2.1, Or.inl q41⟩, qD, by rw [a19]; omega, by rw [hl 20 (by omega)]; exact hC.2.2.2⟩
      have hM1 : IM g1 z r1 K := hM.hi hh (fun _ _ => rfl) qF.1
      refine ⟨rfl, _, rfl, (m_custom qF.1 K hM1.1.1.2.2.2 hM1.2.1 (by rw [e1]; exact hC.2.2.1) k n).weaken ?_⟩
      rintro v2 sh2 g2 z2 r2 ⟨q2, rfl, rfl, rfl⟩
      rw [e1, htx, hx] at q2
      rcases q2 with ⟨b1, -⟩ | ⟨b1, t1, t, rfl, t23, tK, tR⟩
      · exact absurd a1 b1
      · exact ⟨rfl, rfl, _, hC1.lo (fun cx hc => t.1 cx (by omega) (by omega)) (fun _ _ => rfl), IM_fru t tK tR (Or.inl t23) hM1, hEq g2 t t1⟩
end MUT6
