def conP (T : Nat → Int) (p : Nat) : PX := if T p ≠ 40 then .inl (-1000 - (p : Int)) else bdX (cndB T (PIE T 5) (p + 1)) (fun p' b => if T p' = 41 then .inr (p' + 1, b) else .inl (-1000 - (p' : Int)))
def MR (tp : Nat → Int) (N : Nat) (g : GG) (p : Nat) (C : List (Int × Int)) : Prop := g 75 = tp ∧ (g 74 36 = (N : Int) ∧ N ≤ 160) ∧ g 74 35 = (p : Int) ∧ (g 74 39 = (C.length : Int) ∧ seg (g 98) (g 99) 0 C) ∧ (C.length ≤ p ∧ p ≤ N)
theorem MS.mr {tp : Nat → Int} {N p o : Nat} {g : GG} {σ : List Int} {C : List (Int × Int)} (h : MS tp N g (p, σ, o, C)) : MR tp N g p C := by
  obtain ⟨h1, h2, h3, h4, h5, h6, h7, h8⟩ := h
  have h7 : σ.length + C.length ≤ p ∧ p ≤ N := h7
  exact ⟨h1, h2, h3, h6, by omega, h7.2⟩
section MRD6
variable {g z : GG} {r : RR} {tp : Nat → Int} {N p : Nat} {C : List (Int × Int)}
theorem m_condition (hr : RS r) (h : MR tp N g p C) (h37 : g 74 37 = 0) : CT (mX12_condition (rmD 5 0 0)) 0 0 shW [vR (some 74)] g z r (qG shW z r fun v g' => v = none ∧ FrM g g' ∧ rstX (conP (tX tp N) p) (fun f => f < 0 ∧ g' 74 37 = f) (fun p' b => g' 74 37 = 0 ∧ MR tp N g' p' (C ++ b.2.1))) := by
  have hT := tX_ok (f := tp) (N := N)
  obtain ⟨h1, h2, h3, h4, h5⟩ := h
  have hN := h2.2
  refine CT.of 1 rfl rfl ?_
  generalize hX : conP (tX tp N) p = X
  generalize hQ : (qG shW z r fun v g' => v = none ∧ FrM g g' ∧ rstX X (fun f => f < 0 ∧ g' 74 37 = f) (fun p' b => g' 74 37 = 0 ∧ MR tp N g' p' (C ++ b.2.1))) = Q
  have FlP : ∀ f : Int, X = .inl f → ∀ (g1 : GG) (a1 : Option AV), FrM g g1 → g1 74 37 = f → f < 0 → RJ (mX12_condition (rmD 5 0 0)) 0 0 shW.length Q 0 0 shW 47 [some (vR (some 74)), a1] [] g1 z r := by
    intro f hx g1 a1 f1 k1 hf
    refine R_aload_n dX12_condition_47 rfl ?_
    refine R_callV (m_isGood) (mvX12_isGood _) kiX12_isGood kvX12_isGood km12_219 rfl rfl (by decide) ⟨rfl, rfl, by decide, by decide⟩ (Nat.le_of_ble_eq_true rfl) dX12_condition_48 (fun v1 sh1 g2 z1 r1 hq => ?_)
    obtain ⟨rfl, rfl, rfl, rfl, rfl⟩ := hq
    rw [b2i_f (by omega)]
    refine R_if_eq 84 dX12_condition_51 (by decide) (fun hc51 => ?_) (fun hc51 => ?_)
    rotate_left
    · exact absurd rfl hc51
    refine R_return rfl (by decide) (by decide) dX12_condition_84 ?_
    rw [← hQ, hx]
    exact ⟨⟨rfl, f1, hf, k1⟩, rfl, rfl, rfl⟩
  have OP : ∀ (p' : Nat) (b : BN), X = .inr (p', b) → ∀ (g1 : GG) (a1 : Option AV), MT tp N g1 (p', [], 0, C ++ b.2.1) → g1 74 37 = 0 → FrM g g1 → g1 74 42 = 1 → RJ (mX12_condition (rmD 5 0 0)) 0 0 shW.length Q 0 0 shW 47 [some (vR (some 74)), a1] [] g1 z r := by
    intro p' b hx g1 a1 h1 k1 f1 e42
    refine R_aload_n dX12_condition_47 rfl ?_
    refine R_callV (m_isGood) (mvX12_isGood _) kiX12_isGood kvX12_isGood km12_219 rfl rfl (by decide) ⟨rfl, rfl, by decide, by decide⟩ (Nat.le_of_ble_eq_true rfl) dX12_condition_48 (fun v1 sh1 g2 z1 r1 hq => ?_)
    obtain ⟨rfl, rfl, rfl, rfl, rfl⟩ := hq
    rw [b2i_t k1]
    refine R_if_eq 84 dX12_condition_51 (by decide) (fun hc51 => ?_) (fun hc51 => ?_)
    · exact absurd hc51 (by decide)
    refine R_aload_n dX12_condition_54 rfl ?_
    refine R_getI fd12_42 kf12_293 rfl dX12_condition_55 ?_
    rw [e42]
    refine R_if_ne 84 dX12_condition_58 (by decide) (fun hc58 => ?_) (fun hc58 => ?_)
    rotate_left
    · exact absurd hc58 (by decide)
    refine R_return rfl (by decide) (by decide) dX12_condition_84 ?_
    rw [← hQ, hx]
    exact ⟨⟨rfl, f1, k1, h1.1.mr⟩, rfl, rfl, rfl⟩
  have hP : ∀ s2, HP (tX tp N) (fun s => ∀ (g1 : GG) (a1 : Option AV), MT tp N g1 s → g1 74 37 = 0 → FrM g g1 → g1 74 42 = 0 → wfS s.2.1 → hd0 s.2.1 ≠ 33 → RJ (mX12_condition (rmD 5 0 0)) 0 0 shW.length Q 0 0 shW 69 [some (vR (some 74)), a1] [] g1 z r) (fun f => ∀ (g1 : GG) (a1 : Option AV), FrM g g1 → g1 74 37 = f → f < 0 → RJ (mX12_condition (rmD 5 0 0)) 0 0 shW.length Q 0 0 shW 47 [some (vR (some 74)), a1] [] g1 z r) s2 → ∀ g1, MT tp N g1 s2 → g1 74 37 = 0 → FrM g g1 → g1 74 42 = 0 → wfS s2.2.1 → RJ (mX12_condition (rmD 5 0 0)) 0 0 shW.length Q 0 0 shW 47 [some (vR (some 74)), some (vI (1))] [] g1 z r := by
    intro s2 hs g1 h1 k1 f1 e42 hw
    unfold HP at hs
    refine R_aload_n dX12_condition_47 rfl ?_
    refine R_callV (m_isGood) (mvX12_isGood _) kiX12_isGood kvX12_isGood km12_219 rfl rfl (by decide) ⟨rfl, rfl, by decide, by decide⟩ (Nat.le_of_ble_eq_true rfl) dX12_condition_48 (fun v1 sh1 g2 z1 r1 hq => ?_)
    obtain ⟨rfl, rfl, rfl, rfl, rfl⟩ := hq
    rw [b2i_t k1]
    refine R_if_eq 84 dX12_condition_51 (by decide) (fun hc51 => ?_) (fun hc51 => ?_)
    · exact absurd hc51 (by decide)
    refine R_aload_n dX12_condition_54 rfl ?_
    refine R_getI fd12_42 kf12_293 rfl dX12_condition_55 ?_
    rw [e42]
    refine R_if_ne 84 dX12_condition_58 (by decide) (fun hc58 => ?_) (fun hc58 => ?_)
    · exact absurd rfl hc58
    refine R_iload_n dX12_condition_61 rfl ?_
    refine R_if_eq 69 dX12_condition_62 (by decide) (fun hc62 => ?_) (fun hc62 => ?_)
    · exact absurd hc62 (by decide)
    refine R_aload_n dX12_condition_65 rfl ?_
    refine R_callV (m_pieceOfC hr h1 k1 hw) (mvX12_pieceOfC _) kiX12_pieceOfC kvX12_pieceOfC km12_296 rfl rfl (by decide) ⟨rfl, rfl, by decide, by decide⟩ (Nat.le_of_ble_eq_true rfl) dX12_condition_66 (fun v1 sh1 g2 z1 r1 hq => ?_)
    obtain ⟨⟨rfl, f2, o2⟩, rfl, rfl, rfl⟩ := hq
    have e42' : g2 74 42 = 0 := by rw [f2.2 42 (by decide) (by decide) (by decide) (by decide) (by decide) (by decide)]; exact e42
    cases hy : pcF (tX tp N) (7 - s2.2.2.1) s2 with
    | inl f =>
      rw [hy] at hs o2
      obtain ⟨hf, k2⟩ := o2
      refine R_aload_n dX12_condition_69 rfl ?_
      refine R_callV (m_isGood) (mvX12_isGood _) kiX12_isGood kvX12_isGood km12_219 rfl rfl (by decide) ⟨rfl, rfl, by decide, by decide⟩ (Nat.le_of_ble_eq_true rfl) dX12_condition_70 (fun v1 sh1 g3 z1 r1 hq => ?_)
      obtain ⟨rfl, rfl, rfl, rfl, rfl⟩ := hq
      rw [b2i_f (by omega)]
      refine R_if_eq 47 dX12_condition_73 (by decide) (fun hc73 => ?_) (fun hc73 => ?_)
      rotate_left
      · exact absurd rfl hc73
      exact hs _ _ (f1.trans f2.m) k2 hf
    | inr s3 =>
      rw [hy] at hs o2
      obtain ⟨k2, h2⟩ := o2
      obtain ⟨w1, w2⟩ := pcF_wf _ s2 s3 hw hy
      exact hs _ _ h2 k2 (f1.trans f2.m) e42' w1 w2
  have hB : ∀ s2, HB (tX tp N) (fun s => ∀ (g1 : GG) (a1 : Option AV), MT tp N g1 s → g1 74 37 = 0 → FrM g g1 → g1 74 42 = 0 → wfS s.2.1 → hd0 s.2.1 ≠ 33 → RJ (mX12_condition (rmD 5 0 0)) 0 0 shW.length Q 0 0 shW 69 [some (vR (some 74)), a1] [] g1 z r) (fun s2 => ∀ g1, MT tp N g1 s2 → g1 74 37 = 0 → FrM g g1 → g1 74 42 = 0 → wfS s2.2.1 → RJ (mX12_condition (rmD 5 0 0)) 0 0 shW.length Q 0 0 shW 47 [some (vR (some 74)), some (vI (1))] [] g1 z r) (fun s2 => ∀ (g1 : GG) (a1 : Option AV), MT tp N g1 s2 → g1 74 37 = 0 → FrM g g1 → g1 74 42 = 1 → RJ (mX12_condition (rmD 5 0 0)) 0 0 shW.length Q 0 0 shW 47 [some (vR (some 74)), a1] [] g1 z r) (fun f => ∀ (g1 : GG) (a1 : Option AV), FrM g g1 → g1 74 37 = f → f < 0 → RJ (mX12_condition (rmD 5 0 0)) 0 0 shW.length Q 0 0 shW 47 [some (vR (some 74)), a1] [] g1 z r) s2 → ∀ (g1 : GG) (a1 : Option AV), MT tp N g1 s2 → g1 74 37 = 0 → FrM g g1 → g1 74 42 = 0 → wfS s2.2.1 → hd0 s2.2.1 ≠ 33 → RJ (mX12_condition (rmD 5 0 0)) 0 0 shW.length Q 0 0 shW 69 [some (vR (some 74)), a1] [] g1 z r := by
    intro s2 hs g1 a1 h1 k1 f1 e42 hw h33
    obtain ⟨p, σ, o, C⟩ := s2
    have hw : wfS σ := hw
    have h33 : hd0 σ ≠ 33 := h33
    obtain ⟨b1, b2⟩ := wfS_bot hw h33
    obtain ⟨n1, n2⟩ := wfS_an hw h33
    unfold HB at hs
    refine R_aload_n dX12_condition_69 rfl ?_
    refine R_callV (m_isGood) (mvX12_isGood _) kiX12_isGood kvX12_isGood km12_219 rfl rfl (by decide) ⟨rfl, rfl, by decide, by decide⟩ (Nat.le_of_ble_eq_true rfl) dX12_condition_70 (fun v1 sh1 g2 z1 r1 hq => ?_)
    obtain ⟨rfl, rfl, rfl, rfl, rfl⟩ := hq
    rw [b2i_t k1]
    refine R_if_eq 47 dX12_condition_73 (by decide) (fun hc73 => ?_) (fun hc73 => ?_)
    · exact absurd hc73 (by decide)
    refine R_aload_n dX12_condition_76 rfl ?_
    refine R_callV (m_goesBehind hr h1 k1 b1) (mvX12_goesBehind _) kiX12_goesBehind kvX12_goesBehind km12_299 rfl rfl (by decide) ⟨rfl, rfl, by decide, by decide⟩ (Nat.le_of_ble_eq_true rfl) dX12_condition_77 (fun v1 sh1 g2 z1 r1 hq => ?_)
    obtain ⟨⟨f2, o2⟩, rfl, rfl, rfl⟩ := hq
    have f12 := f1.trans f2
    cases hy : gbF (tX tp N) (p, σ, o, C) with
    | inl f =>
      rw [hy] at hs o2
      obtain ⟨hf, rfl, k2⟩ := o2
      refine R_istore_n dX12_condition_80 (by decide) rfl [_, _] rfl ?_
      refine R_goto 47 dX12_condition_81 (by decide) ?_
      exact hs _ _ f12 k2 hf
    | inr q =>
      rw [hy] at hs o2
      have hgb : (q.1 = 0 → wfS q.2.2.1 ∧ hd0 q.2.2.1 ≠ 33) ∧ (q.1 = 1 → wfS q.2.2.1) := by
        have hy : (if okS 1 (tX tp N p) then .inr (1, p + 1, tX tp N p :: σ.dropWhile pAn, o, C ++ emO (σ.takeWhile pAn))
          else if okS 0 (tX tp N p) then .inr (1, p + 1, tX tp N p :: σ.dropWhile pAO, o, C ++ emO (σ.takeWhile pAO))
          else if tX tp N p = 41 then (if (σ.dropWhile pAO).tail = [] then .inr (2, p + 1, [], o - 1, C ++ emO (σ.takeWhile pAO)) else .inr (0, endF (p + 1, (σ.dropWhile pAO).tail, o - 1, C ++ emO (σ.takeWhile pAO))))
          else .inl (-1000 - (p : Int))) = (.inr q : Int ⊕ (Nat × QS)) := hy
        by_cases q1 : okS 1 (tX tp N p) = true
        · rw [if_pos q1] at hy
          cases hy
          exact ⟨(fun e => by cases e), fun _ => Or.inr (Or.inr ⟨Or.inl (okS_1 q1), n1, n2⟩)⟩
        · rw [if_neg q1] at hy
          by_cases q0 : okS 0 (tX tp N p) = true
          · rw [if_pos q0] at hy
            cases hy
            exact ⟨(fun e => by cases e), fun _ => Or.inr (Or.inr ⟨Or.inr (okS_0 q0), by rw [b1]; decide, b2⟩)⟩
          · rw [if_neg q0] at hy
            by_cases q41 : tX tp N p = 41
            · rw [if_pos q41] at hy
              by_cases qe : (σ.dropWhile pAO).tail = []
              · rw [if_pos qe] at hy
                cases hy
                exact ⟨fun e => (by cases e), fun e => by cases e⟩
              · rw [if_neg qe] at hy
                cases hy
                refine ⟨fun _ => ?_, fun e => by cases e⟩
                have hwt : wfS (σ.dropWhile pAO).tail := by
                  cases hτ : σ.dropWhile pAO with
                  | nil => rw [hτ] at b1; exact absurd b1 (by decide)
                  | cons d t =>
                    rw [hτ] at b1 b2 qe
                    have b1 : d = 40 := b1
                    rcases b2 with ⟨e, h⟩ | ⟨e, h⟩ | ⟨e, -, h⟩
                    · rcases h with h | h
                      · exact absurd h qe
                      · exact h
                    · omega
                    · omega
                exact ⟨(wfS_end hwt).2, (wfS_end hwt).1⟩
            · rw [if_neg q41] at hy
              cases hy
      obtain ⟨k, s3⟩ := q
      obtain ⟨k2, h2, rfl, e42'⟩ := o2
      have hs : if k = 0 then _ else if k = 1 then _ else _ := hs
      have e42' : g2 74 42 = if k = 2 then 1 else if k = 1 then g1 74 42 else 0 := e42'
      show RJ _ _ _ _ _ _ _ _ _ _ (Option.toList (some (vI (if k = 1 then 1 else 0))) ++ []) _ _ _
      by_cases hk0 : k = 0
      · rw [if_pos hk0] at hs
        rw [if_neg (by omega), if_neg (by omega)] at e42'
        rw [if_neg (by omega)]
        obtain ⟨w1, w2⟩ := hgb.1 hk0
        refine R_istore_n dX12_condition_80 (by decide) rfl [_, _] rfl ?_
        refine R_goto 47 dX12_condition_81 (by decide) ?_
        refine R_aload_n dX12_condition_47 rfl ?_
        refine R_callV (m_isGood) (mvX12_isGood _) kiX12_isGood kvX12_isGood km12_219 rfl rfl (by decide) ⟨rfl, rfl, by decide, by decide⟩ (Nat.le_of_ble_eq_true rfl) dX12_condition_48 (fun v1 sh1 g3 z1 r1 hq => ?_)
        obtain ⟨rfl, rfl, rfl, rfl, rfl⟩ := hq
        rw [b2i_t k2]
        refine R_if_eq 84 dX12_condition_51 (by decide) (fun hc51 => ?_) (fun hc51 => ?_)
        · exact absurd hc51 (by decide)
        refine R_aload_n dX12_condition_54 rfl ?_
        refine R_getI fd12_42 kf12_293 rfl dX12_condition_55 ?_
        rw [e42']
        refine R_if_ne 84 dX12_condition_58 (by decide) (fun hc58 => ?_) (fun hc58 => ?_)
        · exact absurd rfl hc58
        refine R_iload_n dX12_condition_61 rfl ?_
        refine R_if_eq 69 dX12_condition_62 (by decide) (fun hc62 => ?_) (fun hc62 => ?_)
        rotate_left
        · exact absurd rfl hc62
        exact hs _ _ h2 k2 f12 e42' w1 w2
      · rw [if_neg hk0] at hs
        by_cases hk1 : k = 1
        · rw [if_pos hk1] at hs
          rw [if_neg (by omega), if_pos hk1] at e42'
          rw [if_pos hk1]
          refine R_istore_n dX12_condition_80 (by decide) rfl [_, _] rfl ?_
          refine R_goto 47 dX12_condition_81 (by decide) ?_
          exact hs _ h2 k2 f12 (by rw [e42']; exact e42) (hgb.2 hk1)
        · rw [if_neg hk1] at hs
          rw [if_neg hk1]
          have hk2 : k = 2 := by
            unfold gbF at hy
            split at hy
            · cases hy; omega
            · split at hy
              · cases hy; omega
              · split at hy
                · split at hy
                  · cases hy; rfl
                  · cases hy; omega
                · cases hy
          rw [if_pos hk2] at e42'
          refine R_istore_n dX12_condition_80 (by decide) rfl [_, _] rfl ?_
          refine R_goto 47 dX12_condition_81 (by decide) ?_
          exact hs _ _ h2 k2 f12 e42'
  have hM0 : MS tp N (up2 (up2 (up2 g 74 41 0) 74 40 0) 74 42 0) (p, [], 0, C) := by
    refine ⟨by rw [up2_ne (by decide), up2_ne (by decide), up2_ne (by decide)]; exact h1, ⟨by rw [up2_k (by decide), up2_k (by decide), up2_k (by decide)]; exact h2.1, hN⟩, by rw [up2_k (by decide), up2_k (by decide), up2_k (by decide)]; exact h3, ⟨by rw [up2_k (by decide), up2_k (by decide), up2_s]; rfl, fun j x hj => by cases hj⟩, by rw [up2_k (by decide), up2_s]; rfl, ⟨by rw [up2_k (by decide), up2_k (by decide), up2_k (by decide)]; exact h4.1, by rw [up2_ne (by decide), up2_ne (by decide), up2_ne (by decide), up2_ne (by decide), up2_ne (by decide), up2_ne (by decide)]; exact h4.2⟩, ⟨by show 0 + C.length ≤ p; omega, h5.2⟩, Nat.zero_le _⟩
  have f0 : FrM g (up2 (up2 (up2 g 74 41 0) 74 40 0) 74 42 0) := (((FrM0.up (by omega)).trans (FrM0.up (by omega))).m).trans (FrM.up (Or.inl rfl))
  have k0 : up2 (up2 (up2 g 74 41 0) 74 40 0) 74 42 0 74 37 = 0 := by rw [up2_k (by decide), up2_k (by decide), up2_k (by decide)]; exact h37
  have e0 : up2 (up2 (up2 g 74 41 0) 74 40 0) 74 42 0 74 42 = 0 := up2_s
  refine R_aload_n dX12_condition_0 rfl ?_
  refine R_iconst dX12_condition_1 rfl rfl ?_
  refine R_putI fd12_41 rfl kf12_226 rfl dX12_condition_2 ?_
  refine R_aload_n dX12_condition_5 rfl ?_
  refine R_iconst dX12_condition_6 rfl rfl ?_
  refine R_putI fd12_40 rfl kf12_229 rfl dX12_condition_7 ?_
  refine R_aload_n dX12_condition_10 rfl ?_
  refine R_iconst dX12_condition_11 rfl rfl ?_
  refine R_putZ (by first | exact Or.inl rfl | exact Or.inr rfl | omega) fd12_42 rfl kf12_293 rfl dX12_condition_12 ?_
  generalize up2 (up2 (up2 g 74 41 0) 74 40 0) 74 42 0 = g0 at *
  refine R_aload_n dX12_condition_15 rfl ?_
  refine R_callV (hM0.here hr) (mvX12_here _) kiX12_here kvX12_here km12_236 rfl rfl (by decide) ⟨rfl, rfl, by decide, by decide⟩ (Nat.le_of_ble_eq_true rfl) dX12_condition_16 (fun v1 sh1 g1 z1 r1 hq => ?_)
  obtain ⟨rfl, rfl, rfl, rfl, rfl⟩ := hq
  unfold conP at hX
  refine R_bipush dX12_condition_19 rfl (by decide +kernel) ?_
  refine R_icmp_eq 33 dX12_condition_21 (by decide) (fun hc21 => ?_) (fun hc21 => ?_)
  rotate_left
  · have hc21 : tX tp N p ≠ 40 := hc21
    rw [if_pos hc21] at hX
    have e35 : g0 74 35 = (p : Int) := hM0.2.2.1
    refine R_aload_n dX12_condition_24 rfl ?_
    refine R_iconst dX12_condition_25 rfl rfl ?_
    refine R_aload_n dX12_condition_26 rfl ?_
    refine R_getI fd12_35 kf12_210 rfl dX12_condition_27 ?_
    rw [e35]
    refine R_callV (m_wrongs 1 p (by decide) (by omega)) (mvX12_wrongs _) kiX12_wrongs kvX12_wrongs km12_232 rfl rfl (by decide) ⟨rfl, rfl, by decide, by decide⟩ (Nat.le_of_ble_eq_true rfl) dX12_condition_30 (fun v1 sh1 g1 z1 r1 hq => ?_)
    obtain ⟨⟨rfl, rfl⟩, rfl, rfl, rfl⟩ := hq
    rw [k0, if_neg (by decide)]
    refine R_aload_n dX12_condition_33 rfl ?_
    refine R_callV (m_isGood) (mvX12_isGood _) kiX12_isGood kvX12_isGood km12_219 rfl rfl (by decide) ⟨rfl, rfl, by decide, by decide⟩ (Nat.le_of_ble_eq_true rfl) dX12_condition_34 (fun v1 sh1 g1 z1 r1 hq => ?_)
    obtain ⟨rfl, rfl, rfl, rfl, rfl⟩ := hq
    rw [b2i_f (by rw [up2_s]; omega)]
    refine R_if_ne 41 dX12_condition_37 (by decide) (fun hc37 => ?_) (fun hc37 => ?_)
    · exact absurd rfl hc37
    refine R_return rfl (by decide) (by decide) dX12_condition_40 ?_
    rw [← hQ, ← hX]
    exact ⟨⟨rfl, f0.trans (FrM0.up (by omega)).m, by omega, by rw [up2_s]; omega⟩, rfl, rfl, rfl⟩
  have h40 : tX tp N p = 40 := hc21
  rw [if_neg (fun q => q h40)] at hX
  have hlt : p < N := txt_lt hT.1 (by omega)
  refine R_aload_n dX12_condition_33 rfl ?_
  refine R_callV (m_isGood) (mvX12_isGood _) kiX12_isGood kvX12_isGood km12_219 rfl rfl (by decide) ⟨rfl, rfl, by decide, by decide⟩ (Nat.le_of_ble_eq_true rfl) dX12_condition_34 (fun v1 sh1 g1 z1 r1 hq => ?_)
  obtain ⟨rfl, rfl, rfl, rfl, rfl⟩ := hq
  rw [b2i_t k0]
  refine R_if_ne 41 dX12_condition_37 (by decide) (fun hc37 => ?_) (fun hc37 => ?_)
  rotate_left
  · exact absurd hc37 (by decide)
  refine R_aload_n dX12_condition_41 rfl ?_
  refine R_callV (m_opens hr ⟨hM0, rfl⟩ k0 (by rw [h40]; rfl)) (mvX12_opens _) kiX12_opens kvX12_opens km12_262 rfl rfl (by decide) ⟨rfl, rfl, by decide, by decide⟩ (Nat.le_of_ble_eq_true rfl) dX12_condition_42 (fun v1 sh1 g1 z1 r1 hq => ?_)
  obtain ⟨⟨rfl, f1, o1⟩, rfl, rfl, rfl⟩ := hq
  rcases o1 with ⟨ho, -⟩ | ⟨-, k1, hm1⟩
  · cases ho
  rw [h40] at hm1
  have e42 : g1 74 42 = 0 := by rw [f1.2 42 (by decide) (by decide) (by decide) (by decide) (by decide)]; exact e0
  refine R_iconst dX12_condition_45 rfl rfl ?_
  refine R_istore_n dX12_condition_46 (by decide) rfl [_, _] rfl ?_
  refine hP (p + 1, [40], 1, C) (sim_top hT.1 hN hP hB (p + 1) C (by omega) ?_) _ hm1 k1 (f0.trans f1.m) e42 (Or.inl ⟨rfl, Or.inl rfl⟩)
  cases hx : cndB (tX tp N) (PIE (tX tp N) 5) (p + 1) with
  | inl f => rw [hx] at hX; exact FlP f hX.symm
  | inr q =>
    obtain ⟨p', b⟩ := q
    rw [hx] at hX
    have hX : (if tX tp N p' = 41 then .inr (p' + 1, b) else .inl (-1000 - (p' : Int))) = X := hX
    show if tX tp N p' = 41 then _ else _
    split
    · rename_i h41
      rw [if_pos h41] at hX
      exact fun g1 a1 a b c d => OP _ _ hX.symm g1 a1 a b c d
    · rename_i h41
      rw [if_neg h41] at hX
      exact FlP _ hX.symm
end MRD6
