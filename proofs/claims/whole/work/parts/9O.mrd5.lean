def wfS : List Int → Prop
  | [] => False
  | c :: t => (c = 40 ∧ (t = [] ∨ wfS t)) ∨ (c = 33 ∧ wfS t) ∨ ((c = 38 ∨ c = 124) ∧ hd0 t ≠ 33 ∧ wfS t)
theorem wfS_top {σ : List Int} (h : wfS σ) : hd0 σ = 40 ∨ hd0 σ = 33 ∨ hd0 σ = 38 ∨ hd0 σ = 124 := by
  cases σ with
  | nil => cases h
  | cons c t =>
    show c = 40 ∨ c = 33 ∨ c = 38 ∨ c = 124
    rcases h with h | h | h <;> omega
theorem wfS_ne {σ : List Int} (h : wfS σ) : σ ≠ [] := fun e => by rw [e] at h; exact h
theorem wfS_bot : ∀ {σ : List Int}, wfS σ → hd0 σ ≠ 33 → hd0 (σ.dropWhile pAO) = 40 ∧ wfS (σ.dropWhile pAO) := by
  intro σ
  induction σ with
  | nil => intro h; cases h
  | cons c t ih =>
    intro h h33
    have h33 : c ≠ 33 := h33
    rw [List.dropWhile_cons]
    have hp : pAO c = decide (c = 38 ∨ c = 124) := by unfold pAO; simp [okS]
    rcases h with ⟨e, h⟩ | ⟨e, h⟩ | ⟨e, h1, h2⟩
    · have hf : pAO c = false := by rw [hp, decide_eq_false_iff_not]; omega
      rw [if_neg (by rw [hf]; decide)]
      exact ⟨e, Or.inl ⟨e, h⟩⟩
    · exact absurd e h33
    · rw [if_pos (by rw [hp, decide_eq_true_eq]; exact e)]
      exact ih h2 h1
theorem wfS_an : ∀ {σ : List Int}, wfS σ → hd0 σ ≠ 33 → hd0 (σ.dropWhile pAn) ≠ 33 ∧ wfS (σ.dropWhile pAn) := by
  intro σ
  induction σ with
  | nil => intro h; cases h
  | cons c t ih =>
    intro h h33
    have h33 : c ≠ 33 := h33
    rw [List.dropWhile_cons]
    split
    · rename_i hp
      have := okS_1 hp
      rcases h with ⟨e, h⟩ | ⟨e, h⟩ | ⟨e, h1, h2⟩
      · omega
      · omega
      · exact ih h2 h1
    · exact ⟨h33, h⟩
theorem wfS_end : ∀ {σ : List Int}, wfS σ → hd0 (σ.dropWhile p33) ≠ 33 ∧ wfS (σ.dropWhile p33) := by
  intro σ
  induction σ with
  | nil => intro h; cases h
  | cons c t ih =>
    intro h
    rw [List.dropWhile_cons]
    split
    · rename_i hp
      have hp : c = 33 := by unfold p33 at hp; simpa using hp
      rcases h with ⟨e, h⟩ | ⟨e, h⟩ | ⟨e, h1, h2⟩
      · omega
      · exact ih h
      · omega
    · rename_i hp
      exact ⟨fun e => hp (by have e : c = 33 := e; unfold p33; rw [e]; rfl), h⟩
theorem pcF_wf {T : Nat → Int} : ∀ (n : Nat) (s s' : QS), wfS s.2.1 → pcF T n s = .inr s' → wfS s'.2.1 ∧ hd0 s'.2.1 ≠ 33 := by
  have base : ∀ (s s' : QS), wfS s.2.1 → pcB T s = .inr s' → wfS s'.2.1 ∧ hd0 s'.2.1 ≠ 33 := by
    intro s s' hw h
    unfold pcB at h
    cases hx : cmpB T (FAC T (6 - s.2.2.1)) s.1 with
    | inl f => rw [hx] at h; cases h
    | inr q =>
      rw [hx] at h
      simp only at h
      split at h
      · cases h
      · cases h
        exact ⟨(wfS_end hw).2, (wfS_end hw).1⟩
  intro n
  induction n with
  | zero => intro s s' hw h; exact base s s' hw h
  | succ n ih =>
    intro s s' hw h
    rw [pcF] at h
    split at h
    · rename_i hi
      split at h
      · cases h
      · refine ih _ s' ?_ h
        show wfS (T s.1 :: s.2.1)
        rcases hi with e | e
        · exact Or.inr (Or.inl ⟨e, hw⟩)
        · exact Or.inl ⟨e, Or.inr hw⟩
    · exact base s s' hw h
section MRD5
variable {g z : GG} {r : RR} {tp : Nat → Int} {N p o : Nat} {σ : List Int} {C : List (Int × Int)}
theorem m_pieceOfC (hr : RS r) {s : QS} (h : MT tp N g s) (h37 : g 74 37 = 0) (hw : wfS s.2.1) : CT (mX12_pieceOfC (rmD 4 0 0)) 0 0 shW [vR (some 74)] g z r (qG shW z r fun v g' => v = none ∧ FrG g g' ∧ rstY (pcF (tX tp N) (7 - s.2.2.1) s) (fun f => f < 0 ∧ g' 74 37 = f) (fun s' => g' 74 37 = 0 ∧ MT tp N g' s')) := by
  have hT := tX_ok (f := tp) (N := N)
  have hN := h.1.2.1.2
  refine CT.of 1 rfl rfl ?_
  generalize hX : pcF (tX tp N) (7 - s.2.2.1) s = X
  generalize hQ : (qG shW z r fun v g' => v = none ∧ FrG g g' ∧ rstY X (fun f => f < 0 ∧ g' 74 37 = f) (fun s' => g' 74 37 = 0 ∧ MT tp N g' s')) = Q
  have end89 : ∀ (g1 : GG) (f : Int) (a1 : Option AV), FrG g g1 → g1 74 37 = f → f < 0 → X = .inl f → RJ (mX12_pieceOfC (rmD 4 0 0)) 0 0 shW.length Q 0 0 shW 89 [some (vR (some 74)), a1] [] g1 z r := by
    intro g1 f a1 f1 k1 hf hx
    refine R_aload_n dX12_pieceOfC_89 rfl ?_
    refine R_callV (m_isGood) (mvX12_isGood _) kiX12_isGood kvX12_isGood km12_219 rfl rfl (by decide) ⟨rfl, rfl, by decide, by decide⟩ (Nat.le_of_ble_eq_true rfl) dX12_pieceOfC_90 (fun v1 sh1 g2 z1 r1 hq => ?_)
    obtain ⟨rfl, rfl, rfl, rfl, rfl⟩ := hq
    rw [b2i_f (by omega)]
    refine R_if_eq 100 dX12_pieceOfC_93 (by decide) (fun hc93 => ?_) (fun hc93 => ?_)
    rotate_left
    · exact absurd rfl hc93
    refine R_return rfl (by decide) (by decide) dX12_pieceOfC_100 ?_
    rw [← hQ, hx]
    exact ⟨⟨rfl, f1, hf, k1⟩, rfl, rfl, rfl⟩
  have FlP : ∀ f : Int, X = .inl f → ∀ (g1 : GG) (v : Int), (v = 0 ∨ v = 1) → FrG g g1 → g1 74 37 = f → f < 0 → RJ (mX12_pieceOfC (rmD 4 0 0)) 0 0 shW.length Q 0 0 shW 39 [some (vR (some 74)), some (vI (v))] [] g1 z r := by
    intro f hx g1 v hv f1 k1 hf
    refine R_iload_n dX12_pieceOfC_39 rfl ?_
    refine R_if_eq 89 dX12_pieceOfC_40 (by decide) (fun hc40 => ?_) (fun hc40 => ?_)
    · exact end89 g1 f _ f1 k1 hf hx
    refine R_aload_n dX12_pieceOfC_43 rfl ?_
    refine R_callV (m_isGood) (mvX12_isGood _) kiX12_isGood kvX12_isGood km12_219 rfl rfl (by decide) ⟨rfl, rfl, by decide, by decide⟩ (Nat.le_of_ble_eq_true rfl) dX12_pieceOfC_44 (fun v1 sh1 g2 z1 r1 hq => ?_)
    obtain ⟨rfl, rfl, rfl, rfl, rfl⟩ := hq
    rw [b2i_f (by omega)]
    refine R_if_eq 89 dX12_pieceOfC_47 (by decide) (fun hc47 => ?_) (fun hc47 => ?_)
    · exact end89 _ f _ f1 k1 hf hx
    · exact absurd rfl hc47
  have EP : ∀ s1 : QS, X = .inr (endF s1) → ∀ (g1 : GG), MT tp N g1 s1 → g1 74 37 = 0 → FrG g g1 → RJ (mX12_pieceOfC (rmD 4 0 0)) 0 0 shW.length Q 0 0 shW 39 [some (vR (some 74)), some (vI (0))] [] g1 z r := by
    intro s1 hx g1 h1 k1 f1
    obtain ⟨p, σ, o, C⟩ := s1
    refine R_iload_n dX12_pieceOfC_39 rfl ?_
    refine R_if_eq 89 dX12_pieceOfC_40 (by decide) (fun hc40 => ?_) (fun hc40 => ?_)
    rotate_left
    · exact absurd rfl hc40
    refine R_aload_n dX12_pieceOfC_89 rfl ?_
    refine R_callV (m_isGood) (mvX12_isGood _) kiX12_isGood kvX12_isGood km12_219 rfl rfl (by decide) ⟨rfl, rfl, by decide, by decide⟩ (Nat.le_of_ble_eq_true rfl) dX12_pieceOfC_90 (fun v1 sh1 g2 z1 r1 hq => ?_)
    obtain ⟨rfl, rfl, rfl, rfl, rfl⟩ := hq
    rw [b2i_t k1]
    refine R_if_eq 100 dX12_pieceOfC_93 (by decide) (fun hc93 => ?_) (fun hc93 => ?_)
    · exact absurd hc93 (by decide)
    refine R_aload_n dX12_pieceOfC_96 rfl ?_
    refine R_callV (m_ends hr h1 k1) (mvX12_ends _) kiX12_ends kvX12_ends km12_287 rfl rfl (by decide) ⟨rfl, rfl, by decide, by decide⟩ (Nat.le_of_ble_eq_true rfl) dX12_pieceOfC_97 (fun v1 sh1 g2 z1 r1 hq => ?_)
    obtain ⟨⟨rfl, f2, k2, h2⟩, rfl, rfl, rfl⟩ := hq
    refine R_return rfl (by decide) (by decide) dX12_pieceOfC_100 ?_
    rw [← hQ, hx]
    exact ⟨⟨rfl, f1.trans f2.g, k2, h2⟩, rfl, rfl, rfl⟩
  have base : ∀ (s1 : QS) (g1 : GG) (a1 : Option AV), MT tp N g1 s1 → g1 74 37 = 0 → FrG g g1 → wfS s1.2.1 → pcB (tX tp N) s1 = X → RJ (mX12_pieceOfC (rmD 4 0 0)) 0 0 shW.length Q 0 0 shW 32 [some (vR (some 74)), a1] [] g1 z r := by
    intro s1 g1 a1 h1 k1 f1 hw1 hx
    have hA : ∀ s2, HA (tX tp N) (fun s => ∀ g1, MT tp N g1 s → g1 74 37 = 0 → FrG g g1 → RJ (mX12_pieceOfC (rmD 4 0 0)) 0 0 shW.length Q 0 0 shW 61 [some (vR (some 74)), some (vI (1))] [] g1 z r) (fun f => ∀ (g1 : GG) (v : Int), (v = 0 ∨ v = 1) → FrG g g1 → g1 74 37 = f → f < 0 → RJ (mX12_pieceOfC (rmD 4 0 0)) 0 0 shW.length Q 0 0 shW 39 [some (vR (some 74)), some (vI (v))] [] g1 z r) s2 → ∀ g1, MT tp N g1 s2 → g1 74 37 = 0 → FrG g g1 → g1 74 43 = 0 → RJ (mX12_pieceOfC (rmD 4 0 0)) 0 0 shW.length Q 0 0 shW 39 [some (vR (some 74)), some (vI (1))] [] g1 z r := by
      intro s2 hs g1 h1 k1 f1 e43
      unfold HA at hs
      refine R_iload_n dX12_pieceOfC_39 rfl ?_
      refine R_if_eq 89 dX12_pieceOfC_40 (by decide) (fun hc40 => ?_) (fun hc40 => ?_)
      · exact absurd hc40 (by decide)
      refine R_aload_n dX12_pieceOfC_43 rfl ?_
      refine R_callV (m_isGood) (mvX12_isGood _) kiX12_isGood kvX12_isGood km12_219 rfl rfl (by decide) ⟨rfl, rfl, by decide, by decide⟩ (Nat.le_of_ble_eq_true rfl) dX12_pieceOfC_44 (fun v1 sh1 g2 z1 r1 hq => ?_)
      obtain ⟨rfl, rfl, rfl, rfl, rfl⟩ := hq
      rw [b2i_t k1]
      refine R_if_eq 89 dX12_pieceOfC_47 (by decide) (fun hc47 => ?_) (fun hc47 => ?_)
      · exact absurd hc47 (by decide)
      refine R_aload_n dX12_pieceOfC_50 rfl ?_
      refine R_getI fd12_43 kf12_275 rfl dX12_pieceOfC_51 ?_
      rw [e43]
      refine R_if_ne 61 dX12_pieceOfC_54 (by decide) (fun hc54 => ?_) (fun hc54 => ?_)
      · exact absurd rfl hc54
      refine R_aload_n dX12_pieceOfC_57 rfl ?_
      refine R_callV (m_factor hr h1 k1) (mvX12_factor _) kiX12_factor kvX12_factor km12_281 rfl rfl (by decide) ⟨rfl, rfl, by decide, by decide⟩ (Nat.le_of_ble_eq_true rfl) dX12_pieceOfC_58 (fun v1 sh1 g2 z1 r1 hq => ?_)
      obtain ⟨⟨rfl, f2, o2⟩, rfl, rfl, rfl⟩ := hq
      cases hy : fcF (tX tp N) (7 - s2.2.2.1) s2 with
      | inl f =>
        rw [hy] at hs o2
        obtain ⟨hf, k2⟩ := o2
        refine R_aload_n dX12_pieceOfC_61 rfl ?_
        refine R_iconst dX12_pieceOfC_62 rfl rfl ?_
        refine R_putZ (by first | exact Or.inl rfl | exact Or.inr rfl | omega) fd12_43 rfl kf12_275 rfl dX12_pieceOfC_63 ?_
        refine R_aload_n dX12_pieceOfC_66 rfl ?_
        refine R_callV (m_isGood) (mvX12_isGood _) kiX12_isGood kvX12_isGood km12_219 rfl rfl (by decide) ⟨rfl, rfl, by decide, by decide⟩ (Nat.le_of_ble_eq_true rfl) dX12_pieceOfC_67 (fun v1 sh1 g3 z1 r1 hq => ?_)
        obtain ⟨rfl, rfl, rfl, rfl, rfl⟩ := hq
        rw [b2i_f (by rw [up2_k (by decide)]; omega)]
        refine R_if_eq 84 dX12_pieceOfC_70 (by decide) (fun hc70 => ?_) (fun hc70 => ?_)
        rotate_left
        · exact absurd rfl hc70
        refine R_iconst dX12_pieceOfC_84 rfl rfl ?_
        refine R_istore_n dX12_pieceOfC_85 (by decide) rfl [_, _] rfl ?_
        refine R_goto 39 dX12_pieceOfC_86 (by decide) ?_
        exact hs _ 0 (Or.inl rfl) ((f1.trans f2.g).trans FrG.up) (by rw [up2_k (by decide)]; exact k2) hf
      | inr s3 =>
        rw [hy] at hs o2
        obtain ⟨k2, h2⟩ := o2
        exact hs _ h2 k2 (f1.trans f2.g)
    have hXx : ∀ s2, HX (tX tp N) (fun s => ∀ g1, MT tp N g1 s → g1 74 37 = 0 → FrG g g1 → RJ (mX12_pieceOfC (rmD 4 0 0)) 0 0 shW.length Q 0 0 shW 39 [some (vR (some 74)), some (vI (0))] [] g1 z r) (fun s => ∀ g1, MT tp N g1 s → g1 74 37 = 0 → FrG g g1 → g1 74 43 = 0 → RJ (mX12_pieceOfC (rmD 4 0 0)) 0 0 shW.length Q 0 0 shW 39 [some (vR (some 74)), some (vI (1))] [] g1 z r) (fun s => ∀ g1, MT tp N g1 s → g1 74 37 = 0 → FrG g g1 → RJ (mX12_pieceOfC (rmD 4 0 0)) 0 0 shW.length Q 0 0 shW 61 [some (vR (some 74)), some (vI (1))] [] g1 z r) (fun f => ∀ (g1 : GG) (v : Int), (v = 0 ∨ v = 1) → FrG g g1 → g1 74 37 = f → f < 0 → RJ (mX12_pieceOfC (rmD 4 0 0)) 0 0 shW.length Q 0 0 shW 39 [some (vR (some 74)), some (vI (v))] [] g1 z r) s2 → ∀ g1, MT tp N g1 s2 → g1 74 37 = 0 → FrG g g1 → RJ (mX12_pieceOfC (rmD 4 0 0)) 0 0 shW.length Q 0 0 shW 61 [some (vR (some 74)), some (vI (1))] [] g1 z r := by
      intro s2 hs g1 h1 k1 f1
      obtain ⟨p, σ, o, C⟩ := s2
      unfold HX at hs
      have h2 : MT tp N (up2 g1 74 43 0) (p, σ, o, C) := ⟨h1.1.oth (Or.inr (Or.inr rfl)), h1.2⟩
      have k2 : up2 g1 74 43 0 74 37 = 0 := by rw [up2_k (by decide)]; exact k1
      have e43 : up2 g1 74 43 0 74 43 = 0 := up2_s
      refine R_aload_n dX12_pieceOfC_61 rfl ?_
      refine R_iconst dX12_pieceOfC_62 rfl rfl ?_
      refine R_putZ (by first | exact Or.inl rfl | exact Or.inr rfl | omega) fd12_43 rfl kf12_275 rfl dX12_pieceOfC_63 ?_
      have f2 := f1.trans (FrG.up (g := g1) (v := 0))
      generalize up2 g1 74 43 0 = g2 at *
      refine R_aload_n dX12_pieceOfC_66 rfl ?_
      refine R_callV (m_isGood) (mvX12_isGood _) kiX12_isGood kvX12_isGood km12_219 rfl rfl (by decide) ⟨rfl, rfl, by decide, by decide⟩ (Nat.le_of_ble_eq_true rfl) dX12_pieceOfC_67 (fun v1 sh1 g3 z1 r1 hq => ?_)
      obtain ⟨rfl, rfl, rfl, rfl, rfl⟩ := hq
      rw [b2i_t k2]
      refine R_if_eq 84 dX12_pieceOfC_70 (by decide) (fun hc70 => ?_) (fun hc70 => ?_)
      · exact absurd hc70 (by decide)
      refine R_aload_n dX12_pieceOfC_73 rfl ?_
      refine R_callV (m_goesOn hr h2 k2) (mvX12_goesOn _) kiX12_goesOn kvX12_goesOn km12_284 rfl rfl (by decide) ⟨rfl, rfl, by decide, by decide⟩ (Nat.le_of_ble_eq_true rfl) dX12_pieceOfC_74 (fun v1 sh1 g3 z1 r1 hq => ?_)
      obtain ⟨⟨f3, o3⟩, rfl, rfl, rfl⟩ := hq
      have f23 := f2.trans f3
      cases hy : goF (tX tp N) (p, σ, o, C) with
      | inl f =>
        rw [hy] at hs o3
        obtain ⟨hf, ⟨x, rfl, hx01⟩, k3⟩ := o3
        refine R_if_eq 84 dX12_pieceOfC_77 (by decide) (fun hc77 => ?_) (fun hc77 => ?_)
        · refine R_iconst dX12_pieceOfC_84 rfl rfl ?_
          refine R_istore_n dX12_pieceOfC_85 (by decide) rfl [_, _] rfl ?_
          refine R_goto 39 dX12_pieceOfC_86 (by decide) ?_
          exact hs _ 0 (Or.inl rfl) f23 k3 hf
        · refine R_iconst dX12_pieceOfC_80 rfl rfl ?_
          refine R_goto 85 dX12_pieceOfC_81 (by decide) ?_
          refine R_istore_n dX12_pieceOfC_85 (by decide) rfl [_, _] rfl ?_
          refine R_goto 39 dX12_pieceOfC_86 (by decide) ?_
          exact hs _ 1 (Or.inr rfl) f23 k3 hf
      | inr q =>
        obtain ⟨k, s3⟩ := q
        rw [hy] at hs o3
        obtain ⟨k3, h3, rfl, e43'⟩ := o3
        have hs : if k = 0 then _ else if k = 1 then _ else _ := hs
        have e43' : g3 74 43 = if k = 2 then 1 else g2 74 43 := e43'
        by_cases hk0 : k = 0
        · rw [if_pos hk0] at hs
          show RJ _ _ _ _ _ _ _ _ _ _ (Option.toList (some (vI (if k = 0 then 0 else 1))) ++ []) _ _ _
          rw [if_pos hk0]
          refine R_if_eq 84 dX12_pieceOfC_77 (by decide) (fun hc77 => ?_) (fun hc77 => ?_)
          rotate_left
          · exact absurd rfl hc77
          refine R_iconst dX12_pieceOfC_84 rfl rfl ?_
          refine R_istore_n dX12_pieceOfC_85 (by decide) rfl [_, _] rfl ?_
          refine R_goto 39 dX12_pieceOfC_86 (by decide) ?_
          exact hs _ h3 k3 f23
        · rw [if_neg hk0] at hs
          show RJ _ _ _ _ _ _ _ _ _ _ (Option.toList (some (vI (if k = 0 then 0 else 1))) ++ []) _ _ _
          rw [if_neg hk0]
          refine R_if_eq 84 dX12_pieceOfC_77 (by decide) (fun hc77 => ?_) (fun hc77 => ?_)
          · exact absurd hc77 (by decide)
          refine R_iconst dX12_pieceOfC_80 rfl rfl ?_
          refine R_goto 85 dX12_pieceOfC_81 (by decide) ?_
          refine R_istore_n dX12_pieceOfC_85 (by decide) rfl [_, _] rfl ?_
          refine R_goto 39 dX12_pieceOfC_86 (by decide) ?_
          by_cases hk1 : k = 1
          · rw [if_pos hk1] at hs
            rw [if_neg (by omega), e43] at e43'
            exact hs _ h3 k3 f23 e43'
          · rw [if_neg hk1] at hs
            refine R_iload_n dX12_pieceOfC_39 rfl ?_
            refine R_if_eq 89 dX12_pieceOfC_40 (by decide) (fun hc40 => ?_) (fun hc40 => ?_)
            · exact absurd hc40 (by decide)
            refine R_aload_n dX12_pieceOfC_43 rfl ?_
            refine R_callV (m_isGood) (mvX12_isGood _) kiX12_isGood kvX12_isGood km12_219 rfl rfl (by decide) ⟨rfl, rfl, by decide, by decide⟩ (Nat.le_of_ble_eq_true rfl) dX12_pieceOfC_44 (fun v1 sh1 g4 z1 r1 hq => ?_)
            obtain ⟨rfl, rfl, rfl, rfl, rfl⟩ := hq
            rw [b2i_t k3]
            refine R_if_eq 89 dX12_pieceOfC_47 (by decide) (fun hc47 => ?_) (fun hc47 => ?_)
            · exact absurd hc47 (by decide)
            refine R_aload_n dX12_pieceOfC_50 rfl ?_
            refine R_getI fd12_43 kf12_275 rfl dX12_pieceOfC_51 ?_
            by_cases hk2 : k = 2
            · rw [if_pos hk2] at e43'
              rw [e43']
              refine R_if_ne 61 dX12_pieceOfC_54 (by decide) (fun hc54 => ?_) (fun hc54 => ?_)
              · exact hs _ h3 k3 f23
              · exact absurd hc54 (by decide)
            · exfalso
              unfold goF at hy
              repeat (first | (split at hy) | (cases hy; omega) | cases hy)
    obtain ⟨p, σ, o, C⟩ := s1
    have ho6 : o ≤ 6 := h1.1.2.2.2.2.2.2.2
    have hp : p ≤ N := h1.1.2.2.2.2.2.2.1.2
    have htp := wfS_top hw1
    have htp : hd0 σ = 40 ∨ hd0 σ = 33 ∨ hd0 σ = 38 ∨ hd0 σ = 124 := htp
    refine R_iconst dX12_pieceOfC_32 rfl rfl ?_
    refine R_istore_n dX12_pieceOfC_33 (by decide) rfl [_, _] rfl ?_
    refine R_aload_n dX12_pieceOfC_34 rfl ?_
    refine R_iconst dX12_pieceOfC_35 rfl rfl ?_
    refine R_putZ (by first | exact Or.inl rfl | exact Or.inr rfl | omega) fd12_43 rfl kf12_275 rfl dX12_pieceOfC_36 ?_
    refine hA (p, σ, o, C) (sim_cmp hT.1 hN hA hXx (6 - o) o (by omega) p σ C ⟨by rcases htp with e | e | e | e <;> rw [e] <;> rfl, by rcases htp with e | e | e | e <;> rw [e] <;> decide, by rcases htp with e | e | e | e <;> rw [e] <;> rfl⟩ hp ?_) _ ⟨h1.1.oth (Or.inr (Or.inr rfl)), h1.2⟩ (by rw [up2_k (by decide)]; exact k1) (f1.trans FrG.up) up2_s
    unfold pcB at hx
    have hx : (match cmpB (tX tp N) (FAC (tX tp N) (6 - o)) p with
      | .inl f => .inl f
      | .inr q => if tX tp N q.1 = 93 ∨ isSg (tX tp N q.1) = true then .inl (-1000 - (q.1 : Int)) else .inr (endF (q.1, σ, o, C ++ q.2.2.1))) = X := hx
    cases hy : cmpB (tX tp N) (FAC (tX tp N) (6 - o)) p with
    | inl f => rw [hy] at hx; exact FlP f hx.symm
    | inr q =>
      obtain ⟨p', b⟩ := q
      rw [hy] at hx
      have hx : (if tX tp N p' = 93 ∨ isSg (tX tp N p') = true then .inl (-1000 - (p' : Int)) else .inr (endF (p', σ, o, C ++ b.2.1))) = X := hx
      show if tX tp N p' = 93 ∨ isSg (tX tp N p') = true then _ else _
      split
      · rename_i hb
        rw [if_pos hb] at hx
        exact FlP _ hx.symm
      · rename_i hb
        rw [if_neg hb] at hx
        exact EP _ hx.symm
  have loop : ∀ (n : Nat) (s1 : QS) (g1 : GG), n = 7 - s1.2.2.1 → MT tp N g1 s1 → g1 74 37 = 0 → FrG g g1 → wfS s1.2.1 → pcF (tX tp N) n s1 = X → RJ (mX12_pieceOfC (rmD 4 0 0)) 0 0 shW.length Q 0 0 shW 0 [some (vR (some 74)), none] [] g1 z r := by
    intro n
    induction n with
    | zero =>
      intro s1 g1 hn h1
      have := h1.1.2.2.2.2.2.2.2
      omega
    | succ n ih =>
      intro s1 g1 hn h1 k1 f1 hw1 hx
      obtain ⟨p, σ, o, C⟩ := s1
      have ho6 : o ≤ 6 := h1.1.2.2.2.2.2.2.2
      have hn : n + 1 = 7 - o := hn
      rw [pcF] at hx
      have hx : (if tX tp N p = 33 ∨ tX tp N p = 40 then (if o = 6 then .inl (-5000 - (p : Int)) else pcF (tX tp N) n (p + 1, tX tp N p :: σ, o + 1, C)) else pcB (tX tp N) (p, σ, o, C)) = X := hx
      have at25 : (tX tp N p = 33 ∨ tX tp N p = 40) → RJ (mX12_pieceOfC (rmD 4 0 0)) 0 0 shW.length Q 0 0 shW 25 [some (vR (some 74)), none] [] g1 z r := by
        intro hi
        rw [if_pos hi] at hx
        refine R_aload_n dX12_pieceOfC_25 rfl ?_
        refine R_callV (m_opens hr h1 k1 (by unfold isBk; rw [decide_eq_true_eq]; omega)) (mvX12_opens _) kiX12_opens kvX12_opens km12_262 rfl rfl (by decide) ⟨rfl, rfl, by decide, by decide⟩ (Nat.le_of_ble_eq_true rfl) dX12_pieceOfC_26 (fun v1 sh1 g2 z1 r1 hq => ?_)
        obtain ⟨⟨rfl, f2, o2⟩, rfl, rfl, rfl⟩ := hq
        refine R_goto 0 dX12_pieceOfC_29 (by decide) ?_
        rcases o2 with ⟨ho, k2⟩ | ⟨ho, k2, h2⟩
        · rw [if_pos ho] at hx
          refine R_aload_n dX12_pieceOfC_0 rfl ?_
          refine R_callV (m_isGood) (mvX12_isGood _) kiX12_isGood kvX12_isGood km12_219 rfl rfl (by decide) ⟨rfl, rfl, by decide, by decide⟩ (Nat.le_of_ble_eq_true rfl) dX12_pieceOfC_1 (fun v1 sh1 g3 z1 r1 hq => ?_)
          obtain ⟨rfl, rfl, rfl, rfl, rfl⟩ := hq
          rw [b2i_f (by omega)]
          refine R_if_eq 32 dX12_pieceOfC_4 (by decide) (fun hc4 => ?_) (fun hc4 => ?_)
          rotate_left
          · exact absurd rfl hc4
          refine R_iconst dX12_pieceOfC_32 rfl rfl ?_
          refine R_istore_n dX12_pieceOfC_33 (by decide) rfl [_, _] rfl ?_
          refine R_aload_n dX12_pieceOfC_34 rfl ?_
          refine R_iconst dX12_pieceOfC_35 rfl rfl ?_
          refine R_putZ (by first | exact Or.inl rfl | exact Or.inr rfl | omega) fd12_43 rfl kf12_275 rfl dX12_pieceOfC_36 ?_
          exact FlP _ hx.symm _ 1 (Or.inr rfl) ((f1.trans f2.g).trans FrG.up) (by rw [up2_k (by decide)]; exact k2) (by omega)
        · rw [if_neg (by omega)] at hx
          refine ih (p + 1, tX tp N p :: σ, o + 1, C) _ (by show n = 7 - (o + 1); omega) h2 k2 (f1.trans f2.g) ?_ hx
          rcases hi with e | e
          · exact Or.inr (Or.inl ⟨e, hw1⟩)
          · exact Or.inl ⟨e, Or.inr hw1⟩
      refine R_aload_n dX12_pieceOfC_0 rfl ?_
      refine R_callV (m_isGood) (mvX12_isGood _) kiX12_isGood kvX12_isGood km12_219 rfl rfl (by decide) ⟨rfl, rfl, by decide, by decide⟩ (Nat.le_of_ble_eq_true rfl) dX12_pieceOfC_1 (fun v1 sh1 g2 z1 r1 hq => ?_)
      obtain ⟨rfl, rfl, rfl, rfl, rfl⟩ := hq
      rw [b2i_t k1]
      refine R_if_eq 32 dX12_pieceOfC_4 (by decide) (fun hc4 => ?_) (fun hc4 => ?_)
      · exact absurd hc4 (by decide)
      refine R_aload_n dX12_pieceOfC_7 rfl ?_
      refine R_callV (h1.1.here hr) (mvX12_here _) kiX12_here kvX12_here km12_236 rfl rfl (by decide) ⟨rfl, rfl, by decide, by decide⟩ (Nat.le_of_ble_eq_true rfl) dX12_pieceOfC_8 (fun v1 sh1 g2 z1 r1 hq => ?_)
      obtain ⟨rfl, rfl, rfl, rfl, rfl⟩ := hq
      refine R_bipush dX12_pieceOfC_11 rfl (by decide +kernel) ?_
      refine R_icmp_eq 25 dX12_pieceOfC_13 (by decide) (fun hc13 => ?_) (fun hc13 => ?_)
      · exact at25 (Or.inl hc13)
      refine R_aload_n dX12_pieceOfC_16 rfl ?_
      refine R_callV (h1.1.here hr) (mvX12_here _) kiX12_here kvX12_here km12_236 rfl rfl (by decide) ⟨rfl, rfl, by decide, by decide⟩ (Nat.le_of_ble_eq_true rfl) dX12_pieceOfC_17 (fun v1 sh1 g2 z1 r1 hq => ?_)
      obtain ⟨rfl, rfl, rfl, rfl, rfl⟩ := hq
      refine R_bipush dX12_pieceOfC_20 rfl (by decide +kernel) ?_
      refine R_icmp_ne 32 dX12_pieceOfC_22 (by decide) (fun hc22 => ?_) (fun hc22 => ?_)
      rotate_left
      · exact at25 (Or.inr hc22)
      rw [if_neg (by rintro (q | q); exact hc13 q; exact hc22 q)] at hx
      exact base (p, σ, o, C) g1 _ h1 k1 f1 hw1 hx
  exact loop (7 - s.2.2.1) s g rfl h h37 (FrM0.rfl.g) hw hX
end MRD5
