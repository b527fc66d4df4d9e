/-! the reference's reader -/
def FrM0 (g g' : GG) : Prop := (∀ c', c' ≠ 74 → c' ≠ 98 → c' ≠ 99 → c' ≠ 100 → g' c' = g c') ∧ ∀ k, k ≠ 35 → k ≠ 37 → k ≠ 39 → k ≠ 40 → k ≠ 41 → g' 74 k = g 74 k
theorem FrM0.rfl {g : GG} : FrM0 g g := ⟨fun _ _ _ _ _ => Eq.refl _, fun _ _ _ _ _ _ => Eq.refl _⟩
theorem FrM0.trans {g g1 g2 : GG} (h1 : FrM0 g g1) (h2 : FrM0 g1 g2) : FrM0 g g2 := ⟨fun c' a b c d => (h2.1 c' a b c d).trans (h1.1 c' a b c d), fun k a b c d e => (h2.2 k a b c d e).trans (h1.2 k a b c d e)⟩
theorem FrM0.up {g : GG} {k : Nat} {v : Int} (h : k = 35 ∨ k = 37 ∨ k = 39 ∨ k = 40 ∨ k = 41) : FrM0 g (up2 g 74 k v) := ⟨fun c' a _ _ _ => up2_ne a, fun k' a b c d e => up2_k (by omega)⟩
theorem FrM0.cel {g : GG} {c k : Nat} {v : Int} (h : c = 98 ∨ c = 99 ∨ c = 100) : FrM0 g (up2 g c k v) := ⟨fun c' _ a b d => up2_ne (by omega), fun k' _ _ _ _ _ => by rw [up2_ne (by omega)]⟩
/-- the reference's reader at s: place, stack, open, codes -/
def MS (tp : Nat → Int) (N : Nat) (g : GG) (s : QS) : Prop := g 75 = tp ∧ (g 74 36 = (N : Int) ∧ N ≤ 160) ∧ g 74 35 = (s.1 : Int) ∧ (g 74 41 = (s.2.1.length : Int) ∧ SK (g 100) s.2.1) ∧ g 74 40 = (s.2.2.1 : Int) ∧ (g 74 39 = (s.2.2.2.length : Int) ∧ seg (g 98) (g 99) 0 s.2.2.2) ∧ (s.2.1.length + s.2.2.2.length ≤ s.1 ∧ s.1 ≤ N) ∧ s.2.2.1 ≤ 6
section MRD1
variable {g z : GG} {r : RR} {tp : Nat → Int} {N p o : Nat} {σ : List Int} {C : List (Int × Int)}
theorem MS.pop {c : Int} (h : MS tp N g (p, c :: σ, o, C)) : MS tp N (up2 g 74 41 (σ.length : Int)) (p, σ, o, C) := by
  obtain ⟨h1, h2, h3, h4, h5, h6, h7, h8⟩ := h
  have h7 : (c :: σ).length + C.length ≤ p ∧ p ≤ N := h7
  rw [List.length_cons] at h7
  exact ⟨by rw [up2_ne (by decide)]; exact h1, ⟨by rw [up2_k (by decide)]; exact h2.1, h2.2⟩, by rw [up2_k (by decide)]; exact h3, ⟨up2_s, by rw [up2_ne (by decide)]; exact SK_tail h4.2⟩, by rw [up2_k (by decide)]; exact h5, ⟨by rw [up2_k (by decide)]; exact h6.1, by rw [up2_ne (by decide), up2_ne (by decide)]; exact h6.2⟩, ⟨by show σ.length + C.length ≤ p; omega, h7.2⟩, h8⟩
theorem MS.opn {o' : Nat} (h : MS tp N g (p, σ, o, C)) (ho : o' ≤ 6) : MS tp N (up2 g 74 40 (o' : Int)) (p, σ, o', C) := by
  obtain ⟨h1, h2, h3, h4, h5, h6, h7, h8⟩ := h
  exact ⟨by rw [up2_ne (by decide)]; exact h1, ⟨by rw [up2_k (by decide)]; exact h2.1, h2.2⟩, by rw [up2_k (by decide)]; exact h3, ⟨by rw [up2_k (by decide)]; exact h4.1, by rw [up2_ne (by decide)]; exact h4.2⟩, up2_s, ⟨by rw [up2_k (by decide)]; exact h6.1, by rw [up2_ne (by decide), up2_ne (by decide)]; exact h6.2⟩, h7, ho⟩
theorem MS.plc (h : MS tp N g (p, σ, o, C)) (hp : p + 1 ≤ N) : MS tp N (up2 g 74 35 ((p + 1 : Nat) : Int)) (p + 1, σ, o, C) := by
  obtain ⟨h1, h2, h3, h4, h5, h6, h7, h8⟩ := h
  have h7 : σ.length + C.length ≤ p ∧ p ≤ N := h7
  exact ⟨by rw [up2_ne (by decide)]; exact h1, ⟨by rw [up2_k (by decide)]; exact h2.1, h2.2⟩, up2_s, ⟨by rw [up2_k (by decide)]; exact h4.1, by rw [up2_ne (by decide)]; exact h4.2⟩, by rw [up2_k (by decide)]; exact h5, ⟨by rw [up2_k (by decide)]; exact h6.1, by rw [up2_ne (by decide), up2_ne (by decide)]; exact h6.2⟩, ⟨by show σ.length + C.length ≤ p + 1; omega, hp⟩, h8⟩
theorem MS.oth {k : Nat} {v : Int} (h : MS tp N g (p, σ, o, C)) (hk : k = 37 ∨ k = 42 ∨ k = 43) : MS tp N (up2 g 74 k v) (p, σ, o, C) := by
  obtain ⟨h1, h2, h3, h4, h5, h6, h7, h8⟩ := h
  exact ⟨by rw [up2_ne (by decide)]; exact h1, ⟨by rw [up2_k (by omega)]; exact h2.1, h2.2⟩, by rw [up2_k (by omega)]; exact h3, ⟨by rw [up2_k (by omega)]; exact h4.1, by rw [up2_ne (by decide)]; exact h4.2⟩, by rw [up2_k (by omega)]; exact h5, ⟨by rw [up2_k (by omega)]; exact h6.1, by rw [up2_ne (by decide), up2_ne (by decide)]; exact h6.2⟩, h7, h8⟩
def emi (g : GG) (m : Nat) (c a : Int) : GG := up2 (up2 (up2 g 98 m c) 99 m a) 74 39 ((m + 1 : Nat) : Int)
def put (g : GG) (n p : Nat) (c : Int) : GG := up2 (up2 (up2 g 100 n c) 74 41 ((n + 1 : Nat) : Int)) 74 35 ((p + 1 : Nat) : Int)
theorem emi_fr {m : Nat} {c a : Int} : FrM0 g (emi g m c a) := ((FrM0.cel (Or.inl rfl)).trans (FrM0.cel (Or.inr (Or.inl rfl)))).trans (FrM0.up (by omega))
theorem put_fr {n p : Nat} {c : Int} : FrM0 g (put g n p c) := ((FrM0.cel (Or.inr (Or.inr rfl))).trans (FrM0.up (by omega))).trans (FrM0.up (by omega))
theorem emi_37 {m : Nat} {c a : Int} : emi g m c a 74 37 = g 74 37 := by unfold emi; rw [up2_k (by decide), up2_ne (by decide), up2_ne (by decide)]
theorem put_37 {n p : Nat} {c : Int} : put g n p c 74 37 = g 74 37 := by unfold put; rw [up2_k (by decide), up2_k (by decide), up2_ne (by decide)]
theorem MS_emi {c a : Int} (h : MS tp N g (p, σ, o, C)) (hp : σ.length + C.length + 1 ≤ p) : MS tp N (emi g C.length c a) (p, σ, o, C ++ [(c, a)]) := by
  obtain ⟨h1, h2, h3, h4, h5, h6, h7, h8⟩ := h
  have e74 : ∀ k, k ≠ 39 → emi g C.length c a 74 k = g 74 k := fun k hk => by unfold emi; rw [up2_k hk, up2_ne (by decide), up2_ne (by decide)]
  have ec : ∀ c', c' ≠ 74 → c' ≠ 98 → c' ≠ 99 → emi g C.length c a c' = g c' := fun c' x y w => by unfold emi; rw [up2_ne x, up2_ne w, up2_ne y]
  refine ⟨by rw [ec 75 (by decide) (by decide) (by decide)]; exact h1, ⟨by rw [e74 36 (by decide)]; exact h2.1, h2.2⟩, by rw [e74 35 (by decide)]; exact h3, ⟨by rw [e74 41 (by decide)]; exact h4.1, by rw [ec 100 (by decide) (by decide) (by decide)]; exact h4.2⟩, by rw [e74 40 (by decide)]; exact h5, ⟨?_, ?_⟩, ⟨?_, h7.2⟩, h8⟩
  · show emi g C.length c a 74 39 = ((C ++ [(c, a)]).length : Int)
    unfold emi
    rw [up2_s, List.length_append, List.length_singleton]
  · show seg _ _ 0 (C ++ [(c, a)])
    have e98 : emi g C.length c a 98 = up2 g 98 C.length c 98 := by unfold emi; rw [up2_ne (by decide), up2_ne (by decide)]
    have e99 : emi g C.length c a 99 = up2 (up2 g 98 C.length c) 99 C.length a 99 := by unfold emi; rw [up2_ne (by decide)]
    rw [seg_app, seg_cons, e98, e99]
    refine ⟨fun i q hi => ?_, ⟨by rw [Nat.zero_add]; exact up2_s, by rw [Nat.zero_add]; exact up2_s⟩, fun i q hi => by cases hi⟩
    have hil := (List.getElem?_eq_some_iff.mp hi).1
    obtain ⟨q1, q2⟩ := h6.2 i q hi
    rw [up2_k (by omega), up2_k (by omega), up2_ne (by decide)]
    exact ⟨q1, q2⟩
  · show σ.length + (C ++ [(c, a)]).length ≤ p
    rw [List.length_append, List.length_singleton]
    omega
theorem MS_put {c : Int} (h : MS tp N g (p, σ, o, C)) (hp : p + 1 ≤ N) : MS tp N (put g σ.length p c) (p + 1, c :: σ, o, C) := by
  obtain ⟨h1, h2, h3, h4, h5, h6, h7, h8⟩ := h
  have h7 : σ.length + C.length ≤ p ∧ p ≤ N := h7
  have e74 : ∀ k, k ≠ 41 → k ≠ 35 → put g σ.length p c 74 k = g 74 k := fun k a b => by unfold put; rw [up2_k b, up2_k a, up2_ne (by decide)]
  have ec : ∀ c', c' ≠ 74 → c' ≠ 100 → put g σ.length p c c' = g c' := fun c' x y => by unfold put; rw [up2_ne x, up2_ne x, up2_ne y]
  refine ⟨by rw [ec 75 (by decide) (by decide)]; exact h1, ⟨by rw [e74 36 (by decide) (by decide)]; exact h2.1, h2.2⟩, up2_s, ⟨?_, ?_⟩, by rw [e74 40 (by decide) (by decide)]; exact h5, ⟨by rw [e74 39 (by decide) (by decide)]; exact h6.1, by rw [ec 98 (by decide) (by decide), ec 99 (by decide) (by decide)]; exact h6.2⟩, ⟨?_, hp⟩, h8⟩
  · unfold put
    rw [up2_k (by decide), up2_s]
    rfl
  · have e100 : put g σ.length p c 100 = up2 g 100 σ.length c 100 := by unfold put; rw [up2_ne (by decide), up2_ne (by decide)]
    rw [e100]
    exact SK_set (fun j hj => up2_k hj) up2_s h4.2
  · show (c :: σ).length + C.length ≤ p + 1
    rw [List.length_cons]; omega
theorem m_here (hr : RS r) (h36 : g 74 36 = (N : Int) ∧ N ≤ 160) (h35 : g 74 35 = (p : Int)) : CT (mX12_here (rmD 0 0 0)) 0 0 shW [vR (some 74)] g z r (qP shW g z r (some (vI (tX (g 75) N p)))) := by
  refine CT.of 0 rfl rfl ?_
  refine R_aload_n dX12_here_0 rfl ?_
  refine R_getI fd12_35 kf12_210 rfl dX12_here_1 ?_
  refine R_aload_n dX12_here_4 rfl ?_
  refine R_getI fd12_36 kf12_213 rfl dX12_here_5 ?_
  rw [h35, h36.1]
  refine R_icmp_ge 27 dX12_here_8 (by decide) (fun hc8 => ?_) (fun hc8 => ?_)
  · refine R_iconst dX12_here_27 rfl rfl ?_
    refine R_ireturn rfl (by first | rfl | exact nar_b2i | exact nar_bi) (by decide) (by decide) dX12_here_28 ?_
    exact ⟨by unfold tX; rw [if_neg (by omega)], rfl, rfl, rfl, rfl⟩
  · refine R_aload_n dX12_here_11 rfl ?_
    refine R_getR _ (hr _ _ _ rfl) fd12_0 kf12_7 rfl dX12_here_12 ?_
    refine R_aload_n dX12_here_15 rfl ?_
    refine R_getI fd12_35 kf12_210 rfl dX12_here_16 ?_
    rw [h35]
    refine R_bald rfl (by omega) (by omega) dX12_here_19 ?_
    try rw [Int.toNat_natCast]
    refine R_sipush dX12_here_20 rfl (by decide +kernel) ?_
    refine R_iand dX12_here_23 ?_
    refine R_goto 28 dX12_here_24 (by decide) ?_
    refine R_ireturn rfl (by first | rfl | exact nar_b2i | exact nar_bi) (by decide) (by decide) dX12_here_28 ?_
    exact ⟨by unfold tX; rw [if_pos (by omega)], rfl, rfl, rfl, rfl⟩
theorem MS.here {s : QS} (h : MS tp N g s) (hr : RS r) : CT (mX12_here (rmD 0 0 0)) 0 0 shW [vR (some 74)] g z r (qP shW g z r (some (vI (tX tp N s.1)))) := by
  have := m_here (g := g) (z := z) hr h.2.1 h.2.2.1
  rw [h.1] at this
  exact this
theorem m_wrongs (f at' : Nat) (hf : f ≤ 9) (ha : at' ≤ 200) : CT (mX12_wrongs (rmD 0 0 0)) 0 0 shW [vR (some 74), vI (f : Int), vI (at' : Int)] g z r (qG shW z r fun v g' => v = none ∧ g' = up2 g 74 37 (if g 74 37 < 0 then g 74 37 else -1000 * (f : Int) - (at' : Int))) := by
  refine CT.of 0 rfl rfl ?_
  refine R_aload_n dX12_wrongs_0 rfl ?_
  refine R_aload_n dX12_wrongs_1 rfl ?_
  refine R_getI fd12_37 kf12_216 rfl dX12_wrongs_2 ?_
  refine R_if_ge 15 dX12_wrongs_5 (by decide) (fun hc5 => ?_) (fun hc5 => ?_)
  · refine R_sipush dX12_wrongs_15 rfl (by decide +kernel) ?_
    refine R_iload_n dX12_wrongs_18 rfl ?_
    refine R_imulN dX12_wrongs_19 (by unfold inI; omega) ?_
    refine R_iload_n dX12_wrongs_20 rfl ?_
    refine R_isubN dX12_wrongs_21 (by unfold inI; omega) ?_
    refine R_putI fd12_37 rfl kf12_216 rfl dX12_wrongs_22 ?_
    refine R_return rfl (by decide) (by decide) dX12_wrongs_25 ?_
    exact ⟨⟨rfl, by rw [if_neg (by omega)]⟩, rfl, rfl, rfl⟩
  · refine R_aload_n dX12_wrongs_8 rfl ?_
    refine R_getI fd12_37 kf12_216 rfl dX12_wrongs_9 ?_
    refine R_goto 22 dX12_wrongs_12 (by decide) ?_
    refine R_putI fd12_37 rfl kf12_216 rfl dX12_wrongs_22 ?_
    refine R_return rfl (by decide) (by decide) dX12_wrongs_25 ?_
    exact ⟨⟨rfl, by rw [if_pos (by omega)]⟩, rfl, rfl, rfl⟩
theorem m_isGood : CT (mX12_isGood (rmD 0 0 0)) 0 0 shW [vR (some 74)] g z r (qP shW g z r (some (vI (b2i (g 74 37 = 0))))) := by
  refine CT.of 0 rfl rfl ?_
  refine R_aload_n dX12_isGood_0 rfl ?_
  refine R_getI fd12_37 kf12_216 rfl dX12_isGood_1 ?_
  refine R_if_ne 11 dX12_isGood_4 (by decide) (fun hc4 => ?_) (fun hc4 => ?_)
  · refine R_iconst dX12_isGood_11 rfl rfl ?_
    refine R_ireturn rfl (by first | rfl | exact nar_b2i | exact nar_bi) (by decide) (by decide) dX12_isGood_12 ?_
    exact ⟨by rw [b2i_f hc4], rfl, rfl, rfl, rfl⟩
  · refine R_iconst dX12_isGood_7 rfl rfl ?_
    refine R_goto 12 dX12_isGood_8 (by decide) ?_
    refine R_ireturn rfl (by first | rfl | exact nar_b2i | exact nar_bi) (by decide) (by decide) dX12_isGood_12 ?_
    exact ⟨by rw [b2i_t hc4], rfl, rfl, rfl, rfl⟩
theorem m_emit (hr : RS r) (h37 : g 74 37 = 0) (m : Nat) (hm : m < 160) (h39 : g 74 39 = (m : Int)) (c a : Int) : CT (mX12_emit (rmD 1 0 0)) 0 0 shW [vR (some 74), vI c, vI a] g z r (qG shW z r fun v g' => v = none ∧ g' = emi g m c a) := by
  refine CT.of 0 rfl rfl ?_
  refine R_aload_n dX12_emit_0 rfl ?_
  refine R_callV (m_isGood) (mvX12_isGood _) kiX12_isGood kvX12_isGood km12_219 rfl rfl (by decide) ⟨rfl, rfl, by decide, by decide⟩ (Nat.le_of_ble_eq_true rfl) dX12_emit_1 (fun v1 sh1 g1 z1 r1 hq => ?_)
  obtain ⟨rfl, rfl, rfl, rfl, rfl⟩ := hq
  rw [b2i_t h37]
  refine R_if_ne 8 dX12_emit_4 (by decide) (fun hc4 => ?_) (fun hc4 => ?_)
  rotate_left
  · exact absurd hc4 (by decide)
  refine R_aload_n dX12_emit_8 rfl ?_
  refine R_getR _ (hr _ _ _ rfl) fd12_33 kf12_96 rfl dX12_emit_9 ?_
  refine R_aload_n dX12_emit_12 rfl ?_
  refine R_getI fd12_39 kf12_223 rfl dX12_emit_13 ?_
  rw [h39]
  refine R_iload_n dX12_emit_16 rfl ?_
  refine R_iast rfl (by omega) (by omega) dX12_emit_17 ?_
  try rw [Int.toNat_natCast]
  refine R_aload_n dX12_emit_18 rfl ?_
  refine R_getR _ (hr _ _ _ rfl) fd12_34 kf12_99 rfl dX12_emit_19 ?_
  try simp +decide only [up2_far, up2_s, up2_kk]
  refine R_aload_n dX12_emit_22 rfl ?_
  refine R_getI fd12_39 kf12_223 rfl dX12_emit_23 ?_
  try simp +decide only [up2_far, up2_s, up2_kk]
  rw [h39]
  refine R_iload_n dX12_emit_26 rfl ?_
  refine R_iast rfl (by omega) (by omega) dX12_emit_27 ?_
  try rw [Int.toNat_natCast]
  refine R_aload_n dX12_emit_28 rfl ?_
  refine R_dup dX12_emit_29 (fun _ h => by cases h) ?_
  refine R_getI fd12_39 kf12_223 rfl dX12_emit_30 ?_
  try simp +decide only [up2_far, up2_s, up2_kk]
  rw [h39]
  refine R_iconst dX12_emit_33 rfl rfl ?_
  refine R_iaddN dX12_emit_34 (by unfold inI; omega) ?_
  refine R_putI fd12_39 rfl kf12_223 rfl dX12_emit_35 ?_
  refine R_return rfl (by decide) (by decide) dX12_emit_38 ?_
  exact ⟨⟨rfl, rfl⟩, rfl, rfl, rfl⟩
theorem m_emit_bad (h37 : g 74 37 ≠ 0) (c a : Int) : CT (mX12_emit (rmD 1 0 0)) 0 0 shW [vR (some 74), vI c, vI a] g z r (qP shW g z r none) := by
  refine CT.of 0 rfl rfl ?_
  refine R_aload_n dX12_emit_0 rfl ?_
  refine R_callV (m_isGood) (mvX12_isGood _) kiX12_isGood kvX12_isGood km12_219 rfl rfl (by decide) ⟨rfl, rfl, by decide, by decide⟩ (Nat.le_of_ble_eq_true rfl) dX12_emit_1 (fun v1 sh1 g1 z1 r1 hq => ?_)
  obtain ⟨rfl, rfl, rfl, rfl, rfl⟩ := hq
  rw [b2i_f h37]
  refine R_if_ne 8 dX12_emit_4 (by decide) (fun hc4 => ?_) (fun hc4 => ?_)
  · exact absurd rfl hc4
  refine R_return rfl (by decide) (by decide) dX12_emit_7 ?_
  exact ⟨rfl, rfl, rfl, rfl, rfl⟩
theorem MS.top {s : QS} (h : MS tp N g s) (hr : RS r) : CT (mX12_top (rmD 0 0 0)) 0 0 shW [vR (some 74)] g z r (qP shW g z r (some (vI (hd0 s.2.1)))) := by
  obtain ⟨p, σ, o, C⟩ := s
  obtain ⟨-, h2, -, ⟨h41, hS⟩, -, -, h7, -⟩ := h
  have h41 : g 74 41 = (σ.length : Int) := h41
  have h7 : σ.length + C.length ≤ p ∧ p ≤ N := h7
  refine CT.of 0 rfl rfl ?_
  refine R_aload_n dX12_top_0 rfl ?_
  refine R_getI fd12_41 kf12_226 rfl dX12_top_1 ?_
  rw [h41]
  refine R_if_le 21 dX12_top_4 (by decide) (fun hc4 => ?_) (fun hc4 => ?_)
  · have e : σ = [] := List.length_eq_zero_iff.mp (by omega)
    refine R_iconst dX12_top_21 rfl rfl ?_
    refine R_ireturn rfl (by first | rfl | exact nar_b2i | exact nar_bi) (by decide) (by decide) dX12_top_22 ?_
    exact ⟨by show some (vI 0) = some (vI (hd0 σ)); rw [e]; rfl, rfl, rfl, rfl, rfl⟩
  · cases σ with
    | nil => exact absurd (by simp) hc4
    | cons c t =>
      rw [List.length_cons] at h41 h7
      have hSt := SK_top hS
      refine R_aload_n dX12_top_7 rfl ?_
      refine R_getR _ (hr _ _ _ rfl) fd12_44 kf12_102 rfl dX12_top_8 ?_
      refine R_aload_n dX12_top_11 rfl ?_
      refine R_getI fd12_41 kf12_226 rfl dX12_top_12 ?_
      rw [h41]
      refine R_iconst dX12_top_15 rfl rfl ?_
      refine R_isubN dX12_top_16 (by unfold inI; omega) ?_
      refine R_iald rfl (by omega) (by omega) dX12_top_17 ?_
      rw [show (((t.length + 1 : Nat) : Int) - 1).toNat = t.length by omega, hSt]
      refine R_goto 22 dX12_top_18 (by decide) ?_
      refine R_ireturn rfl (by first | rfl | exact nar_b2i | exact nar_bi) (by decide) (by decide) dX12_top_22 ?_
      exact ⟨rfl, rfl, rfl, rfl, rfl⟩
theorem m_puts (hr : RS r) (n p : Nat) (hn : n < 200) (hp : p ≤ 200) (h41 : g 74 41 = (n : Int)) (h35 : g 74 35 = (p : Int)) (c : Int) : CT (mX12_puts (rmD 0 0 0)) 0 0 shW [vR (some 74), vI c] g z r (qG shW z r fun v g' => v = none ∧ g' = put g n p c) := by
  refine CT.of 0 rfl rfl ?_
  refine R_aload_n dX12_puts_0 rfl ?_
  refine R_getR _ (hr _ _ _ rfl) fd12_44 kf12_102 rfl dX12_puts_1 ?_
  refine R_aload_n dX12_puts_4 rfl ?_
  refine R_getI fd12_41 kf12_226 rfl dX12_puts_5 ?_
  rw [h41]
  refine R_iload_n dX12_puts_8 rfl ?_
  refine R_iast rfl (by omega) (by omega) dX12_puts_9 ?_
  try rw [Int.toNat_natCast]
  refine R_aload_n dX12_puts_10 rfl ?_
  refine R_dup dX12_puts_11 (fun _ h => by cases h) ?_
  refine R_getI fd12_41 kf12_226 rfl dX12_puts_12 ?_
  try simp +decide only [up2_far, up2_s, up2_kk]
  rw [h41]
  refine R_iconst dX12_puts_15 rfl rfl ?_
  refine R_iaddN dX12_puts_16 (by unfold inI; omega) ?_
  refine R_putI fd12_41 rfl kf12_226 rfl dX12_puts_17 ?_
  refine R_aload_n dX12_puts_20 rfl ?_
  refine R_dup dX12_puts_21 (fun _ h => by cases h) ?_
  refine R_getI fd12_35 kf12_210 rfl dX12_puts_22 ?_
  try simp +decide only [up2_far, up2_s, up2_kk]
  rw [h35]
  refine R_iconst dX12_puts_25 rfl rfl ?_
  refine R_iaddN dX12_puts_26 (by unfold inI; omega) ?_
  refine R_putI fd12_35 rfl kf12_210 rfl dX12_puts_27 ?_
  refine R_return rfl (by decide) (by decide) dX12_puts_30 ?_
  exact ⟨⟨rfl, rfl⟩, rfl, rfl, rfl⟩
theorem m_seesDigit {s : QS} (h : MS tp N g s) (hr : RS r) : CT (mX12_seesDigit (rmD 1 0 0)) 0 0 shW [vR (some 74)] g z r (qP shW g z r (some (vI (bi (dig (tX tp N s.1)))))) := by
  refine CT.of 0 rfl rfl ?_
  refine R_aload_n dX12_seesDigit_0 rfl ?_
  refine R_callV (h.here hr) (mvX12_here _) kiX12_here kvX12_here km12_236 rfl rfl (by decide) ⟨rfl, rfl, by decide, by decide⟩ (Nat.le_of_ble_eq_true rfl) dX12_seesDigit_1 (fun v1 sh1 g1 z1 r1 hq => ?_)
  obtain ⟨rfl, rfl, rfl, rfl, rfl⟩ := hq
  refine R_i2l dX12_seesDigit_4 ?_
  refine R_ldc2_w (v := 48) kk12_243 dX12_seesDigit_5 (by decide) ?_
  refine R_ldc2_w (v := 57) kk12_245 dX12_seesDigit_8 (by decide) ?_
  refine R_callS (m_lies (tX tp N s.1) 48 57) (mvX12_lies _) ksX12_lies km12_164 ⟨rfl, rfl, by decide, by decide⟩ (Nat.le_of_ble_eq_true rfl) dX12_seesDigit_11 (fun v1 sh1 g1 z1 r1 hq => ?_)
  obtain ⟨rfl, rfl, rfl, rfl, rfl⟩ := hq
  refine R_ireturn rfl (by first | rfl | exact nar_b2i | exact nar_bi) (by decide) (by decide) dX12_seesDigit_14 ?_
  refine ⟨?_, rfl, rfl, rfl, rfl⟩
  unfold dig
  by_cases hd : 48 ≤ tX tp N s.1 ∧ tX tp N s.1 ≤ 57
  · rw [b2i_t hd, bi_t (by rw [decide_eq_true_eq]; exact hd)]
  · rw [b2i_f hd, bi_f (by rw [decide_eq_true_eq]; exact hd)]
theorem m_isTimes (c : Int) : CT (mX12_isTimes (rmD 0 0 0)) 0 0 shW [vI c] g z r (qP shW g z r (some (vI (bi (okS 3 c))))) := by
  refine CT.of 0 rfl rfl ?_
  refine R_iload_n dX12_isTimes_0 rfl ?_
  refine R_bipush dX12_isTimes_1 rfl (by decide +kernel) ?_
  refine R_icmp_eq 18 dX12_isTimes_3 (by decide) (fun hc3 => ?_) (fun hc3 => ?_)
  · refine R_iconst dX12_isTimes_18 rfl rfl ?_
    refine R_goto 23 dX12_isTimes_19 (by decide) ?_
    refine R_ireturn rfl (by first | rfl | exact nar_b2i | exact nar_bi) (by decide) (by decide) dX12_isTimes_23 ?_
    first | exact ⟨by rw [bi_t (by simp [okS]; omega)], rfl, rfl, rfl, rfl⟩ | exact ⟨by rw [bi_f (by simp [okS]; omega)], rfl, rfl, rfl, rfl⟩
  · refine R_iload_n dX12_isTimes_6 rfl ?_
    refine R_bipush dX12_isTimes_7 rfl (by decide +kernel) ?_
    refine R_icmp_eq 18 dX12_isTimes_9 (by decide) (fun hc9 => ?_) (fun hc9 => ?_)
    · refine R_iconst dX12_isTimes_18 rfl rfl ?_
      refine R_goto 23 dX12_isTimes_19 (by decide) ?_
      refine R_ireturn rfl (by first | rfl | exact nar_b2i | exact nar_bi) (by decide) (by decide) dX12_isTimes_23 ?_
      first | exact ⟨by rw [bi_t (by simp [okS]; omega)], rfl, rfl, rfl, rfl⟩ | exact ⟨by rw [bi_f (by simp [okS]; omega)], rfl, rfl, rfl, rfl⟩
    · refine R_iload_n dX12_isTimes_12 rfl ?_
      refine R_bipush dX12_isTimes_13 rfl (by decide +kernel) ?_
      refine R_icmp_ne 22 dX12_isTimes_15 (by decide) (fun hc15 => ?_) (fun hc15 => ?_)
      · refine R_iconst dX12_isTimes_22 rfl rfl ?_
        refine R_ireturn rfl (by first | rfl | exact nar_b2i | exact nar_bi) (by decide) (by decide) dX12_isTimes_23 ?_
        first | exact ⟨by rw [bi_t (by simp [okS]; omega)], rfl, rfl, rfl, rfl⟩ | exact ⟨by rw [bi_f (by simp [okS]; omega)], rfl, rfl, rfl, rfl⟩
      · refine R_iconst dX12_isTimes_18 rfl rfl ?_
        refine R_goto 23 dX12_isTimes_19 (by decide) ?_
        refine R_ireturn rfl (by first | rfl | exact nar_b2i | exact nar_bi) (by decide) (by decide) dX12_isTimes_23 ?_
        first | exact ⟨by rw [bi_t (by simp [okS]; omega)], rfl, rfl, rfl, rfl⟩ | exact ⟨by rw [bi_f (by simp [okS]; omega)], rfl, rfl, rfl, rfl⟩
theorem m_isPlus (c : Int) : CT (mX12_isPlus (rmD 0 0 0)) 0 0 shW [vI c] g z r (qP shW g z r (some (vI (bi (okS 2 c))))) := by
  refine CT.of 0 rfl rfl ?_
  refine R_iload_n dX12_isPlus_0 rfl ?_
  refine R_bipush dX12_isPlus_1 rfl (by decide +kernel) ?_
  refine R_icmp_eq 12 dX12_isPlus_3 (by decide) (fun hc3 => ?_) (fun hc3 => ?_)
  · refine R_iconst dX12_isPlus_12 rfl rfl ?_
    refine R_goto 17 dX12_isPlus_13 (by decide) ?_
    refine R_ireturn rfl (by first | rfl | exact nar_b2i | exact nar_bi) (by decide) (by decide) dX12_isPlus_17 ?_
    first | exact ⟨by rw [bi_t (by simp [okS]; omega)], rfl, rfl, rfl, rfl⟩ | exact ⟨by rw [bi_f (by simp [okS]; omega)], rfl, rfl, rfl, rfl⟩
  · refine R_iload_n dX12_isPlus_6 rfl ?_
    refine R_bipush dX12_isPlus_7 rfl (by decide +kernel) ?_
    refine R_icmp_ne 16 dX12_isPlus_9 (by decide) (fun hc9 => ?_) (fun hc9 => ?_)
    · refine R_iconst dX12_isPlus_16 rfl rfl ?_
      refine R_ireturn rfl (by first | rfl | exact nar_b2i | exact nar_bi) (by decide) (by decide) dX12_isPlus_17 ?_
      first | exact ⟨by rw [bi_t (by simp [okS]; omega)], rfl, rfl, rfl, rfl⟩ | exact ⟨by rw [bi_f (by simp [okS]; omega)], rfl, rfl, rfl, rfl⟩
    · refine R_iconst dX12_isPlus_12 rfl rfl ?_
      refine R_goto 17 dX12_isPlus_13 (by decide) ?_
      refine R_ireturn rfl (by first | rfl | exact nar_b2i | exact nar_bi) (by decide) (by decide) dX12_isPlus_17 ?_
      first | exact ⟨by rw [bi_t (by simp [okS]; omega)], rfl, rfl, rfl, rfl⟩ | exact ⟨by rw [bi_f (by simp [okS]; omega)], rfl, rfl, rfl, rfl⟩
theorem m_isSign (c : Int) : CT (mX12_isSign (rmD 0 0 0)) 0 0 shW [vI c] g z r (qP shW g z r (some (vI (bi (isSg c))))) := by
  refine CT.of 0 rfl rfl ?_
  refine R_iload_n dX12_isSign_0 rfl ?_
  refine R_bipush dX12_isSign_1 rfl (by decide +kernel) ?_
  refine R_icmp_eq 18 dX12_isSign_3 (by decide) (fun hc3 => ?_) (fun hc3 => ?_)
  · refine R_iconst dX12_isSign_18 rfl rfl ?_
    refine R_goto 23 dX12_isSign_19 (by decide) ?_
    refine R_ireturn rfl (by first | rfl | exact nar_b2i | exact nar_bi) (by decide) (by decide) dX12_isSign_23 ?_
    first | exact ⟨by rw [bi_t (by simp [isSg]; omega)], rfl, rfl, rfl, rfl⟩ | exact ⟨by rw [bi_f (by simp [isSg]; omega)], rfl, rfl, rfl, rfl⟩
  · refine R_iload_n dX12_isSign_6 rfl ?_
    refine R_bipush dX12_isSign_7 rfl (by decide +kernel) ?_
    refine R_icmp_eq 18 dX12_isSign_9 (by decide) (fun hc9 => ?_) (fun hc9 => ?_)
    · refine R_iconst dX12_isSign_18 rfl rfl ?_
      refine R_goto 23 dX12_isSign_19 (by decide) ?_
      refine R_ireturn rfl (by first | rfl | exact nar_b2i | exact nar_bi) (by decide) (by decide) dX12_isSign_23 ?_
      first | exact ⟨by rw [bi_t (by simp [isSg]; omega)], rfl, rfl, rfl, rfl⟩ | exact ⟨by rw [bi_f (by simp [isSg]; omega)], rfl, rfl, rfl, rfl⟩
    · refine R_iload_n dX12_isSign_12 rfl ?_
      refine R_bipush dX12_isSign_13 rfl (by decide +kernel) ?_
      refine R_icmp_ne 22 dX12_isSign_15 (by decide) (fun hc15 => ?_) (fun hc15 => ?_)
      · refine R_iconst dX12_isSign_22 rfl rfl ?_
        refine R_ireturn rfl (by first | rfl | exact nar_b2i | exact nar_bi) (by decide) (by decide) dX12_isSign_23 ?_
        first | exact ⟨by rw [bi_t (by simp [isSg]; omega)], rfl, rfl, rfl, rfl⟩ | exact ⟨by rw [bi_f (by simp [isSg]; omega)], rfl, rfl, rfl, rfl⟩
      · refine R_iconst dX12_isSign_18 rfl rfl ?_
        refine R_goto 23 dX12_isSign_19 (by decide) ?_
        refine R_ireturn rfl (by first | rfl | exact nar_b2i | exact nar_bi) (by decide) (by decide) dX12_isSign_23 ?_
        first | exact ⟨by rw [bi_t (by simp [isSg]; omega)], rfl, rfl, rfl, rfl⟩ | exact ⟨by rw [bi_f (by simp [isSg]; omega)], rfl, rfl, rfl, rfl⟩
theorem m_isValue (c : Int) : CT (mX12_isValue (rmD 0 0 0)) 0 0 shW [vI c] g z r (qP shW g z r (some (vI (bi (isVl c))))) := by
  refine CT.of 0 rfl rfl ?_
  refine R_iload_n dX12_isValue_0 rfl ?_
  refine R_bipush dX12_isValue_1 rfl (by decide +kernel) ?_
  refine R_icmp_eq 54 dX12_isValue_3 (by decide) (fun hc3 => ?_) (fun hc3 => ?_)
  · refine R_iconst dX12_isValue_54 rfl rfl ?_
    refine R_goto 59 dX12_isValue_55 (by decide) ?_
    refine R_ireturn rfl (by first | rfl | exact nar_b2i | exact nar_bi) (by decide) (by decide) dX12_isValue_59 ?_
    first | exact ⟨by rw [bi_t (by simp [isVl]; omega)], rfl, rfl, rfl, rfl⟩ | exact ⟨by rw [bi_f (by simp [isVl]; omega)], rfl, rfl, rfl, rfl⟩
  · refine R_iload_n dX12_isValue_6 rfl ?_
    refine R_bipush dX12_isValue_7 rfl (by decide +kernel) ?_
    refine R_icmp_eq 54 dX12_isValue_9 (by decide) (fun hc9 => ?_) (fun hc9 => ?_)
    · refine R_iconst dX12_isValue_54 rfl rfl ?_
      refine R_goto 59 dX12_isValue_55 (by decide) ?_
      refine R_ireturn rfl (by first | rfl | exact nar_b2i | exact nar_bi) (by decide) (by decide) dX12_isValue_59 ?_
      first | exact ⟨by rw [bi_t (by simp [isVl]; omega)], rfl, rfl, rfl, rfl⟩ | exact ⟨by rw [bi_f (by simp [isVl]; omega)], rfl, rfl, rfl, rfl⟩
    · refine R_iload_n dX12_isValue_12 rfl ?_
      refine R_bipush dX12_isValue_13 rfl (by decide +kernel) ?_
      refine R_icmp_eq 54 dX12_isValue_15 (by decide) (fun hc15 => ?_) (fun hc15 => ?_)
      · refine R_iconst dX12_isValue_54 rfl rfl ?_
        refine R_goto 59 dX12_isValue_55 (by decide) ?_
        refine R_ireturn rfl (by first | rfl | exact nar_b2i | exact nar_bi) (by decide) (by decide) dX12_isValue_59 ?_
        first | exact ⟨by rw [bi_t (by simp [isVl]; omega)], rfl, rfl, rfl, rfl⟩ | exact ⟨by rw [bi_f (by simp [isVl]; omega)], rfl, rfl, rfl, rfl⟩
      · refine R_iload_n dX12_isValue_18 rfl ?_
        refine R_bipush dX12_isValue_19 rfl (by decide +kernel) ?_
        refine R_icmp_eq 54 dX12_isValue_21 (by decide) (fun hc21 => ?_) (fun hc21 => ?_)
        · refine R_iconst dX12_isValue_54 rfl rfl ?_
          refine R_goto 59 dX12_isValue_55 (by decide) ?_
          refine R_ireturn rfl (by first | rfl | exact nar_b2i | exact nar_bi) (by decide) (by decide) dX12_isValue_59 ?_
          first | exact ⟨by rw [bi_t (by simp [isVl]; omega)], rfl, rfl, rfl, rfl⟩ | exact ⟨by rw [bi_f (by simp [isVl]; omega)], rfl, rfl, rfl, rfl⟩
        · refine R_iload_n dX12_isValue_24 rfl ?_
          refine R_bipush dX12_isValue_25 rfl (by decide +kernel) ?_
          refine R_icmp_eq 54 dX12_isValue_27 (by decide) (fun hc27 => ?_) (fun hc27 => ?_)
          · refine R_iconst dX12_isValue_54 rfl rfl ?_
            refine R_goto 59 dX12_isValue_55 (by decide) ?_
            refine R_ireturn rfl (by first | rfl | exact nar_b2i | exact nar_bi) (by decide) (by decide) dX12_isValue_59 ?_
            first | exact ⟨by rw [bi_t (by simp [isVl]; omega)], rfl, rfl, rfl, rfl⟩ | exact ⟨by rw [bi_f (by simp [isVl]; omega)], rfl, rfl, rfl, rfl⟩
          · refine R_iload_n dX12_isValue_30 rfl ?_
            refine R_bipush dX12_isValue_31 rfl (by decide +kernel) ?_
            refine R_icmp_eq 54 dX12_isValue_33 (by decide) (fun hc33 => ?_) (fun hc33 => ?_)
            · refine R_iconst dX12_isValue_54 rfl rfl ?_
              refine R_goto 59 dX12_isValue_55 (by decide) ?_
              refine R_ireturn rfl (by first | rfl | exact nar_b2i | exact nar_bi) (by decide) (by decide) dX12_isValue_59 ?_
              first | exact ⟨by rw [bi_t (by simp [isVl]; omega)], rfl, rfl, rfl, rfl⟩ | exact ⟨by rw [bi_f (by simp [isVl]; omega)], rfl, rfl, rfl, rfl⟩
            · refine R_iload_n dX12_isValue_36 rfl ?_
              refine R_bipush dX12_isValue_37 rfl (by decide +kernel) ?_
              refine R_icmp_eq 54 dX12_isValue_39 (by decide) (fun hc39 => ?_) (fun hc39 => ?_)
              · refine R_iconst dX12_isValue_54 rfl rfl ?_
                refine R_goto 59 dX12_isValue_55 (by decide) ?_
                refine R_ireturn rfl (by first | rfl | exact nar_b2i | exact nar_bi) (by decide) (by decide) dX12_isValue_59 ?_
                first | exact ⟨by rw [bi_t (by simp [isVl]; omega)], rfl, rfl, rfl, rfl⟩ | exact ⟨by rw [bi_f (by simp [isVl]; omega)], rfl, rfl, rfl, rfl⟩
              · refine R_iload_n dX12_isValue_42 rfl ?_
                refine R_bipush dX12_isValue_43 rfl (by decide +kernel) ?_
                refine R_icmp_eq 54 dX12_isValue_45 (by decide) (fun hc45 => ?_) (fun hc45 => ?_)
                · refine R_iconst dX12_isValue_54 rfl rfl ?_
                  refine R_goto 59 dX12_isValue_55 (by decide) ?_
                  refine R_ireturn rfl (by first | rfl | exact nar_b2i | exact nar_bi) (by decide) (by decide) dX12_isValue_59 ?_
                  first | exact ⟨by rw [bi_t (by simp [isVl]; omega)], rfl, rfl, rfl, rfl⟩ | exact ⟨by rw [bi_f (by simp [isVl]; omega)], rfl, rfl, rfl, rfl⟩
                · refine R_iload_n dX12_isValue_48 rfl ?_
                  refine R_bipush dX12_isValue_49 rfl (by decide +kernel) ?_
                  refine R_icmp_ne 58 dX12_isValue_51 (by decide) (fun hc51 => ?_) (fun hc51 => ?_)
                  · refine R_iconst dX12_isValue_58 rfl rfl ?_
                    refine R_ireturn rfl (by first | rfl | exact nar_b2i | exact nar_bi) (by decide) (by decide) dX12_isValue_59 ?_
                    first | exact ⟨by rw [bi_t (by simp [isVl]; omega)], rfl, rfl, rfl, rfl⟩ | exact ⟨by rw [bi_f (by simp [isVl]; omega)], rfl, rfl, rfl, rfl⟩
                  · refine R_iconst dX12_isValue_54 rfl rfl ?_
                    refine R_goto 59 dX12_isValue_55 (by decide) ?_
                    refine R_ireturn rfl (by first | rfl | exact nar_b2i | exact nar_bi) (by decide) (by decide) dX12_isValue_59 ?_
                    first | exact ⟨by rw [bi_t (by simp [isVl]; omega)], rfl, rfl, rfl, rfl⟩ | exact ⟨by rw [bi_f (by simp [isVl]; omega)], rfl, rfl, rfl, rfl⟩
theorem m_isClause (c : Int) : CT (mX12_isClause (rmD 0 0 0)) 0 0 shW [vI c] g z r (qP shW g z r (some (vI (bi (decide (c = 70 ∨ c = 102 ∨ c = 77 ∨ c = 109 ∨ c = 80 ∨ c = 81 ∨ c = 83 ∨ c = 68)))))) := by
  refine CT.of 0 rfl rfl ?_
  refine R_iload_n dX12_isClause_0 rfl ?_
  refine R_bipush dX12_isClause_1 rfl (by decide +kernel) ?_
  refine R_icmp_eq 48 dX12_isClause_3 (by decide) (fun hc3 => ?_) (fun hc3 => ?_)
  · refine R_iconst dX12_isClause_48 rfl rfl ?_
    refine R_goto 53 dX12_isClause_49 (by decide) ?_
    refine R_ireturn rfl (by first | rfl | exact nar_b2i | exact nar_bi) (by decide) (by decide) dX12_isClause_53 ?_
    first | exact ⟨by rw [bi_t (by rw [decide_eq_true_eq]; omega)], rfl, rfl, rfl, rfl⟩ | exact ⟨by rw [bi_f (by rw [decide_eq_true_eq]; omega)], rfl, rfl, rfl, rfl⟩
  · refine R_iload_n dX12_isClause_6 rfl ?_
    refine R_bipush dX12_isClause_7 rfl (by decide +kernel) ?_
    refine R_icmp_eq 48 dX12_isClause_9 (by decide) (fun hc9 => ?_) (fun hc9 => ?_)
    · refine R_iconst dX12_isClause_48 rfl rfl ?_
      refine R_goto 53 dX12_isClause_49 (by decide) ?_
      refine R_ireturn rfl (by first | rfl | exact nar_b2i | exact nar_bi) (by decide) (by decide) dX12_isClause_53 ?_
      first | exact ⟨by rw [bi_t (by rw [decide_eq_true_eq]; omega)], rfl, rfl, rfl, rfl⟩ | exact ⟨by rw [bi_f (by rw [decide_eq_true_eq]; omega)], rfl, rfl, rfl, rfl⟩
    · refine R_iload_n dX12_isClause_12 rfl ?_
      refine R_bipush dX12_isClause_13 rfl (by decide +kernel) ?_
      refine R_icmp_eq 48 dX12_isClause_15 (by decide) (fun hc15 => ?_) (fun hc15 => ?_)
      · refine R_iconst dX12_isClause_48 rfl rfl ?_
        refine R_goto 53 dX12_isClause_49 (by decide) ?_
        refine R_ireturn rfl (by first | rfl | exact nar_b2i | exact nar_bi) (by decide) (by decide) dX12_isClause_53 ?_
        first | exact ⟨by rw [bi_t (by rw [decide_eq_true_eq]; omega)], rfl, rfl, rfl, rfl⟩ | exact ⟨by rw [bi_f (by rw [decide_eq_true_eq]; omega)], rfl, rfl, rfl, rfl⟩
      · refine R_iload_n dX12_isClause_18 rfl ?_
        refine R_bipush dX12_isClause_19 rfl (by decide +kernel) ?_
        refine R_icmp_eq 48 dX12_isClause_21 (by decide) (fun hc21 => ?_) (fun hc21 => ?_)
        · refine R_iconst dX12_isClause_48 rfl rfl ?_
          refine R_goto 53 dX12_isClause_49 (by decide) ?_
          refine R_ireturn rfl (by first | rfl | exact nar_b2i | exact nar_bi) (by decide) (by decide) dX12_isClause_53 ?_
          first | exact ⟨by rw [bi_t (by rw [decide_eq_true_eq]; omega)], rfl, rfl, rfl, rfl⟩ | exact ⟨by rw [bi_f (by rw [decide_eq_true_eq]; omega)], rfl, rfl, rfl, rfl⟩
        · refine R_iload_n dX12_isClause_24 rfl ?_
          refine R_bipush dX12_isClause_25 rfl (by decide +kernel) ?_
          refine R_icmp_eq 48 dX12_isClause_27 (by decide) (fun hc27 => ?_) (fun hc27 => ?_)
          · refine R_iconst dX12_isClause_48 rfl rfl ?_
            refine R_goto 53 dX12_isClause_49 (by decide) ?_
            refine R_ireturn rfl (by first | rfl | exact nar_b2i | exact nar_bi) (by decide) (by decide) dX12_isClause_53 ?_
            first | exact ⟨by rw [bi_t (by rw [decide_eq_true_eq]; omega)], rfl, rfl, rfl, rfl⟩ | exact ⟨by rw [bi_f (by rw [decide_eq_true_eq]; omega)], rfl, rfl, rfl, rfl⟩
          · refine R_iload_n dX12_isClause_30 rfl ?_
            refine R_bipush dX12_isClause_31 rfl (by decide +kernel) ?_
            refine R_icmp_eq 48 dX12_isClause_33 (by decide) (fun hc33 => ?_) (fun hc33 => ?_)
            · refine R_iconst dX12_isClause_48 rfl rfl ?_
              refine R_goto 53 dX12_isClause_49 (by decide) ?_
              refine R_ireturn rfl (by first | rfl | exact nar_b2i | exact nar_bi) (by decide) (by decide) dX12_isClause_53 ?_
              first | exact ⟨by rw [bi_t (by rw [decide_eq_true_eq]; omega)], rfl, rfl, rfl, rfl⟩ | exact ⟨by rw [bi_f (by rw [decide_eq_true_eq]; omega)], rfl, rfl, rfl, rfl⟩
            · refine R_iload_n dX12_isClause_36 rfl ?_
              refine R_bipush dX12_isClause_37 rfl (by decide +kernel) ?_
              refine R_icmp_eq 48 dX12_isClause_39 (by decide) (fun hc39 => ?_) (fun hc39 => ?_)
              · refine R_iconst dX12_isClause_48 rfl rfl ?_
                refine R_goto 53 dX12_isClause_49 (by decide) ?_
                refine R_ireturn rfl (by first | rfl | exact nar_b2i | exact nar_bi) (by decide) (by decide) dX12_isClause_53 ?_
                first | exact ⟨by rw [bi_t (by rw [decide_eq_true_eq]; omega)], rfl, rfl, rfl, rfl⟩ | exact ⟨by rw [bi_f (by rw [decide_eq_true_eq]; omega)], rfl, rfl, rfl, rfl⟩
              · refine R_iload_n dX12_isClause_42 rfl ?_
                refine R_bipush dX12_isClause_43 rfl (by decide +kernel) ?_
                refine R_icmp_ne 52 dX12_isClause_45 (by decide) (fun hc45 => ?_) (fun hc45 => ?_)
                · refine R_iconst dX12_isClause_52 rfl rfl ?_
                  refine R_ireturn rfl (by first | rfl | exact nar_b2i | exact nar_bi) (by decide) (by decide) dX12_isClause_53 ?_
                  first | exact ⟨by rw [bi_t (by rw [decide_eq_true_eq]; omega)], rfl, rfl, rfl, rfl⟩ | exact ⟨by rw [bi_f (by rw [decide_eq_true_eq]; omega)], rfl, rfl, rfl, rfl⟩
                · refine R_iconst dX12_isClause_48 rfl rfl ?_
                  refine R_goto 53 dX12_isClause_49 (by decide) ?_
                  refine R_ireturn rfl (by first | rfl | exact nar_b2i | exact nar_bi) (by decide) (by decide) dX12_isClause_53 ?_
                  first | exact ⟨by rw [bi_t (by rw [decide_eq_true_eq]; omega)], rfl, rfl, rfl, rfl⟩ | exact ⟨by rw [bi_f (by rw [decide_eq_true_eq]; omega)], rfl, rfl, rfl, rfl⟩
end MRD1
