theorem rmOKk {M M' : MI} {k k' : Nat} (h : M.2.2.2.2 = rmD k 0 0) (h' : M'.2.2.2.2 = rmD k' 0 0) (hk : k' + 1 ≤ k) (hl : M'.2.2.1 ≤ 45) : rmOK M M' 0 0 0 0 := by
  unfold rmOK
  rw [h, h']
  refine ⟨rfl, rfl, ⟨hk, ?_⟩, ⟨Nat.le_refl _, Nat.le_refl _⟩⟩
  show 8 + (M'.2.2.1 + 11) + 64 * k' ≤ 64 * k
  omega
/-- the class's reader: at place p of a TEXT of N bytes, m steps in the draft -/
def CR (g : GG) (r : RR) (dc : Nat) (T : Nat → Int) (N p m : Nat) : Prop := (r 22 1 = some dc ∧ isCu dc) ∧ (g 22 2 = (N : Int) ∧ N ≤ 160) ∧ (∀ i, i < N → g 23 i = T i) ∧ (g 22 3 = (p : Int) ∧ p ≤ N) ∧ g 22 4 = 0 ∧ (g dc 5 = (m : Int) ∧ m ≤ p) ∧ ∀ j, j < 160 → 0 ≤ g (dc + 4) j ∧ g (dc + 4) j ≤ 100000
def TXT (T : Nat → Int) (N : Nat) : Prop := (∀ p, N ≤ p → T p = 0) ∧ ∀ p, 0 ≤ T p ∧ T p ≤ 255
def VBd (dc : Nat) (g : GG) : Prop := ∀ j, j < 160 → 0 ≤ g (dc + 4) j ∧ g (dc + 4) j ≤ 100000
def FrC (dc : Nat) (g g' : GG) : Prop := (∀ c', c' ≠ 22 → c' ≠ dc → c' ≠ dc + 3 → c' ≠ dc + 4 → g' c' = g c') ∧ (∀ k, k ≠ 3 → k ≠ 4 → g' 22 k = g 22 k) ∧ (∀ k, k ≠ 5 → g' dc k = g dc k) ∧ (VBd dc g → VBd dc g')
theorem FrC.rfl {dc : Nat} {g : GG} : FrC dc g g := ⟨fun _ _ _ _ _ => Eq.refl _, fun _ _ _ => Eq.refl _, fun _ _ => Eq.refl _, fun h => h⟩
theorem FrC.trans {dc : Nat} {g g1 g2 : GG} (h1 : FrC dc g g1) (h2 : FrC dc g1 g2) : FrC dc g g2 := ⟨fun c' a b c d => (h2.1 c' a b c d).trans (h1.1 c' a b c d), fun k a b => (h2.2.1 k a b).trans (h1.2.1 k a b), fun k a => (h2.2.2.1 k a).trans (h1.2.2.1 k a), fun h => h2.2.2.2 (h1.2.2.2 h)⟩
def lowSame (dc m : Nat) (g g' : GG) : Prop := ∀ j, j < m → g' (dc + 3) j = g (dc + 3) j ∧ g' (dc + 4) j = g (dc + 4) j
/-- what a reading leaves -/
def CPst (g g' : GG) (r : RR) (dc : Nat) (T : Nat → Int) (N m : Nat) (x : PX) (v : Option AV) : Prop := FrC dc g g' ∧ rstX x (fun f => v = some (vI 0) ∧ g' 22 4 = f) (fun p' b => v = some (vI 1) ∧ CR g' r dc T N p' (m + b.2.1.length) ∧ seg (g' (dc + 3)) (g' (dc + 4)) m (b.1 m) ∧ lowSame dc m g g')
def CtR (M : MI) (av : List AV) (op : Nat → PX) (r : RR) (dc : Nat) (T : Nat → Int) (N : Nat) : Prop := ∀ (g z : GG) (p m : Nat), CR g r dc T N p m → CT M 0 0 shW (vR (some 22) :: av) g z r (qG shW z r fun v g' => CPst g g' r dc T N m (op p) v)
theorem isCu_ne {c : Nat} (h : isCu c) : c ≠ 22 ∧ c ≠ 23 ∧ c + 3 ≠ 22 ∧ c + 3 ≠ 23 ∧ c + 4 ≠ 22 ∧ c + 4 ≠ 23 := by unfold isCu at h; omega
section RDC
variable {r : RR} {dc N : Nat} {T : Nat → Int}
theorem CR.at {g : GG} {p m : Nat} (h : CR g r dc T N p m) (hp : p + 1 ≤ N) : CR (up2 g 22 3 ((p + 1 : Nat) : Int)) r dc T N (p + 1) m := by
  obtain ⟨h1, h2, h3, h4, h5, h6, h7⟩ := h
  have hn := isCu_ne h1.2
  exact ⟨h1, ⟨by rw [up2_k (by decide)]; exact h2.1, h2.2⟩, fun i hi => by rw [up2_ne (by decide)]; exact h3 i hi, ⟨up2_s, hp⟩, by rw [up2_k (by decide)]; exact h5, ⟨by rw [up2_ne hn.1]; exact h6.1, by omega⟩, fun j hj => by rw [up2_ne hn.2.2.2.2.1]; exact h7 j hj⟩
theorem FrC.at {g : GG} {k : Nat} {v : Int} (hk : k = 3 ∨ k = 4) (hc : isCu dc) : FrC dc g (up2 g 22 k v) := ⟨fun c' a _ _ _ => up2_ne a, fun k' a b => up2_k (by omega), fun k' _ => by rw [up2_ne (isCu_ne hc).1], fun h j hj => by rw [up2_ne (isCu_ne hc).2.2.2.2.1]; exact h j hj⟩
variable {g z : GG}
theorem c_peek (hr : RS r) (hT : TXT T N) {p : Nat} (h2 : g 22 2 = (N : Int) ∧ N ≤ 160) (h3 : ∀ i, i < N → g 23 i = T i) (h4 : g 22 3 = (p : Int)) : CT (mX6_peek (rmD 0 0 0)) 0 0 shW [vR (some 22)] g z r (qP shW g z r (some (vI (T p)))) := by
  refine CT.of 0 rfl rfl ?_
  refine R_aload_n dX6_peek_0 rfl ?_
  refine R_getI fd6_3 kf6_38 rfl dX6_peek_1 ?_
  rw [h4]
  refine R_if_lt 30 dX6_peek_4 (by decide) (fun hc4 => ?_) (fun hc4 => ?_)
  · exact absurd hc4 (by omega)
  refine R_aload_n dX6_peek_7 rfl ?_
  refine R_getI fd6_3 kf6_38 rfl dX6_peek_8 ?_
  refine R_aload_n dX6_peek_11 rfl ?_
  refine R_getI fd6_2 kf6_28 rfl dX6_peek_12 ?_
  rw [h4, h2.1]
  refine R_icmp_ge 30 dX6_peek_15 (by decide) (fun hc15 => ?_) (fun hc15 => ?_)
  · refine R_iconst dX6_peek_30 rfl rfl ?_
    refine R_ireturn rfl (by first | rfl | exact nar_b2i | exact nar_bi) (by decide) (by decide) dX6_peek_31 ?_
    exact ⟨by rw [hT.1 p (by omega)], rfl, rfl, rfl, rfl⟩
  · refine R_aload_n dX6_peek_18 rfl ?_
    refine R_getR _ (hr _ _ _ rfl) fd6_0 kf6_9 rfl dX6_peek_19 ?_
    refine R_aload_n dX6_peek_22 rfl ?_
    refine R_getI fd6_3 kf6_38 rfl dX6_peek_23 ?_
    rw [h4]
    refine R_cald rfl (by omega) (by omega) dX6_peek_26 ?_
    rw [Int.toNat_natCast, h3 p (by omega)]
    refine R_goto 31 dX6_peek_27 (by decide) ?_
    refine R_ireturn rfl (by exact nar_ch' (hT.2 p)) (by decide) (by decide) dX6_peek_31 ?_
    exact ⟨rfl, rfl, rfl, rfl, rfl⟩
theorem CR.peek {p m : Nat} (hr : RS r) (hT : TXT T N) (h : CR g r dc T N p m) : CT (mX6_peek (rmD 0 0 0)) 0 0 shW [vR (some 22)] g z r (qP shW g z r (some (vI (T p)))) := c_peek hr hT h.2.1 h.2.2.1 h.2.2.2.1.1
theorem c_refuse (k p : Nat) (hk : k ≤ 9) (hp : p ≤ 160) (h4 : g 22 3 = (p : Int)) : CT (mX6_refuse (rmD 0 0 0)) 0 0 shW [vR (some 22), vI (k : Int)] g z r (qG shW z r fun v g' => v = some (vI 0) ∧ g' = up2 g 22 4 (-1000 * (k : Int) - (p : Int))) := by
  refine CT.of 0 rfl rfl ?_
  refine R_aload_n dX6_refuse_0 rfl ?_
  refine R_sipush dX6_refuse_1 rfl (by decide +kernel) ?_
  refine R_iload_n dX6_refuse_4 rfl ?_
  refine R_imulN dX6_refuse_5 (by unfold inI; omega) ?_
  refine R_aload_n dX6_refuse_6 rfl ?_
  refine R_getI fd6_3 kf6_38 rfl dX6_refuse_7 ?_
  rw [h4]
  refine R_isubN dX6_refuse_10 (by unfold inI; omega) ?_
  refine R_putI fd6_4 rfl kf6_40 rfl dX6_refuse_11 ?_
  refine R_iconst dX6_refuse_14 rfl rfl ?_
  refine R_ireturn rfl (by first | rfl | exact nar_b2i | exact nar_bi) (by decide) (by decide) dX6_refuse_15 ?_
  exact ⟨⟨rfl, rfl⟩, rfl, rfl, rfl⟩
theorem c_take (hr : RS r) (hT : TXT T N) {p m : Nat} (h : CR g r dc T N p m) (ch : Int) : CT (mX6_take (rmD 1 0 0)) 0 0 shW [vR (some 22), vI ch] g z r (qG shW z r fun v g' => (T p = ch ∧ v = some (vI 1) ∧ g' = up2 g 22 3 ((p + 1 : Nat) : Int)) ∨ (T p ≠ ch ∧ v = some (vI 0) ∧ g' = up2 g 22 4 (-1000 - (p : Int)))) := by
  have h4 := h.2.2.2.1
  have hN := h.2.1.2
  refine CT.of 0 rfl rfl ?_
  refine R_aload_n dX6_take_0 rfl ?_
  refine R_callV (h.peek hr hT) (mvX6_peek _) kiX6_peek kvX6_peek km6_54 rfl rfl (by decide) (rmOKk rfl rfl (by omega) (of_decide_eq_true rfl)) (Nat.le_of_ble_eq_true rfl) dX6_take_1 (fun v1 sh1 g1 z1 r1 hq => ?_)
  obtain ⟨rfl, rfl, rfl, rfl, rfl⟩ := hq
  refine R_iload_n dX6_take_4 rfl ?_
  refine R_icmp_eq 14 dX6_take_5 (by decide) (fun hc5 => ?_) (fun hc5 => ?_)
  · refine R_aload_n dX6_take_14 rfl ?_
    refine R_dup dX6_take_15 (fun _ h => by cases h) ?_
    refine R_getI fd6_3 kf6_38 rfl dX6_take_16 ?_
    rw [h4.1]
    refine R_iconst dX6_take_19 rfl rfl ?_
    refine R_iaddN dX6_take_20 (by unfold inI; omega) ?_
    refine R_putI fd6_3 rfl kf6_38 rfl dX6_take_21 ?_
    refine R_iconst dX6_take_24 rfl rfl ?_
    refine R_ireturn rfl (by first | rfl | exact nar_b2i | exact nar_bi) (by decide) (by decide) dX6_take_25 ?_
    exact ⟨Or.inl ⟨hc5, rfl, rfl⟩, rfl, rfl, rfl⟩
  · refine R_aload_n dX6_take_8 rfl ?_
    refine R_iconst dX6_take_9 rfl rfl ?_
    refine R_callV (c_refuse 1 p (by decide) (by omega) h4.1) (mvX6_refuse _) kiX6_refuse kvX6_refuse km6_58 rfl rfl (by decide) (rmOKk rfl rfl (by omega) (of_decide_eq_true rfl)) (Nat.le_of_ble_eq_true rfl) dX6_take_10 (fun v1 sh1 g1 z1 r1 hq => ?_)
    obtain ⟨⟨rfl, rfl⟩, rfl, rfl, rfl⟩ := hq
    refine R_ireturn rfl (by first | rfl | exact nar_b2i | exact nar_bi) (by decide) (by decide) dX6_take_13 ?_
    exact ⟨Or.inr ⟨hc5, rfl, rfl⟩, rfl, rfl, rfl⟩
theorem c_isDigit (c : Int) : CT (mX6_isDigit (rmD 0 0 0)) 0 0 shW [vI c] g z r (qP shW g z r (some (vI (bi (dig c))))) := by
  refine CT.of 0 rfl rfl ?_
  refine R_iload_n dX6_isDigit_0 rfl ?_
  refine R_bipush dX6_isDigit_1 rfl (by decide +kernel) ?_
  refine R_icmp_lt 16 dX6_isDigit_3 (by decide) (fun hc3 => ?_) (fun hc3 => ?_)
  · refine R_iconst dX6_isDigit_16 rfl rfl ?_
    refine R_ireturn rfl (by first | rfl | exact nar_b2i | exact nar_bi) (by decide) (by decide) dX6_isDigit_17 ?_
    exact ⟨by rw [bi_f (by unfold dig; rw [decide_eq_true_eq]; omega)], rfl, rfl, rfl, rfl⟩
  refine R_iload_n dX6_isDigit_6 rfl ?_
  refine R_bipush dX6_isDigit_7 rfl (by decide +kernel) ?_
  refine R_icmp_gt 16 dX6_isDigit_9 (by decide) (fun hc9 => ?_) (fun hc9 => ?_)
  · refine R_iconst dX6_isDigit_16 rfl rfl ?_
    refine R_ireturn rfl (by first | rfl | exact nar_b2i | exact nar_bi) (by decide) (by decide) dX6_isDigit_17 ?_
    exact ⟨by rw [bi_f (by unfold dig; rw [decide_eq_true_eq]; omega)], rfl, rfl, rfl, rfl⟩
  · refine R_iconst dX6_isDigit_12 rfl rfl ?_
    refine R_goto 17 dX6_isDigit_13 (by decide) ?_
    refine R_ireturn rfl (by first | rfl | exact nar_b2i | exact nar_bi) (by decide) (by decide) dX6_isDigit_17 ?_
    exact ⟨by rw [bi_t (by unfold dig; rw [decide_eq_true_eq]; omega)], rfl, rfl, rfl, rfl⟩
/-- one step more -/
def stp (g : GG) (dc m : Nat) (s v : Int) : GG := up2 (up2 (up2 g (dc + 3) m s) (dc + 4) m v) dc 5 ((m + 1 : Nat) : Int)
theorem c_addStep (hr : RS r) (hc : isCu dc) (m : Nat) (hm : m < 160) (h5 : g dc 5 = (m : Int)) (s v : Int) : CT (mX2_addStep (rmD 0 0 0)) 0 0 shW [vR (some dc), vI s, vI v] g z r (qG shW z r fun x g' => x = some (vI (m : Int)) ∧ g' = stp g dc m s v) := by
  refine CT.of 0 rfl rfl ?_
  have n3 : dc ≠ dc + 3 := by omega
  have n4 : dc ≠ dc + 4 := by omega
  refine R_aload_n dX2_addStep_0 rfl ?_
  refine R_getI fd2_5 kf2_27 (isCu_sh hc) dX2_addStep_1 ?_
  rw [h5]
  refine R_aload_n dX2_addStep_4 rfl ?_
  refine R_getR _ (isCu_r2 hr hc) fd2_2 kf2_18 (isCu_sh hc) dX2_addStep_5 ?_
  refine R_alen15 (isCu_s3 hc) (by decide) dX2_addStep_8 ?_
  refine R_icmp_lt 14 dX2_addStep_9 (by decide) (fun hc9 => ?_) (fun hc9 => ?_)
  rotate_left
  · exact absurd (by omega) hc9
  refine R_aload_n dX2_addStep_14 rfl ?_
  refine R_getR _ (isCu_r2 hr hc) fd2_2 kf2_18 (isCu_sh hc) dX2_addStep_15 ?_
  refine R_aload_n dX2_addStep_18 rfl ?_
  refine R_getI fd2_5 kf2_27 (isCu_sh hc) dX2_addStep_19 ?_
  rw [h5]
  refine R_iload_n dX2_addStep_22 rfl ?_
  refine R_iast (isCu_s3 hc) (by omega) (by omega) dX2_addStep_23 ?_
  try rw [Int.toNat_natCast]
  refine R_aload_n dX2_addStep_24 rfl ?_
  refine R_getR _ (isCu_r3 hr hc) fd2_3 kf2_21 (isCu_sh hc) dX2_addStep_25 ?_
  try simp +decide only [up2_far, up2_s, up2_kk]
  refine R_aload_n dX2_addStep_28 rfl ?_
  refine R_getI fd2_5 kf2_27 (isCu_sh hc) dX2_addStep_29 ?_
  try simp +decide only [up2_far, up2_s, up2_kk]
  rw [up2_ne n3, h5]
  refine R_iload_n dX2_addStep_32 rfl ?_
  refine R_iast (isCu_s4 hc) (by omega) (by omega) dX2_addStep_33 ?_
  try rw [Int.toNat_natCast]
  refine R_aload_n dX2_addStep_34 rfl ?_
  refine R_dup dX2_addStep_35 (fun _ h => by cases h) ?_
  refine R_getI fd2_5 kf2_27 (isCu_sh hc) dX2_addStep_36 ?_
  try simp +decide only [up2_far, up2_s, up2_kk]
  rw [up2_ne n4, up2_ne n3, h5]
  refine R_iconst dX2_addStep_39 rfl rfl ?_
  refine R_iaddN dX2_addStep_40 (by unfold inI; omega) ?_
  refine R_putI fd2_5 rfl kf2_27 (isCu_sh hc) dX2_addStep_41 ?_
  refine R_aload_n dX2_addStep_44 rfl ?_
  refine R_getI fd2_5 kf2_27 (isCu_sh hc) dX2_addStep_45 ?_
  try simp +decide only [up2_far, up2_s, up2_kk]
  refine R_iconst dX2_addStep_48 rfl rfl ?_
  refine R_isubN dX2_addStep_49 (by unfold inI; omega) ?_
  refine R_ireturn rfl (by first | rfl | exact nar_b2i | exact nar_bi) (by decide) (by decide) dX2_addStep_50 ?_
  exact ⟨⟨by rw [show (m : Int) + 1 - 1 = (m : Int) by omega], rfl⟩, rfl, rfl, rfl⟩
theorem c_leadHere (hr : RS r) (hc : isCu dc) (j m : Nat) (hj : j < m) (hm : m ≤ 160) (h5 : g dc 5 = (m : Int)) : CT (mX2_leadHere (rmD 0 0 0)) 0 0 shW [vR (some dc), vI (j : Int)] g z r (qG shW z r fun x g' => x = none ∧ g' = up2 g (dc + 4) j (m : Int)) := by
  refine CT.of 0 rfl rfl ?_
  refine R_iload_n dX2_leadHere_0 rfl ?_
  refine R_if_lt 22 dX2_leadHere_1 (by decide) (fun hc1 => ?_) (fun hc1 => ?_)
  · exact absurd hc1 (by omega)
  refine R_iload_n dX2_leadHere_4 rfl ?_
  refine R_aload_n dX2_leadHere_5 rfl ?_
  refine R_getI fd2_5 kf2_27 (isCu_sh hc) dX2_leadHere_6 ?_
  rw [h5]
  refine R_icmp_ge 22 dX2_leadHere_9 (by decide) (fun hc9 => ?_) (fun hc9 => ?_)
  · exact absurd hc9 (by omega)
  refine R_aload_n dX2_leadHere_12 rfl ?_
  refine R_getR _ (isCu_r3 hr hc) fd2_3 kf2_21 (isCu_sh hc) dX2_leadHere_13 ?_
  refine R_iload_n dX2_leadHere_16 rfl ?_
  refine R_aload_n dX2_leadHere_17 rfl ?_
  refine R_getI fd2_5 kf2_27 (isCu_sh hc) dX2_leadHere_18 ?_
  rw [h5]
  refine R_iast (isCu_s4 hc) (by omega) (by omega) dX2_leadHere_21 ?_
  try rw [Int.toNat_natCast]
  refine R_return rfl (by decide) (by decide) dX2_leadHere_22 ?_
  exact ⟨⟨rfl, rfl⟩, rfl, rfl, rfl⟩
theorem c_endClause (hr : RS r) (hc : isCu dc) (k m : Nat) (hk : k < 12) (h5 : g dc 5 = (m : Int)) (h6 : g dc 6 = (k : Int)) (l : Int) : CT (mX2_endClause (rmD 0 0 0)) 0 0 shW [vR (some dc), vI l] g z r (qG shW z r fun x g' => x = none ∧ g' = up2 (up2 (up2 g (dc + 1) k l) (dc + 2) k (m : Int)) dc 6 ((k + 1 : Nat) : Int)) := by
  refine CT.of 0 rfl rfl ?_
  have n1 : dc ≠ dc + 1 := by omega
  have n2 : dc ≠ dc + 2 := by omega
  refine R_aload_n dX2_endClause_0 rfl ?_
  refine R_getI fd2_6 kf2_31 (isCu_sh hc) dX2_endClause_1 ?_
  rw [h6]
  refine R_aload_n dX2_endClause_4 rfl ?_
  refine R_getR _ (isCu_r0 hr hc) fd2_0 kf2_9 (isCu_sh hc) dX2_endClause_5 ?_
  refine R_alen15 (isCu_s1 hc) (by decide) dX2_endClause_8 ?_
  refine R_icmp_ge 45 dX2_endClause_9 (by decide) (fun hc9 => ?_) (fun hc9 => ?_)
  · exact absurd hc9 (by omega)
  refine R_aload_n dX2_endClause_12 rfl ?_
  refine R_getR _ (isCu_r0 hr hc) fd2_0 kf2_9 (isCu_sh hc) dX2_endClause_13 ?_
  refine R_aload_n dX2_endClause_16 rfl ?_
  refine R_getI fd2_6 kf2_31 (isCu_sh hc) dX2_endClause_17 ?_
  rw [h6]
  refine R_iload_n dX2_endClause_20 rfl ?_
  refine R_iast (isCu_s1 hc) (by omega) (by omega) dX2_endClause_21 ?_
  try rw [Int.toNat_natCast]
  refine R_aload_n dX2_endClause_22 rfl ?_
  refine R_getR _ (isCu_r1 hr hc) fd2_1 kf2_15 (isCu_sh hc) dX2_endClause_23 ?_
  try simp +decide only [up2_far, up2_s, up2_kk]
  refine R_aload_n dX2_endClause_26 rfl ?_
  refine R_getI fd2_6 kf2_31 (isCu_sh hc) dX2_endClause_27 ?_
  try simp +decide only [up2_far, up2_s, up2_kk]
  rw [up2_ne n1, h6]
  refine R_aload_n dX2_endClause_30 rfl ?_
  refine R_getI fd2_5 kf2_27 (isCu_sh hc) dX2_endClause_31 ?_
  rw [up2_ne n1, h5]
  refine R_iast (isCu_s2 hc) (by omega) (by omega) dX2_endClause_34 ?_
  try rw [Int.toNat_natCast]
  refine R_aload_n dX2_endClause_35 rfl ?_
  refine R_dup dX2_endClause_36 (fun _ h => by cases h) ?_
  refine R_getI fd2_6 kf2_31 (isCu_sh hc) dX2_endClause_37 ?_
  try simp +decide only [up2_far, up2_s, up2_kk]
  rw [up2_ne n2, up2_ne n1, h6]
  refine R_iconst dX2_endClause_40 rfl rfl ?_
  refine R_iaddN dX2_endClause_41 (by unfold inI; omega) ?_
  refine R_putI fd2_6 rfl kf2_31 (isCu_sh hc) dX2_endClause_42 ?_
  refine R_return rfl (by decide) (by decide) dX2_endClause_45 ?_
  exact ⟨⟨rfl, rfl⟩, rfl, rfl, rfl⟩
theorem stp_Fr (hc : isCu dc) {m : Nat} {s v : Int} (hv : 0 ≤ v ∧ v ≤ 100000) : FrC dc g (stp g dc m s v) := by
  have hn := isCu_ne hc
  unfold stp
  refine ⟨fun c' a b c d => by rw [up2_ne b, up2_ne d, up2_ne c], fun k a b => by rw [up2_ne hn.1.symm, up2_ne hn.2.2.2.2.1.symm, up2_ne hn.2.2.1.symm], fun k a => by rw [up2_k a, up2_ne (by omega), up2_ne (by omega)], fun h j hj => ?_⟩
  rw [up2_ne (by omega)]
  by_cases hjm : j = m
  · subst hjm; rw [up2_s]; exact hv
  · rw [up2_k hjm, up2_ne (by omega)]; exact h j hj
theorem CR_stp {p m : Nat} {s v : Int} (h : CR g r dc T N p m) (hm : m + 1 ≤ p) (hv : 0 ≤ v ∧ v ≤ 100000) : CR (stp g dc m s v) r dc T N p (m + 1) := by
  obtain ⟨h1, h2, h3, h4, h5, h6, h7⟩ := h
  have hn := isCu_ne h1.2
  have fr := stp_Fr (g := g) h1.2 (m := m) (s := s) (v := v) hv
  have e22 : ∀ k, stp g dc m s v 22 k = g 22 k := fun k => by unfold stp; rw [up2_ne hn.1.symm, up2_ne hn.2.2.2.2.1.symm, up2_ne hn.2.2.1.symm]
  refine ⟨h1, ⟨by rw [e22]; exact h2.1, h2.2⟩, fun i hi => by rw [fr.1 23 (by decide) hn.2.1.symm hn.2.2.2.1.symm hn.2.2.2.2.2.symm]; exact h3 i hi, ⟨by rw [e22]; exact h4.1, h4.2⟩, by rw [e22]; exact h5, ⟨up2_s, hm⟩, fun j hj => ?_⟩
  unfold stp
  rw [up2_ne (by omega)]
  by_cases hjm : j = m
  · subst hjm; rw [up2_s]; exact hv
  · rw [up2_k hjm, up2_ne (by omega)]; exact h7 j hj
theorem stp_low {m : Nat} {s v : Int} : lowSame dc m g (stp g dc m s v) := by
  intro j hj
  unfold stp
  refine ⟨?_, ?_⟩
  · rw [up2_ne (by omega), up2_ne (by omega), up2_k (by omega)]
  · rw [up2_ne (by omega), up2_k (by omega), up2_ne (by omega)]
theorem stp_at {m : Nat} {s v : Int} : stp g dc m s v (dc + 3) m = s ∧ stp g dc m s v (dc + 4) m = v := by
  unfold stp
  refine ⟨?_, ?_⟩
  · rw [up2_ne (by omega), up2_ne (by omega), up2_s]
  · rw [up2_ne (by omega), up2_s]
theorem seg_low {g g' : GG} {m n : Nat} {L : List (Int × Int)} (hs : seg (g (dc + 3)) (g (dc + 4)) m L) (h : lowSame dc n g g') (hl : m + L.length ≤ n) : seg (g' (dc + 3)) (g' (dc + 4)) m L := by
  intro i q hi
  have hil := (List.getElem?_eq_some_iff.mp hi).1
  obtain ⟨e1, e2⟩ := h (m + i) (by omega)
  rw [e1, e2]
  exact hs i q hi
theorem lowSame.trans {m n : Nat} {g g1 g2 : GG} (h1 : lowSame dc m g g1) (h2 : lowSame dc n g1 g2) (hmn : m ≤ n) : lowSame dc m g g2 := fun j hj => ⟨((h2 j (by omega)).1).trans (h1 j hj).1, ((h2 j (by omega)).2).trans (h1 j hj).2⟩
theorem lowSame.rfl {m : Nat} {g : GG} : lowSame dc m g g := fun _ _ => ⟨Eq.refl _, Eq.refl _⟩
theorem lowAt {m k : Nat} {g : GG} {v : Int} (hc : isCu dc) : lowSame dc m g (up2 g 22 k v) := fun j _ => ⟨by rw [up2_ne (isCu_ne hc).2.2.1], by rw [up2_ne (isCu_ne hc).2.2.2.2.1]⟩
theorem c_number (hr : RS r) (hT : TXT T N) {p m : Nat} (h : CR g r dc T N p m) (hm : m < 160) (hd : dig (T p) = true) : CT (mX6_number (rmD 1 0 0)) 0 0 shW [vR (some 22)] g z r (qG shW z r fun v g' => CPst g g' r dc T N m (nmbP T p) v) := by
  have hc := h.1.2
  have hN := h.2.1.2
  have hplt : p < N := txt_lt hT.1 (fun e => by rw [e] at hd; cases hd)
  refine CT.of 2 rfl rfl ?_
  generalize hQ : (qG shW z r fun v g' => CPst g g' r dc T N m (nmbP T p) v) = Q
  have fin : ∀ (v : Int) (p1 : Nat) (a2 : Option AV) (g1 : GG), numP T 5 p 0 = (p1, v) → p < p1 → (0 ≤ v ∧ v ≤ 99999) → FrC dc g g1 → CR g1 r dc T N p1 m → lowSame dc m g g1 → RJ (mX6_number (rmD 1 0 0)) 0 0 shW.length Q 0 0 shW 48 [some (vR (some 22)), some (vI v), a2] [] g1 z r := by
    intro v p1 a2 g1 hn hpp hv f1 h1 l1
    have h4 := h1.2.2.2.1
    refine R_aload_n dX6_number_48 rfl ?_
    refine R_callV (h1.peek hr hT) (mvX6_peek _) kiX6_peek kvX6_peek km6_54 rfl rfl (by decide) (rmOKk rfl rfl (by omega) (of_decide_eq_true rfl)) (Nat.le_of_ble_eq_true rfl) dX6_number_49 (fun v1 sh1 g2 z1 r1 hq => ?_)
    obtain ⟨rfl, rfl, rfl, rfl, rfl⟩ := hq
    refine R_callS (c_isDigit (T p1)) (mvX6_isDigit _) ksX6_isDigit km6_110 (rmOKk rfl rfl (by omega) (of_decide_eq_true rfl)) (Nat.le_of_ble_eq_true rfl) dX6_number_52 (fun v1 sh1 g2 z1 r1 hq => ?_)
    obtain ⟨rfl, rfl, rfl, rfl, rfl⟩ := hq
    by_cases hd1 : dig (T p1) = true
    · rw [bi_t hd1]
      refine R_if_eq 64 dX6_number_55 (by decide) (fun hc55 => ?_) (fun hc55 => ?_)
      · exact absurd hc55 (by decide)
      refine R_aload_n dX6_number_58 rfl ?_
      refine R_iconst dX6_number_59 rfl rfl ?_
      refine R_callV (c_refuse 2 p1 (by decide) (by omega) h4.1) (mvX6_refuse _) kiX6_refuse kvX6_refuse km6_58 rfl rfl (by decide) (rmOKk rfl rfl (by omega) (of_decide_eq_true rfl)) (Nat.le_of_ble_eq_true rfl) dX6_number_60 (fun v1 sh1 g2 z1 r1 hq => ?_)
      obtain ⟨⟨rfl, rfl⟩, rfl, rfl, rfl⟩ := hq
      refine R_ireturn rfl (by first | rfl | exact nar_b2i | exact nar_bi) (by decide) (by decide) dX6_number_63 ?_
      rw [← hQ]
      refine ⟨⟨f1.trans (FrC.at (Or.inr rfl) hc), ?_⟩, rfl, rfl, rfl⟩
      unfold nmbP
      rw [hn, if_pos hd1]
      exact ⟨rfl, by rw [up2_s]; omega⟩
    · rw [bi_f hd1]
      refine R_if_eq 64 dX6_number_55 (by decide) (fun hc55 => ?_) (fun hc55 => ?_)
      rotate_left
      · exact absurd rfl hc55
      refine R_aload_n dX6_number_64 rfl ?_
      refine R_getR _ (h.1.1) fd6_1 kf6_18 rfl dX6_number_65 ?_
      refine R_bipush dX6_number_68 rfl (by decide +kernel) ?_
      refine R_iload_n dX6_number_70 rfl ?_
      refine R_callV (c_addStep hr hc m hm h1.2.2.2.2.2.1.1 48 v) (mvX2_addStep _) kiX2_addStep kvX2_addStep km6_95 (isCu_sh hc) rfl (by decide) (rmOKk rfl rfl (by omega) (of_decide_eq_true rfl)) (Nat.le_of_ble_eq_true rfl) dX6_number_71 (fun v1 sh1 g2 z1 r1 hq => ?_)
      obtain ⟨⟨rfl, rfl⟩, rfl, rfl, rfl⟩ := hq
      refine R_pop dX6_number_74 (fun _ h => by cases h) ?_
      refine R_iconst dX6_number_75 rfl rfl ?_
      refine R_ireturn rfl (by first | rfl | exact nar_b2i | exact nar_bi) (by decide) (by decide) dX6_number_76 ?_
      rw [← hQ]
      have hmp := h.2.2.2.2.2.1.2
      refine ⟨⟨f1.trans (stp_Fr hc (by omega)), ?_⟩, rfl, rfl, rfl⟩
      unfold nmbP
      rw [hn, if_neg hd1]
      refine ⟨rfl, CR_stp h1 (by omega) (by omega), ?_, l1.trans stp_low (Nat.le_refl _)⟩
      intro i q hi
      match i, hi with
      | 0, hi => cases hi; exact stp_at
  have loop : ∀ (n k : Nat) (v : Int) (p1 : Nat) (g1 : GG), k + n = 5 → p1 = p + k → (0 ≤ v ∧ v < 10 ^ k) → FrC dc g g1 → CR g1 r dc T N p1 m → lowSame dc m g g1 → numP T n p1 v = numP T 5 p 0 → RJ (mX6_number (rmD 1 0 0)) 0 0 shW.length Q 0 0 shW 4 [some (vR (some 22)), some (vI (v)), some (vI ((k : Int)))] [] g1 z r := by
    intro n
    induction n with
    | zero =>
      intro k v p1 g1 hk hp1 hv f1 h1 l1 hn
      have hk5 : k = 5 := by omega
      subst hk5
      refine R_iload_n dX6_number_4 rfl ?_
      refine R_iconst dX6_number_5 rfl rfl ?_
      refine R_icmp_ge 48 dX6_number_6 (by decide) (fun hc6 => ?_) (fun hc6 => ?_)
      · exact fin v p1 _ g1 hn.symm (by omega) (by omega) f1 h1 l1
      · exact absurd (by decide) hc6
    | succ n ih =>
      intro k v p1 g1 hk hp1 hv f1 h1 l1 hn
      have h4 := h1.2.2.2.1
      have hTb := hT.2 p1
      have h10 : (10 : Int) ^ k ≤ 10 ^ 4 := by
        have : k = 0 ∨ k = 1 ∨ k = 2 ∨ k = 3 ∨ k = 4 := by omega
        rcases this with rfl | rfl | rfl | rfl | rfl <;> decide
      have h10' : (10 : Int) ^ (k + 1) = 10 ^ k * 10 := Int.pow_succ _ _
      have h104 : (10 : Int) ^ 4 = 10000 := by decide
      rw [numP] at hn
      refine R_iload_n dX6_number_4 rfl ?_
      refine R_iconst dX6_number_5 rfl rfl ?_
      refine R_icmp_ge 48 dX6_number_6 (by decide) (fun hc6 => ?_) (fun hc6 => ?_)
      · exact absurd hc6 (by omega)
      refine R_aload_n dX6_number_9 rfl ?_
      refine R_callV (h1.peek hr hT) (mvX6_peek _) kiX6_peek kvX6_peek km6_54 rfl rfl (by decide) (rmOKk rfl rfl (by omega) (of_decide_eq_true rfl)) (Nat.le_of_ble_eq_true rfl) dX6_number_10 (fun v1 sh1 g2 z1 r1 hq => ?_)
      obtain ⟨rfl, rfl, rfl, rfl, rfl⟩ := hq
      refine R_callS (c_isDigit (T p1)) (mvX6_isDigit _) ksX6_isDigit km6_110 (rmOKk rfl rfl (by omega) (of_decide_eq_true rfl)) (Nat.le_of_ble_eq_true rfl) dX6_number_13 (fun v1 sh1 g2 z1 r1 hq => ?_)
      obtain ⟨rfl, rfl, rfl, rfl, rfl⟩ := hq
      by_cases hd1 : dig (T p1) = true
      · rw [bi_t hd1]
        rw [if_pos hd1] at hn
        have hlt : p1 < N := txt_lt hT.1 (fun e => by rw [e] at hd1; cases hd1)
        unfold dig at hd1
        rw [decide_eq_true_eq] at hd1
        refine R_if_eq 48 dX6_number_16 (by decide) (fun hc16 => ?_) (fun hc16 => ?_)
        · exact absurd hc16 (by decide)
        refine R_iload_n dX6_number_19 rfl ?_
        refine R_bipush dX6_number_20 rfl (by decide +kernel) ?_
        refine R_imulN dX6_number_22 (by unfold inI; omega) ?_
        refine R_aload_n dX6_number_23 rfl ?_
        refine R_callV (h1.peek hr hT) (mvX6_peek _) kiX6_peek kvX6_peek km6_54 rfl rfl (by decide) (rmOKk rfl rfl (by omega) (of_decide_eq_true rfl)) (Nat.le_of_ble_eq_true rfl) dX6_number_24 (fun v1 sh1 g2 z1 r1 hq => ?_)
        obtain ⟨rfl, rfl, rfl, rfl, rfl⟩ := hq
        refine R_iaddN dX6_number_27 (by unfold inI; omega) ?_
        refine R_bipush dX6_number_28 rfl (by decide +kernel) ?_
        refine R_isubN dX6_number_30 (by unfold inI; omega) ?_
        refine R_istore_n dX6_number_31 (of_decide_eq_true rfl) rfl [_, _, _] rfl ?_
        refine R_aload_n dX6_number_32 rfl ?_
        refine R_dup dX6_number_33 (fun _ h => by cases h) ?_
        refine R_getI fd6_3 kf6_38 rfl dX6_number_34 ?_
        rw [h4.1]
        refine R_iconst dX6_number_37 rfl rfl ?_
        refine R_iaddN dX6_number_38 (by unfold inI; omega) ?_
        refine R_putI fd6_3 rfl kf6_38 rfl dX6_number_39 ?_
        refine R_iincN dX6_number_42 rfl (of_decide_eq_true rfl) rfl (by unfold inI; omega) [_, _, _] rfl ?_
        refine R_goto 4 dX6_number_45 (by decide) ?_
        refine ih (k + 1) (v * 10 + T p1 - 48) (p1 + 1) _ (by omega) (by omega) (by omega) (f1.trans (FrC.at (Or.inl rfl) hc)) (h1.at (by omega)) (l1.trans (lowAt hc) (Nat.le_refl _)) ?_
        rw [← hn, Int.mul_comm]
      · rw [bi_f hd1]
        rw [if_neg hd1] at hn
        refine R_if_eq 48 dX6_number_16 (by decide) (fun hc16 => ?_) (fun hc16 => ?_)
        · have hk0 : 0 < k := by
            apply Nat.pos_of_ne_zero
            intro e
            subst e
            rw [hp1] at hd1
            exact hd1 hd
          exact fin v p1 _ g1 hn.symm (by omega) (by omega) f1 h1 l1
        · exact absurd rfl hc16
  refine R_iconst dX6_number_0 rfl rfl ?_
  refine R_istore_n dX6_number_1 (of_decide_eq_true rfl) rfl [_, _, _] rfl ?_
  refine R_iconst dX6_number_2 rfl rfl ?_
  refine R_istore_n dX6_number_3 (of_decide_eq_true rfl) rfl [_, _, _] rfl ?_
  exact loop 5 0 0 p g rfl rfl (by decide) FrC.rfl h lowSame.rfl rfl
end RDC
