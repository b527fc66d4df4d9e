section RDC2
variable {r : RR} {dc N : Nat} {T : Nat → Int} {g z : GG}
theorem c_signsOf (kind : Nat) (hk : kind < 4) : CT (mX6_signsOf (rmD 0 0 0)) 0 0 shW [vI (kind : Int)] g z r (qP shW g z r (some (vR (some (100000 + (2 + kind)))))) := by
  refine CT.of 0 rfl rfl ?_
  refine R_iload_n dX6_signsOf_0 rfl ?_
  refine R_ts [28, 31, 34] 37 dX6_signsOf_1 (by decide) (by decide) (by decide) (fun i1 t1 ht1 ha1 => ?_) (fun hc1 => ?_)
  · match i1, ht1 with
    | 0, ht1 =>
      cases ht1
      have e : kind = 0 := by omega
      subst e
      refine R_ldcS (i := 2) (by decide) (fun _ _ h => h.1.2.2.2.2.1) dX6_signsOf_28 ?_
      refine R_areturn rfl (by first | exact Or.inl ⟨_, rfl⟩ | exact Or.inr ⟨_, rfl⟩) (by decide) (by decide) dX6_signsOf_30 ?_
      exact ⟨rfl, rfl, rfl, rfl, rfl⟩
    | 1, ht1 =>
      cases ht1
      have e : kind = 1 := by omega
      subst e
      refine R_ldcS (i := 3) (by decide) (fun _ _ h => h.1.2.2.2.2.2.1) dX6_signsOf_31 ?_
      refine R_areturn rfl (by first | exact Or.inl ⟨_, rfl⟩ | exact Or.inr ⟨_, rfl⟩) (by decide) (by decide) dX6_signsOf_33 ?_
      exact ⟨rfl, rfl, rfl, rfl, rfl⟩
    | 2, ht1 =>
      cases ht1
      have e : kind = 2 := by omega
      subst e
      refine R_ldcS (i := 4) (by decide) (fun _ _ h => h.1.2.2.2.2.2.2.1) dX6_signsOf_34 ?_
      refine R_areturn rfl (by first | exact Or.inl ⟨_, rfl⟩ | exact Or.inr ⟨_, rfl⟩) (by decide) (by decide) dX6_signsOf_36 ?_
      exact ⟨rfl, rfl, rfl, rfl, rfl⟩
    | n1 + 3, ht1 => exact absurd (List.getElem?_eq_some_iff.mp ht1).1 (by simp)
  · have e : kind = 3 := by omega
    subst e
    refine R_ldcS (i := 5) (by decide) (fun _ _ h => h.1.2.2.2.2.2.2.2) dX6_signsOf_37 ?_
    refine R_areturn rfl (by first | exact Or.inl ⟨_, rfl⟩ | exact Or.inr ⟨_, rfl⟩) (by decide) (by decide) dX6_signsOf_39 ?_
    exact ⟨rfl, rfl, rfl, rfl, rfl⟩
theorem ix_ok {kind : Nat} (hk : kind < 4) (c : Int) : okS kind c = true ↔ 0 ≤ ixF c (txL (2 + kind)) 0 := by
  have e : kind = 0 ∨ kind = 1 ∨ kind = 2 ∨ kind = 3 := by omega
  rcases e with rfl | rfl | rfl | rfl
  · show okS 0 c = true ↔ 0 ≤ ixF c [124] 0
    simp only [okS, ixF, if_pos, decide_eq_true_eq]
    split <;> omega
  · show okS 1 c = true ↔ 0 ≤ ixF c [38] 0
    simp only [okS, ixF, decide_eq_true_eq]
    split <;> simp <;> omega
  · show okS 2 c = true ↔ 0 ≤ ixF c [43, 45] 0
    simp only [okS, ixF, decide_eq_true_eq]
    split
    · simp; omega
    · split <;> simp <;> omega
  · show okS 3 c = true ↔ 0 ≤ ixF c [42, 47, 37] 0
    simp only [okS, ixF, decide_eq_true_eq]
    split
    · simp; omega
    · split
      · simp; omega
      · split <;> simp <;> omega
theorem c_chain (hr : RS r) (hT : TXT T N) {kind : Nat} (hk : kind < 4) {o : Int} {k : Nat} (hk3 : 3 ≤ k) {mk : Int → BN → BN → BN} (hmk : mk = if kind < 2 then bJmp else bBin) {op : Nat → PX} (hN : N ≤ 160) (hpg : PG N (fun b => ∀ f, (b.1 f).length = b.2.1.length) op) (hop : CtR (mX6_operand (rmD k 0 0)) [vI (kind : Int), vI o] op r dc T N) : CtR (mX6_chain (rmD (k + 1) 0 0)) [vI (kind : Int), vI o] (chn T (okS kind) mk op) r dc T N := by
  intro g z p m H
  have hc := H.1.2
  have hd := H.1.1
  have hp := H.2.2.2.1.2
  have hmp := H.2.2.2.2.2.1.2
  have hn := isCu_ne hc
  have hcb : ∀ c, (mk c : BN → BN → BN) = if kind < 2 then bJmp c else bBin c := fun c => by rw [hmk]; split <;> rfl
  refine CT.of 5 rfl rfl ?_
  have hrp : r 22 1 = some dc := hd
  generalize hX : chn T (okS kind) mk op p = Xr
  generalize hQ : (qG shW z r fun v g' => CPst g g' r dc T N m Xr v) = Q
  have done : ∀ (g1 : GG) (p1 : Nat) (a : BN) (ls : List (Option AV)), Xr = .inr (p1, a) → FrC dc g g1 → CR g1 r dc T N p1 (m + a.2.1.length) → seg (g1 (dc + 3)) (g1 (dc + 4)) m (a.1 m) → lowSame dc m g g1 → RJ (mX6_chain (rmD (k + 1) 0 0)) 0 0 shW.length Q 0 0 shW 137 ls [] g1 z r := by
    intro g1 p1 a ls hx f1 h1 s1 l1
    refine R_iconst dX6_chain_137 rfl rfl ?_
    refine R_ireturn rfl (by first | rfl | exact nar_b2i | exact nar_bi) (by decide) (by decide) dX6_chain_138 ?_
    rw [← hQ, hx]
    exact ⟨⟨f1, rfl, h1, s1, l1⟩, rfl, rfl, rfl⟩
  have fail : ∀ (g1 : GG) (f : Int), Xr = .inl f → FrC dc g g1 → g1 22 4 = f → Q (some (vI 0)) shW g1 z r := by
    intro g1 f hx f1 h1
    rw [← hQ, hx]
    exact ⟨⟨f1, rfl, h1⟩, rfl, rfl, rfl⟩
  have loop : ∀ (n t p1 : Nat) (a : BN) (g1 : GG) (a5 a6 a7 : Option AV), t + n = 200 → t ≤ p1 → p + a.2.1.length ≤ p1 → (∀ f, (a.1 f).length = a.2.1.length) → FrC dc g g1 → CR g1 r dc T N p1 (m + a.2.1.length) → seg (g1 (dc + 3)) (g1 (dc + 4)) m (a.1 m) → lowSame dc m g g1 → lop T (okS kind) mk op n p1 a = Xr → RJ (mX6_chain (rmD (k + 1) 0 0)) 0 0 shW.length Q 0 0 shW 19 [some (vR (some 22)), some (vI (kind : Int)), some (vI o), some (vR (some (100000 + (2 + kind)))), some (vI (t : Int)), a5, a6, a7] [] g1 z r := by
    intro n
    induction n with
    | zero =>
      intro t p1 a g1 a5 a6 a7 ht htp hap ha f1 h1 s1 l1 hx
      have := h1.2.2.2.1.2
      omega
    | succ n ih =>
      intro t p1 a g1 a5 a6 a7 ht htp hap ha f1 h1 s1 l1 hx
      have h2 := h1.2.1
      have h4 := h1.2.2.2.1
      have h6 := h1.2.2.2.2.2.1
      have hTb := hT.2 p1
      rw [lop] at hx
      refine R_iload dX6_chain_19 rfl ?_
      refine R_aload_n dX6_chain_21 rfl ?_
      refine R_getI fd6_2 kf6_28 rfl dX6_chain_22 ?_
      rw [h2.1]
      refine R_icmp_ge 137 dX6_chain_25 (by decide) (fun hc25 => ?_) (fun hc25 => ?_)
      · have hz : T p1 = 0 := hT.1 p1 (by omega)
        rw [hz, okS0, if_neg (by decide)] at hx
        exact done g1 p1 a _ hx.symm f1 h1 s1 l1
      refine R_aload_n dX6_chain_28 rfl ?_
      refine R_aload_n dX6_chain_29 rfl ?_
      refine R_callV (h1.peek hr hT) (mvX6_peek _) kiX6_peek kvX6_peek km6_54 rfl rfl (by decide) (rmOKk rfl rfl (by omega) (of_decide_eq_true rfl)) (Nat.le_of_ble_eq_true rfl) dX6_chain_30 (fun v1 sh1 g2 z1 r1 hq => ?_)
      obtain ⟨rfl, rfl, rfl, rfl, rfl⟩ := hq
      refine R_callT (as := [vI (T p1)]) (show 2 + kind < 6 by omega) (j_indexOf (2 + kind) (by omega) (T p1) hTb) rfl (mvJ0_indexOf_0f7a4 _) kiJ0_indexOf_0f7a4 kvJ0_indexOf_0f7a4 km6_64 (rmOKk rfl rfl (by omega) (of_decide_eq_true rfl)) (Nat.le_of_ble_eq_true rfl) dX6_chain_33 (fun v1 sh1 g2 z1 r1 hq => ?_)
      obtain ⟨rfl, rfl, rfl, rfl, rfl⟩ := hq
      have hix := ix_ok hk (T p1)
      refine R_if_lt 137 dX6_chain_36 (by decide) (fun hc36 => ?_) (fun hc36 => ?_)
      · rw [if_neg (fun q => by have := hix.mp q; omega)] at hx
        exact done g1 p1 a _ hx.symm f1 h1 s1 l1
      have hok : okS kind (T p1) = true := hix.mpr (by omega)
      have hlt : p1 < N := txt_lt hT.1 (fun e => by rw [e, okS0] at hok; cases hok)
      rw [if_pos hok] at hx
      refine R_aload_n dX6_chain_39 rfl ?_
      refine R_callV (h1.peek hr hT) (mvX6_peek _) kiX6_peek kvX6_peek km6_54 rfl rfl (by decide) (rmOKk rfl rfl (by omega) (of_decide_eq_true rfl)) (Nat.le_of_ble_eq_true rfl) dX6_chain_40 (fun v1 sh1 g2 z1 r1 hq => ?_)
      obtain ⟨rfl, rfl, rfl, rfl, rfl⟩ := hq
      refine R_istore dX6_chain_43 (of_decide_eq_true rfl) rfl [_, _, _, _, _, _, _, _] rfl ?_
      refine R_aload_n dX6_chain_45 rfl ?_
      refine R_dup dX6_chain_46 (fun _ h => by cases h) ?_
      refine R_getI fd6_3 kf6_38 rfl dX6_chain_47 ?_
      rw [h4.1]
      refine R_iconst dX6_chain_50 rfl rfl ?_
      refine R_iaddN dX6_chain_51 (by unfold inI; omega) ?_
      refine R_putI fd6_3 rfl kf6_38 rfl dX6_chain_52 ?_
      rw [show (p1 : Int) + 1 = ((p1 + 1 : Nat) : Int) by omega]
      have h1' := h1.at (show p1 + 1 ≤ N by omega)
      have f1' := f1.trans (FrC.at (g := g1) (v := ((p1 + 1 : Nat) : Int)) (Or.inl rfl) hc)
      have l1' := l1.trans (lowAt (m := m) (k := 3) (g := g1) (v := ((p1 + 1 : Nat) : Int)) hc) (Nat.le_refl _)
      have s1' : seg (up2 g1 22 3 ((p1 + 1 : Nat) : Int) (dc + 3)) (up2 g1 22 3 ((p1 + 1 : Nat) : Int) (dc + 4)) m (a.1 m) := by rw [up2_ne hn.2.2.1, up2_ne hn.2.2.2.2.1]; exact s1
      generalize up2 g1 22 3 ((p1 + 1 : Nat) : Int) = g1' at *
      have h6' := h1'.2.2.2.2.2.1
      by_cases hj : kind < 2
      · have at64 : ∀ a6 a7, RJ (mX6_chain (rmD (k + 1) 0 0)) 0 0 shW.length Q 0 0 shW 64 [some (vR (some 22)), some (vI (kind : Int)), some (vI o), some (vR (some (100000 + (2 + kind)))), some (vI (t : Int)), some (vI (T p1)), a6, a7] [] g1' z r := by
          intro a6 a7
          refine R_iconst dX6_chain_64 rfl rfl ?_
          refine R_goto 69 dX6_chain_65 (by decide) ?_
          refine R_istore dX6_chain_69 (of_decide_eq_true rfl) rfl [_, _, _, _, _, _, _, _] rfl ?_
          refine R_iload dX6_chain_71 rfl ?_
          refine R_if_eq 89 dX6_chain_73 (by decide) (fun hc73 => ?_) (fun hc73 => ?_)
          · exact absurd hc73 (by decide)
          refine R_aload_n dX6_chain_76 rfl ?_
          refine R_getR _ (hrp) fd6_1 kf6_18 rfl dX6_chain_77 ?_
          refine R_iload dX6_chain_80 rfl ?_
          refine R_iconst dX6_chain_82 rfl rfl ?_
          refine R_callV (c_addStep hr hc (m + a.2.1.length) (by omega) h6'.1 (T p1) 0) (mvX2_addStep _) kiX2_addStep kvX2_addStep km6_95 (isCu_sh hc) rfl (by decide) (rmOKk rfl rfl (by omega) (of_decide_eq_true rfl)) (Nat.le_of_ble_eq_true rfl) dX6_chain_83 (fun v1 sh1 g2 z1 r1 hq => ?_)
          obtain ⟨⟨rfl, rfl⟩, rfl, rfl, rfl⟩ := hq
          have h2' := CR_stp (s := T p1) (v := 0) h1' (by omega) (by decide)
          have f2' := f1'.trans (stp_Fr (g := g1') hc (m := m + a.2.1.length) (s := T p1) (v := 0) (by decide))
          have l2' := l1'.trans (stp_low (dc := dc) (g := g1') (m := m + a.2.1.length) (s := T p1) (v := 0)) (by omega)
          have s2' := seg_low s1' (stp_low (dc := dc) (g := g1') (m := m + a.2.1.length) (s := T p1) (v := 0)) (by rw [ha]; omega)
          have at2 := stp_at (dc := dc) (g := g1') (m := m + a.2.1.length) (s := T p1) (v := 0)
          generalize stp g1' dc (m + a.2.1.length) (T p1) 0 = g2' at *
          refine R_goto 90 dX6_chain_86 (by decide) ?_
          refine R_istore dX6_chain_90 (of_decide_eq_true rfl) rfl [_, _, _, _, _, _, _, _] rfl ?_
          refine R_aload_n dX6_chain_92 rfl ?_
          refine R_iload_n dX6_chain_93 rfl ?_
          refine R_iload_n dX6_chain_94 rfl ?_
          refine R_callV (hop g2' _ (p1 + 1) (m + a.2.1.length + 1) h2') (mvX6_operand _) kiX6_operand kvX6_operand km6_88 rfl rfl (by decide) (rmOKk rfl rfl (by omega) (of_decide_eq_true rfl)) (Nat.le_of_ble_eq_true rfl) dX6_chain_95 (fun v1 sh1 g3 z1 r1 hq => ?_)
          obtain ⟨⟨f3, o3⟩, rfl, rfl, rfl⟩ := hq
          cases hx2 : op (p1 + 1) with
          | inl f =>
            rw [hx2] at o3 hx
            obtain ⟨rfl, h34⟩ := o3
            refine R_if_ne 103 dX6_chain_98 (by decide) (fun hc98 => ?_) (fun hc98 => ?_)
            · exact absurd rfl hc98
            refine R_iconst dX6_chain_101 rfl rfl ?_
            refine R_ireturn rfl (by first | rfl | exact nar_b2i | exact nar_bi) (by decide) (by decide) dX6_chain_102 ?_
            exact fail g3 f hx.symm (f2'.trans f3) h34
          | inr q =>
            obtain ⟨p2, b⟩ := q
            rw [hx2] at o3 hx
            obtain ⟨rfl, h3, s3, l3⟩ := o3
            have h3 : CR g3 r dc T N p2 (m + a.2.1.length + 1 + b.2.1.length) := h3
            obtain ⟨r1, r2, r3, r4⟩ := (hpg (p1 + 1) (by omega)).2 p2 b hx2
            have h36 := h3.2.2.2.2.2.1
            refine R_if_ne 103 dX6_chain_98 (by decide) (fun hc98 => ?_) (fun hc98 => ?_)
            rotate_left
            · exact absurd hc98 (by decide)
            refine R_iload dX6_chain_103 rfl ?_
            refine R_if_eq 120 dX6_chain_105 (by decide) (fun hc105 => ?_) (fun hc105 => ?_)
            · exact absurd hc105 (by decide)
            refine R_aload_n dX6_chain_108 rfl ?_
            refine R_getR _ (hrp) fd6_1 kf6_18 rfl dX6_chain_109 ?_
            refine R_iload dX6_chain_112 rfl ?_
            refine R_callV (c_leadHere hr hc (m + a.2.1.length) (m + a.2.1.length + 1 + b.2.1.length) (by omega) (by omega) h36.1) (mvX2_leadHere _) kiX2_leadHere kvX2_leadHere km6_98 (isCu_sh hc) rfl (by decide) (rmOKk rfl rfl (by omega) (of_decide_eq_true rfl)) (Nat.le_of_ble_eq_true rfl) dX6_chain_114 (fun v1 sh1 g4 z1 r1 hq => ?_)
            obtain ⟨⟨rfl, rfl⟩, rfl, rfl, rfl⟩ := hq
            refine R_goto 131 dX6_chain_117 (by decide) ?_
            refine R_iincN dX6_chain_131 rfl (of_decide_eq_true rfl) rfl (by unfold inI; omega) [_, _, _, _, _, _, _, _] rfl ?_
            refine R_goto 19 dX6_chain_134 (by decide) ?_
            have hmkc : mk (T p1) a b = bJmp (T p1) a b := by rw [hcb, if_pos hj]
            have hlen : (bJmp (T p1) a b).2.1.length = a.2.1.length + (b.2.1.length + 1) := by simp [bJmp]
            have hx : lop T (okS kind) mk op n p2 (mk (T p1) a b) = Xr := hx
            rw [hmkc] at hx
            have fr4 : FrC dc g3 (up2 g3 (dc + 4) (m + a.2.1.length) ((m + a.2.1.length + 1 + b.2.1.length : Nat) : Int)) := ⟨fun c' _ _ _ e => up2_ne e, fun k _ _ => by rw [up2_ne hn.2.2.2.2.1.symm], fun k _ => by rw [up2_ne (by omega)], fun h j hj => by
              by_cases hjm : j = m + a.2.1.length
              · subst hjm; rw [up2_s]; omega
              · rw [up2_k hjm]; exact h j hj⟩
            refine ih (t + 1) p2 (bJmp (T p1) a b) _ _ _ _ (by omega) (by omega) (by rw [hlen]; omega) (fun f => by simp only [bJmp, List.length_append, List.length_cons, List.length_nil, ha, r4]) ((f2'.trans f3).trans fr4) ?_ ?_ ?_ hx
            · obtain ⟨q1, q2, q3, q4, q5, q6, q7⟩ := h3
              refine ⟨q1, ⟨by rw [up2_ne hn.2.2.2.2.1.symm]; exact q2.1, q2.2⟩, fun i hi => by rw [up2_ne hn.2.2.2.2.2.symm]; exact q3 i hi, ⟨by rw [up2_ne hn.2.2.2.2.1.symm]; exact q4.1, q4.2⟩, by rw [up2_ne hn.2.2.2.2.1.symm]; exact q5, ⟨by rw [up2_ne (by omega), q6.1, hlen]; congr 1; omega, by rw [hlen]; omega⟩, fun j hj => ?_⟩
              by_cases hjm : j = m + a.2.1.length
              · subst hjm; rw [up2_s]; omega
              · rw [up2_k hjm]; exact q7 j hj
            · show seg _ _ m (a.1 m ++ ((T p1, ((m + a.2.1.length + 1 + b.2.1.length : Nat) : Int)) :: b.1 (m + a.2.1.length + 1)))
              rw [up2_ne (show dc + 3 ≠ dc + 4 by omega), seg_app, seg_cons, ha]
              have s3a := seg_low s2' l3 (by rw [ha]; omega)
              refine ⟨fun i q hi => ?_, ⟨?_, ?_⟩, fun i q hi => ?_⟩
              · have hil := (List.getElem?_eq_some_iff.mp hi).1
                rw [ha] at hil
                rw [up2_k (by omega)]
                exact s3a i q hi
              · rw [(l3 _ (by omega)).1]; exact at2.1
              · exact up2_s
              · rw [up2_k (by omega)]
                exact s3 i q hi
            · intro j hj
              have := (l2'.trans l3 (by omega)) j hj
              rw [up2_ne (show dc + 3 ≠ dc + 4 by omega), up2_k (by omega)]
              exact this
        refine R_iload_n dX6_chain_55 rfl ?_
        refine R_if_eq 64 dX6_chain_56 (by decide) (fun hc56 => ?_) (fun hc56 => ?_)
        · exact at64 _ _
        refine R_iload_n dX6_chain_59 rfl ?_
        refine R_iconst dX6_chain_60 rfl rfl ?_
        refine R_icmp_ne 68 dX6_chain_61 (by decide) (fun hc61 => ?_) (fun hc61 => ?_)
        · exact absurd hc61 (by omega)
        · exact at64 _ _
      · refine R_iload_n dX6_chain_55 rfl ?_
        refine R_if_eq 64 dX6_chain_56 (by decide) (fun hc56 => ?_) (fun hc56 => ?_)
        · exact absurd hc56 (by omega)
        refine R_iload_n dX6_chain_59 rfl ?_
        refine R_iconst dX6_chain_60 rfl rfl ?_
        refine R_icmp_ne 68 dX6_chain_61 (by decide) (fun hc61 => ?_) (fun hc61 => ?_)
        rotate_left
        · exact absurd hc61 (by omega)
        refine R_iconst dX6_chain_68 rfl rfl ?_
        refine R_istore dX6_chain_69 (of_decide_eq_true rfl) rfl [_, _, _, _, _, _, _, _] rfl ?_
        refine R_iload dX6_chain_71 rfl ?_
        refine R_if_eq 89 dX6_chain_73 (by decide) (fun hc73 => ?_) (fun hc73 => ?_)
        rotate_left
        · exact absurd rfl hc73
        refine R_iconst dX6_chain_89 rfl rfl ?_
        refine R_istore dX6_chain_90 (of_decide_eq_true rfl) rfl [_, _, _, _, _, _, _, _] rfl ?_
        refine R_aload_n dX6_chain_92 rfl ?_
        refine R_iload_n dX6_chain_93 rfl ?_
        refine R_iload_n dX6_chain_94 rfl ?_
        refine R_callV (hop g1' _ (p1 + 1) (m + a.2.1.length) h1') (mvX6_operand _) kiX6_operand kvX6_operand km6_88 rfl rfl (by decide) (rmOKk rfl rfl (by omega) (of_decide_eq_true rfl)) (Nat.le_of_ble_eq_true rfl) dX6_chain_95 (fun v1 sh1 g3 z1 r1 hq => ?_)
        obtain ⟨⟨f3, o3⟩, rfl, rfl, rfl⟩ := hq
        cases hx2 : op (p1 + 1) with
        | inl f =>
          rw [hx2] at o3 hx
          obtain ⟨rfl, h34⟩ := o3
          refine R_if_ne 103 dX6_chain_98 (by decide) (fun hc98 => ?_) (fun hc98 => ?_)
          · exact absurd rfl hc98
          refine R_iconst dX6_chain_101 rfl rfl ?_
          refine R_ireturn rfl (by first | rfl | exact nar_b2i | exact nar_bi) (by decide) (by decide) dX6_chain_102 ?_
          exact fail g3 f hx.symm (f1'.trans f3) h34
        | inr q =>
          obtain ⟨p2, b⟩ := q
          rw [hx2] at o3 hx
          obtain ⟨rfl, h3, s3, l3⟩ := o3
          have h3 : CR g3 r dc T N p2 (m + a.2.1.length + b.2.1.length) := h3
          obtain ⟨r1, r2, r3, r4⟩ := (hpg (p1 + 1) (by omega)).2 p2 b hx2
          have h36 := h3.2.2.2.2.2.1
          refine R_if_ne 103 dX6_chain_98 (by decide) (fun hc98 => ?_) (fun hc98 => ?_)
          rotate_left
          · exact absurd hc98 (by decide)
          refine R_iload dX6_chain_103 rfl ?_
          refine R_if_eq 120 dX6_chain_105 (by decide) (fun hc105 => ?_) (fun hc105 => ?_)
          rotate_left
          · exact absurd rfl hc105
          refine R_aload_n dX6_chain_120 rfl ?_
          refine R_getR _ (hrp) fd6_1 kf6_18 rfl dX6_chain_121 ?_
          refine R_iload dX6_chain_124 rfl ?_
          refine R_iconst dX6_chain_126 rfl rfl ?_
          refine R_callV (c_addStep hr hc (m + a.2.1.length + b.2.1.length) (by omega) h36.1 (T p1) 0) (mvX2_addStep _) kiX2_addStep kvX2_addStep km6_95 (isCu_sh hc) rfl (by decide) (rmOKk rfl rfl (by omega) (of_decide_eq_true rfl)) (Nat.le_of_ble_eq_true rfl) dX6_chain_127 (fun v1 sh1 g4 z1 r1 hq => ?_)
          obtain ⟨⟨rfl, rfl⟩, rfl, rfl, rfl⟩ := hq
          refine R_pop dX6_chain_130 (fun _ h => by cases h) ?_
          refine R_iincN dX6_chain_131 rfl (of_decide_eq_true rfl) rfl (by unfold inI; omega) [_, _, _, _, _, _, _, _] rfl ?_
          refine R_goto 19 dX6_chain_134 (by decide) ?_
          have hmkc : mk (T p1) a b = bBin (T p1) a b := by rw [hcb, if_neg hj]
          have hlen : (bBin (T p1) a b).2.1.length = a.2.1.length + (b.2.1.length + 1) := by simp [bBin]
          have hx : lop T (okS kind) mk op n p2 (mk (T p1) a b) = Xr := hx
          rw [hmkc] at hx
          have h4' := CR_stp (s := T p1) (v := 0) h3 (by omega) (by decide)
          have l4 := stp_low (dc := dc) (g := g3) (m := m + a.2.1.length + b.2.1.length) (s := T p1) (v := 0)
          have at4 := stp_at (dc := dc) (g := g3) (m := m + a.2.1.length + b.2.1.length) (s := T p1) (v := 0)
          refine ih (t + 1) p2 (bBin (T p1) a b) _ _ _ _ (by omega) (by omega) (by rw [hlen]; omega) (fun f => by simp only [bBin, List.length_append, List.length_cons, List.length_nil, ha, r4]) ((f1'.trans f3).trans (stp_Fr hc (by decide))) (by rw [hlen, show m + (a.2.1.length + (b.2.1.length + 1)) = m + a.2.1.length + b.2.1.length + 1 by omega]; exact h4') ?_ ((l1'.trans l3 (by omega)).trans l4 (by omega)) hx
          show seg _ _ m (a.1 m ++ (b.1 (m + a.2.1.length) ++ [(T p1, 0)]))
          rw [seg_app, seg_app, seg_cons, ha, r4]
          exact ⟨seg_low (seg_low s1' l3 (by rw [ha]; omega)) l4 (by rw [ha]; omega), seg_low s3 l4 (by rw [r4]; omega), at4, fun i q hi => by cases hi⟩
  refine R_aload_n dX6_chain_0 rfl ?_
  refine R_iload_n dX6_chain_1 rfl ?_
  refine R_iload_n dX6_chain_2 rfl ?_
  refine R_callV (hop g z p m H) (mvX6_operand _) kiX6_operand kvX6_operand km6_88 rfl rfl (by decide) (rmOKk rfl rfl (by omega) (of_decide_eq_true rfl)) (Nat.le_of_ble_eq_true rfl) dX6_chain_3 (fun v1 sh1 g1 z1 r1 hq => ?_)
  obtain ⟨⟨f1, o1⟩, rfl, rfl, rfl⟩ := hq
  unfold chn at hX
  cases hx1 : op p with
  | inl f =>
    rw [hx1] at o1 hX
    obtain ⟨rfl, h14⟩ := o1
    refine R_if_ne 11 dX6_chain_6 (by decide) (fun hc6 => ?_) (fun hc6 => ?_)
    · exact absurd rfl hc6
    refine R_iconst dX6_chain_9 rfl rfl ?_
    refine R_ireturn rfl (by first | rfl | exact nar_b2i | exact nar_bi) (by decide) (by decide) dX6_chain_10 ?_
    exact fail g1 f hX.symm f1 h14
  | inr q =>
    obtain ⟨p1, a⟩ := q
    rw [hx1] at o1 hX
    obtain ⟨rfl, h1, s1, l1⟩ := o1
    obtain ⟨r1, r2, r3, r4⟩ := (hpg p hp).2 p1 a hx1
    refine R_if_ne 11 dX6_chain_6 (by decide) (fun hc6 => ?_) (fun hc6 => ?_)
    rotate_left
    · exact absurd hc6 (by decide)
    refine R_iload_n dX6_chain_11 rfl ?_
    refine R_callS (c_signsOf kind hk) (mvX6_signsOf _) ksX6_signsOf km6_91 (rmOKk rfl rfl (by omega) (of_decide_eq_true rfl)) (Nat.le_of_ble_eq_true rfl) dX6_chain_12 (fun v1 sh1 g2 z1 r1 hq => ?_)
    obtain ⟨rfl, rfl, rfl, rfl, rfl⟩ := hq
    refine R_astore_n dX6_chain_15 (of_decide_eq_true rfl) rfl [_, _, _, _, _, _, _, _] rfl ?_
    refine R_iconst dX6_chain_16 rfl rfl ?_
    refine R_istore dX6_chain_17 (of_decide_eq_true rfl) rfl [_, _, _, _, _, _, _, _] rfl ?_
    exact loop 200 0 p1 a g1 _ _ _ rfl (by omega) r3 r4 f1 h1 s1 l1 hX
end RDC2
