theorem fewU_cong {s : VW} {A : Nat → Nat → Int} {hw hw' : Nat → Int} {c : Nat} {l : List Nat} {sex : Int} : ∀ (n : Nat), (∀ j x, j < n → sx s (l.getD j 0) = sex → okM s A hw c l j x = okM s A hw' c l j x) → fewU s A hw c l sex n = fewU s A hw' c l sex n := by
  have adv : ∀ (f f' : Nat → Bool), (∀ x, f x = f' x) → ∀ (m x : Nat), advM f m x = advM f' m x := by
    intro f f' h m
    have : f = f' := funext h
    subst this
    intro x; rfl
  intro n
  induction n with
  | zero => intro _; rfl
  | succ n ih =>
    intro h
    unfold fewU
    rw [ih (fun j x hj => h j x (by omega))]
    split
    · rename_i hs; exact adv _ _ (fun x => h n x (by omega) hs) _ _
    · rfl
theorem okM_hw {s : VW} {K : Nat → CUS} {a b Y : Int} {c : Nat} {l : List Nat} {j x : Nat} {hw hw' : Nat → Int} {sex : Nat} (hsex : sex < 2) (hs : sx s (l.getD j 0) = (sex : Int)) (h1 : hw sex = hw' sex) (h2 : hw (sex + 2) = hw' (sex + 2)) : okM s (ltA s K a b Y c l) hw c l j x = okM s (ltA s K a b Y c l) hw' c l j x := by
  have key : duM s hw c l j (ltA s K a b Y c l j x) = duM s hw' c l j (ltA s K a b Y c l j x) := by
    unfold duM
    rcases fF_bit (K := selK K a b Y (s 9 (l.getD j 0))) (th := thS s l j) (e := facA s c l j x) with h | ⟨q, hq, hb⟩
    · have : ltA s K a b Y c l j x = -1 := h
      rw [this]; rfl
    · have e : ltA s K a b Y c l j x = (q : Int) := hq
      rw [e]
      by_cases q4 : q < 4
      · have := thS_par (by omega) hb q4
        rw [hs] at this
        have hqq : q = sex ∨ q = sex + 2 := by omega
        have n0 : ¬ (q : Int) < 0 := by omega
        have p4 : (q : Int) < 4 := by omega
        simp only [n0, p4, if_true, if_false, Int.toNat_natCast]
        rcases hqq with rfl | rfl
        · exact h1
        · exact h2
      · have n0 : ¬ (q : Int) < 0 := by omega
        have n4 : ¬ (q : Int) < 4 := by omega
        simp only [n0, n4, if_false]
  unfold okM
  rw [key]
section MUST3
variable {g z : GG} {r : RR}
theorem c_X3_missing (K : Nat → CUS) (H : FP g r K) (c : Nat) (hc6 : (c : Int) < g 5 5) (hgc : g 32 7 = (c : Int)) (l : List Nat) (hl : FamIs g l) (hm : ∀ a ∈ l, a < 10) (hll : l.length ≤ 10) (u : Nat) (hu : u = 30 ∨ u = 31) (sex : Nat) (hsex : sex < 2) : CT (mX3_missing (rmD 5 0 0)) 0 0 shW [vR (some 32), vI (sex : Int), vR (some u)] g z r (qG shW z r fun v g' => v = some (vI (if 5 < muS (vC g) K (g u 1) (g u 2) (g u 3) c l sex then -2 else (muS (vC g) K (g u 1) (g u 2) (g u 3) c l sex : Int))) ∧ SC g g') := by
  obtain ⟨hr, hT, hB, hB2, hN, hC5, hF, ho, hK⟩ := id H
  refine CT.of 3 rfl rfl ?_
  have emu : muS (vC g) K (g u 1) (g u 2) (g u 3) c l sex = mOut (vC g) (fun his hers => fewU (vC g) (ltA (vC g) K (g u 1) (g u 2) (g u 3) c l) (hw2 sex his hers) c l (sex : Int) l.length) c sex (g 2 2).toNat := rfl
  rw [emu]
  generalize hfw : (fun his hers => fewU (vC g) (ltA (vC g) K (g u 1) (g u 2) (g u 3) c l) (hw2 sex his hers) c l (sex : Int) l.length) = F
  have hF6 : ∀ a b, F a b ≤ 6 := fun a b => by rw [← hfw]; exact fewU_le _
  generalize hQ : (qG shW z r fun v g' => v = some (vI (if 5 < mOut (vC g) F c sex (g 2 2).toNat then -2 else (mOut (vC g) F c sex (g 2 2).toNat : Int))) ∧ SC g g') = Q
  have mInle : ∀ (his n acc : Nat), acc ≤ 6 → mIn (vC g) F c sex his n acc ≤ 6 := by
    intro his n
    induction n with
    | zero => intro acc h; exact h
    | succ n ih =>
      intro acc h
      unfold mIn
      have := ih acc h
      have := hF6 his n
      split
      · split <;> omega
      · omega
  have mOutle : ∀ n, mOut (vC g) F c sex n ≤ 6 := by
    intro n
    induction n with
    | zero => simp [mOut]
    | succ n ih => exact mInle _ _ _ ih
  refine R_aload_n dX3_missing_0 rfl ?_
  refine R_aload_n dX3_missing_1 rfl ?_
  refine R_callV (c_X3_foresee K H c hc6 hgc l hl hm hll u hu) (mvX3_foresee _) kiX3_foresee kvX3_foresee km3_169 rfl rfl (by decide) ⟨rfl, rfl, by decide, by decide⟩ (Nat.le_of_ble_eq_true rfl) dX3_missing_2 (fun v1 sh1 g1 z1 r1 hq => ?_)
  obtain ⟨⟨rfl, o1, o2⟩, rfl, rfl, rfl⟩ := hq
  have S1 : SC g g1 := fun c' a b => o1 c' a (by omega)
  -- what holds of every heap from here on: but for cells 34 and 36 as g1
  have hcong : ∀ g2 : GG, (∀ c', c' ≠ 34 → c' ≠ 36 → g2 c' = g1 c') → SC g g2 ∧ vC g2 = vC g ∧ BD g2 ∧ FamIs g2 l ∧ g2 32 7 = (c : Int) ∧ (∀ j x, j < l.length → x ≤ 5 → g2 38 (j * 6 + x) = ltA (vC g) K (g u 1) (g u 2) (g u 3) c l j x) ∧ (∀ j, j < l.length → g2 35 j = ddN (vC g) (l.getD j 0) (l.take j)) ∧ g2 2 = g 2 ∧ g2 5 = g 5 := by
    intro g2 h
    have S2 : SC g g2 := fun c' a b => (h c' (by omega) (by omega)).trans (S1 c' a b)
    refine ⟨S2, S2.vC, (H.cong S2).2.2.1, FamIs_cong (by rw [h 32 (by decide) (by decide), o1 32 (by unfold stc; omega) (by omega)]) ((h 33 (by decide) (by decide)).trans (o1 33 (by unfold stc; omega) (by omega))) hl, by rw [h 32 (by decide) (by decide), o1 32 (by unfold stc; omega) (by omega)]; exact hgc, fun j x hj hx => by rw [h 38 (by decide) (by decide)]; exact (o2 j hj).2 x hx, fun j hj => by rw [h 35 (by decide) (by decide)]; exact (o2 j hj).1, S2 2 (by unfold stc; omega) (by omega), S2 5 (by unfold stc; omega) (by omega)⟩
  have inner : ∀ (his : Nat), (his : Int) < g 2 2 → ∀ (n hers : Nat) (g2 : GG), (hers : Int) + n = g 2 2 → (∀ c', c' ≠ 34 → c' ≠ 36 → g2 c' = g1 c') → (∀ g3 : GG, (∀ c', c' ≠ 34 → c' ≠ 36 → g3 c' = g1 c') → ∀ a5, RJ (mX3_missing (rmD 5 0 0)) 0 0 shW.length Q 0 0 shW 100 [some (vR (some 32)), some (vI (sex : Int)), some (vR (some u)), some (vI (mIn (vC g) F c sex his (g 2 2).toNat (mOut (vC g) F c sex his) : Nat)), some (vI (his : Int)), a5] [] g3 z r) → RJ (mX3_missing (rmD 5 0 0)) 0 0 shW.length Q 0 0 shW 29 [some (vR (some 32)), some (vI (sex : Int)), some (vR (some u)), some (vI (mIn (vC g) F c sex his hers (mOut (vC g) F c sex his) : Nat)), some (vI (his : Int)), some (vI (hers : Int))] [] g2 z r := by
    intro his hhis n
    induction n with
    | zero =>
      intro hers g2 hh q1 hk
      obtain ⟨k0, k1, k2, k3, k4, k5, k6, k7, k8⟩ := hcong g2 q1
      refine R_iload dX3_missing_29 rfl ?_
      refine R_aload_n dX3_missing_31 rfl ?_
      refine R_getR _ (hr _ _ _ rfl) fd3_0 kf3_38 rfl dX3_missing_32 ?_
      refine R_getR _ (hr _ _ _ rfl) fd0_0 kf3_136 rfl dX3_missing_35 ?_
      refine R_getI fd5_2 kf3_160 rfl dX3_missing_38 ?_
      rw [k7]
      refine R_icmp_ge 100 dX3_missing_41 (by decide) (fun hc41 => ?_) (fun hc41 => ?_)
      · have := hk g2 q1 (some (vI (hers : Int)))
        rw [show (g 2 2).toNat = hers by omega] at this
        exact this
      · exact absurd (by omega) hc41
    | succ n ih =>
      intro hers g2 hh q1 hk
      obtain ⟨k0, k1, k2, k3, k4, k5, k6, k7, k8⟩ := hcong g2 q1
      have hn := fun g3 q3 => ih (hers + 1) g3 (by omega) q3 hk
      rw [mIn] at hn
      have hml := mInle his hers (mOut (vC g) F c sex his) (mOutle his)
      refine R_iload dX3_missing_29 rfl ?_
      refine R_aload_n dX3_missing_31 rfl ?_
      refine R_getR _ (hr _ _ _ rfl) fd3_0 kf3_38 rfl dX3_missing_32 ?_
      refine R_getR _ (hr _ _ _ rfl) fd0_0 kf3_136 rfl dX3_missing_35 ?_
      refine R_getI fd5_2 kf3_160 rfl dX3_missing_38 ?_
      rw [k7]
      refine R_icmp_ge 100 dX3_missing_41 (by decide) (fun hc41 => ?_) (fun hc41 => ?_)
      · exact absurd hc41 (by omega)
      refine R_aload_n dX3_missing_44 rfl ?_
      refine R_iload_n dX3_missing_45 rfl ?_
      refine R_iload dX3_missing_46 rfl ?_
      refine R_callV (c_X3_mayHold hr (by rw [k7]; exact hN) (by rw [k8]; exact hC5) c (by rw [k8]; exact hc6) k4 sex (by omega) (his : Int)) (mvX3_mayHold _) kiX3_mayHold kvX3_mayHold km3_172 rfl rfl (by decide) ⟨rfl, rfl, by decide, by decide⟩ (Nat.le_of_ble_eq_true rfl) dX3_missing_48 (fun v1 sh1 g1 z1 r1 hq => ?_)
      obtain ⟨rfl, rfl, rfl, rfl, rfl⟩ := hq
      rw [k1]
      by_cases hm1 : mhS (vC g) c sex (his : Int) = true
      · rw [bi_t hm1]
        rw [hm1, Bool.true_and] at hn
        refine R_if_eq 94 dX3_missing_51 (by decide) (fun hc51 => ?_) (fun hc51 => ?_)
        · exact absurd hc51 (by decide)
        refine R_aload_n dX3_missing_54 rfl ?_
        refine R_iload_n dX3_missing_55 rfl ?_
        refine R_iconst dX3_missing_56 rfl rfl ?_
        refine R_iaddN dX3_missing_57 (by unfold inI; omega) ?_
        refine R_iload dX3_missing_58 rfl ?_
        refine R_callV (c_X3_mayHold hr (by rw [k7]; exact hN) (by rw [k8]; exact hC5) c (by rw [k8]; exact hc6) k4 (sex + 2) (by omega) (hers : Int)) (mvX3_mayHold _) kiX3_mayHold kvX3_mayHold km3_172 rfl rfl (by decide) ⟨rfl, rfl, by decide, by decide⟩ (Nat.le_of_ble_eq_true rfl) dX3_missing_60 (fun v1 sh1 g3 z1 r1 hq => ?_)
        obtain ⟨rfl, rfl, rfl, rfl, rfl⟩ := hq
        rw [k1]
        by_cases hm2 : mhS (vC g) c (sex + 2) (hers : Int) = true
        · rw [bi_t hm2]
          rw [if_pos hm2] at hn
          refine R_if_eq 94 dX3_missing_63 (by decide) (fun hc63 => ?_) (fun hc63 => ?_)
          · exact absurd hc63 (by decide)
          refine R_aload_n dX3_missing_66 rfl ?_
          refine R_getR _ (hr _ _ _ rfl) fd3_4 kf3_21 rfl dX3_missing_67 ?_
          refine R_iload_n dX3_missing_70 rfl ?_
          refine R_iload dX3_missing_71 rfl ?_
          refine R_iast rfl (by omega) (by omega) dX3_missing_73 ?_
          refine R_aload_n dX3_missing_74 rfl ?_
          refine R_getR _ (hr _ _ _ rfl) fd3_4 kf3_21 rfl dX3_missing_75 ?_
          try simp +decide only [up2_far, up2_s, up2_kk]
          refine R_iload_n dX3_missing_78 rfl ?_
          refine R_iconst dX3_missing_79 rfl rfl ?_
          refine R_iaddN dX3_missing_80 (by unfold inI; omega) ?_
          refine R_iload dX3_missing_81 rfl ?_
          refine R_iast rfl (by omega) (by omega) dX3_missing_83 ?_
          refine R_iload_n dX3_missing_84 rfl ?_
          refine R_aload_n dX3_missing_85 rfl ?_
          refine R_iload_n dX3_missing_86 rfl ?_
          rw [Int.toNat_natCast, show ((sex : Int) + 2).toNat = sex + 2 by omega]
          have q3 : ∀ c', c' ≠ 34 → c' ≠ 36 → (up2 (up2 g2 36 sex (his : Int)) 36 (sex + 2) (hers : Int)) c' = g1 c' := fun c' a b => by rw [up2_ne b, up2_ne b]; exact q1 c' a b
          obtain ⟨w0, w1, w2, w3, w4, w5, w6, w7, w8⟩ := hcong _ q3
          refine R_callV (c_X3_fewest hr w2 c (by omega) w4 l w3 hm hll _ w5 (fun j hj => by rw [w1]; exact w6 j hj) (sex : Int)) (mvX3_fewest _) kiX3_fewest kvX3_fewest km3_175 rfl rfl (by decide) ⟨rfl, rfl, by decide, by decide⟩ (Nat.le_of_ble_eq_true rfl) dX3_missing_87 (fun v1 sh1 g1 z1 r1 hq => ?_)
          obtain ⟨⟨rfl, o3⟩, rfl, rfl, rfl⟩ := hq
          have hfe : fewU (vC g) (ltA (vC g) K (g u 1) (g u 2) (g u 3) c l) ((up2 (up2 g2 36 sex (his : Int)) 36 (sex + 2) (hers : Int)) 36) c l (sex : Int) l.length = F his hers := by
            rw [← hfw]
            refine fewU_cong l.length (fun j x hj hs => okM_hw hsex hs ?_ ?_)
            · rw [up2_k (by omega), up2_s]; simp [hw2]
            · rw [up2_s]; simp [hw2]
          rw [w1, hfe]
          have h6 := hF6 his hers
          refine R_mmin km3_178 (by decide) (by decide) (by decide) (by decide) dX3_missing_90 ?_
          rw [show (if ((F his hers : Nat) : Int) < ((mIn (vC g) F c sex his hers (mOut (vC g) F c sex his) : Nat) : Int) then ((F his hers : Nat) : Int) else ((mIn (vC g) F c sex his hers (mOut (vC g) F c sex his) : Nat) : Int)) = (((if F his hers < mIn (vC g) F c sex his hers (mOut (vC g) F c sex his) then F his hers else mIn (vC g) F c sex his hers (mOut (vC g) F c sex his)) : Nat) : Int) by split <;> split <;> omega]
          refine R_istore_n dX3_missing_93 (by decide) rfl [_, _, _, _, _, _] rfl ?_
          refine R_iincN dX3_missing_94 rfl (by decide) rfl (by unfold inI; omega) [_, _, _, _, _, _] rfl ?_
          refine R_goto 29 dX3_missing_97 (by decide) ?_
          exact hn _ (fun c' a b => by rw [o3 c' a]; exact q3 c' a b)
        · rw [bi_f hm2]
          rw [if_neg hm2] at hn
          refine R_if_eq 94 dX3_missing_63 (by decide) (fun hc63 => ?_) (fun hc63 => ?_)
          · refine R_iincN dX3_missing_94 rfl (by decide) rfl (by unfold inI; omega) [_, _, _, _, _, _] rfl ?_
            refine R_goto 29 dX3_missing_97 (by decide) ?_
            exact hn g2 q1
          · exact absurd rfl hc63
      · rw [bi_f hm1]
        rw [Bool.eq_false_iff.mpr hm1, Bool.false_and, if_neg (by simp)] at hn
        refine R_if_eq 94 dX3_missing_51 (by decide) (fun hc51 => ?_) (fun hc51 => ?_)
        · refine R_iincN dX3_missing_94 rfl (by decide) rfl (by unfold inI; omega) [_, _, _, _, _, _] rfl ?_
          refine R_goto 29 dX3_missing_97 (by decide) ?_
          exact hn g2 q1
        · exact absurd rfl hc51
  have outer : ∀ (n his : Nat) (g2 : GG) (a5 : Option AV), (his : Int) + n = g 2 2 → (∀ c', c' ≠ 34 → c' ≠ 36 → g2 c' = g1 c') → RJ (mX3_missing (rmD 5 0 0)) 0 0 shW.length Q 0 0 shW 11 [some (vR (some 32)), some (vI (sex : Int)), some (vR (some u)), some (vI (mOut (vC g) F c sex his : Nat)), some (vI (his : Int)), a5] [] g2 z r := by
    intro n
    induction n with
    | zero =>
      intro his g2 a5 hh q1
      obtain ⟨k0, k1, k2, k3, k4, k5, k6, k7, k8⟩ := hcong g2 q1
      have hol := mOutle his
      refine R_iload dX3_missing_11 rfl ?_
      refine R_aload_n dX3_missing_13 rfl ?_
      refine R_getR _ (hr _ _ _ rfl) fd3_0 kf3_38 rfl dX3_missing_14 ?_
      refine R_getR _ (hr _ _ _ rfl) fd0_0 kf3_136 rfl dX3_missing_17 ?_
      refine R_getI fd5_2 kf3_160 rfl dX3_missing_20 ?_
      rw [k7]
      refine R_icmp_ge 106 dX3_missing_23 (by decide) (fun hc23 => ?_) (fun hc23 => ?_)
      · refine R_iload_n dX3_missing_106 rfl ?_
        refine R_iconst dX3_missing_107 rfl rfl ?_
        refine R_icmp_le 116 dX3_missing_108 (by decide) (fun hc108 => ?_) (fun hc108 => ?_)
        · refine R_iload_n dX3_missing_116 rfl ?_
          refine R_ireturn rfl (by first | rfl | exact nar_b2i | exact nar_bi) (by decide) (by decide) dX3_missing_117 ?_
          rw [← hQ]
          exact ⟨⟨by rw [show (g 2 2).toNat = his by omega, if_neg (by omega)], k0⟩, rfl, rfl, rfl⟩
        · refine R_bipush dX3_missing_111 rfl (by decide +kernel) ?_
          refine R_goto 117 dX3_missing_113 (by decide) ?_
          refine R_ireturn rfl (by first | rfl | exact nar_b2i | exact nar_bi) (by decide) (by decide) dX3_missing_117 ?_
          rw [← hQ]
          exact ⟨⟨by rw [show (g 2 2).toNat = his by omega, if_pos (by omega)], k0⟩, rfl, rfl, rfl⟩
      · exact absurd (by omega) hc23
    | succ n ih =>
      intro his g2 a5 hh q1
      obtain ⟨k0, k1, k2, k3, k4, k5, k6, k7, k8⟩ := hcong g2 q1
      refine R_iload dX3_missing_11 rfl ?_
      refine R_aload_n dX3_missing_13 rfl ?_
      refine R_getR _ (hr _ _ _ rfl) fd3_0 kf3_38 rfl dX3_missing_14 ?_
      refine R_getR _ (hr _ _ _ rfl) fd0_0 kf3_136 rfl dX3_missing_17 ?_
      refine R_getI fd5_2 kf3_160 rfl dX3_missing_20 ?_
      rw [k7]
      refine R_icmp_ge 106 dX3_missing_23 (by decide) (fun hc23 => ?_) (fun hc23 => ?_)
      · exact absurd hc23 (by omega)
      refine R_iconst dX3_missing_26 rfl rfl ?_
      refine R_istore dX3_missing_27 (by decide) rfl [_, _, _, _, _, _] rfl ?_
      exact inner his (by omega) (g 2 2).toNat 0 g2 (by omega) q1 (fun g3 q3 a5 => by
        refine R_iincN dX3_missing_100 rfl (by decide) rfl (by unfold inI; omega) [_, _, _, _, _, _] rfl ?_
        refine R_goto 11 dX3_missing_103 (by decide) ?_
        exact ih (his + 1) g3 _ (by omega) q3)
  refine R_bipush dX3_missing_5 rfl (by decide +kernel) ?_
  refine R_istore_n dX3_missing_7 (by decide) rfl [_, _, _, _, _, _] rfl ?_
  refine R_iconst dX3_missing_8 rfl rfl ?_
  refine R_istore dX3_missing_9 (by decide) rfl [_, _, _, _, _, _] rfl ?_
  exact outer (g 2 2).toNat 0 g1 none (by omega) (fun _ _ _ => rfl)
theorem p_must (K : Nat → CUS) (H : FP g r K) (c set sex : Int) : CT (mX11_must (rmD 8 0 0)) 0 0 shW [vR (some 0), vI c, vI set, vI sex] g z r (qG shW z r fun v g' => SC g g' ∧ ((okCS (vC g) c set ∧ (0 ≤ sex ∧ sex ≤ 1) ∧ ∃ l, fam (vC g) c.toNat set.toNat = some l ∧ v = some (vI (if 5 < muS (vC g) K (g 30 1) (g 30 2) (g 30 3) c.toNat l sex.toNat then -2 else (muS (vC g) K (g 30 1) (g 30 2) (g 30 3) c.toNat l sex.toNat : Int)))) ∨ (¬ (okCS (vC g) c set ∧ (0 ≤ sex ∧ sex ≤ 1) ∧ (fam (vC g) c.toNat set.toNat).isSome = true) ∧ v = some (vI (-1))))) := by
  obtain ⟨hr, hT, hB, hB2, hN, hC5, hF, ho, hK⟩ := id H
  refine CT.of 0 rfl rfl ?_
  refine R_aload_n dX11_must_0 rfl ?_
  refine R_getR _ (hr _ _ _ rfl) fd11_0 kf11_10 rfl dX11_must_1 ?_
  refine R_iload_n dX11_must_4 rfl ?_
  refine R_iload_n dX11_must_5 rfl ?_
  refine R_callV (c_X0_knows hr hF c set) (mvX0_knows _) kiX0_knows kvX0_knows km11_166 rfl rfl (by decide) ⟨rfl, rfl, by decide, by decide⟩ (Nat.le_of_ble_eq_true rfl) dX11_must_6 (fun v1 sh1 g1 z1 r1 hq => ?_)
  obtain ⟨rfl, rfl, rfl, rfl, rfl⟩ := hq
  refine R_if_eq 21 dX11_must_9 (by decide) (fun hc9 => ?_) (fun hc9 => ?_)
  · try simp only [b2i_z, bi_z, ne_eq, Classical.not_not] at hc9
    refine R_iconst dX11_must_21 rfl rfl ?_
    refine R_ireturn rfl (by first | rfl | exact nar_b2i | exact nar_bi) (by decide) (by decide) dX11_must_22 ?_
    exact ⟨⟨SC.rfl, Or.inr ⟨fun q => by first | exact hc9 q.1 | omega, rfl⟩⟩, rfl, rfl, rfl⟩
  · try simp only [b2i_z, bi_z, ne_eq, Classical.not_not] at hc9
    refine R_iload_n dX11_must_12 rfl ?_
    refine R_if_eq 23 dX11_must_13 (by decide) (fun hc13 => ?_) (fun hc13 => ?_)
    · have hok : okCS (vC g) c set := hc9
      obtain ⟨cn, sn, rfl, rfl, h3, h4, h5⟩ := okCS_n (s := vC g) hF hok
      obtain ⟨sx', rfl, hsx⟩ : ∃ q : Nat, sex = (q : Int) ∧ q < 2 := ⟨sex.toNat, by omega, by omega⟩
      have h3' : (cn : Int) < g 5 5 := h3
      refine R_aload_n dX11_must_23 rfl ?_
      refine R_getR _ (hr _ _ _ rfl) fd11_6 kf11_53 rfl dX11_must_24 ?_
      refine R_iload_n dX11_must_27 rfl ?_
      refine R_iload_n dX11_must_28 rfl ?_
      refine R_callV (c_X3_gather hr hC5 hF ho (fun j _ => hB.1 j) cn sn (by omega) h5) (mvX3_gather _) kiX3_gather kvX3_gather km11_169 rfl rfl (by decide) ⟨rfl, rfl, by decide, by decide⟩ (Nat.le_of_ble_eq_true rfl) dX11_must_29 (fun v1 sh1 g1 z1 r1 hq => ?_)
      obtain ⟨⟨o1, o2, o3⟩, rfl, rfl, rfl⟩ := hq
      have s1 : SC g g1 := fun c' a b => o1 c' (by omega) (by omega)
      rcases o3 with ⟨l, hfam, rfl, hl⟩ | ⟨hfam, rfl⟩
      · have hm : ∀ a ∈ l, a < 10 := fun a ha => by have h1 := fam_mem hfam a ha; have h2 : (vC g) 0 2 = g 11 7 := rfl; rw [h2] at h1; omega
        have hll : l.length ≤ 10 := by have h1 := fam_len hfam; have h2 : (vC g) 0 2 = g 11 7 := rfl; rw [h2] at h1; omega
        refine R_if_eq 50 dX11_must_32 (by decide) (fun hc32 => ?_) (fun hc32 => ?_)
        · exact absurd hc32 (by decide)
        refine R_aload_n dX11_must_35 rfl ?_
        refine R_getR _ (hr _ _ _ rfl) fd11_6 kf11_53 rfl dX11_must_36 ?_
        refine R_iload_n dX11_must_39 rfl ?_
        refine R_aload_n dX11_must_40 rfl ?_
        refine R_getR _ (hr _ _ _ rfl) fd11_4 kf11_41 rfl dX11_must_41 ?_
        refine R_callV (c_X3_missing K (H.cong s1) cn (by rw [s1 5 (by unfold stc; omega) (by omega)]; exact h3') o2.1 l hl hm hll 30 (Or.inl rfl) sx' hsx) (mvX3_missing _) kiX3_missing kvX3_missing km11_236 rfl rfl (by decide) ⟨rfl, rfl, by decide, by decide⟩ (Nat.le_of_ble_eq_true rfl) dX11_must_44 (fun v1 sh1 g2 z1 r1 hq => ?_)
        obtain ⟨⟨rfl, s2⟩, rfl, rfl, rfl⟩ := hq
        rw [s1.vC, s1 30 (by unfold stc; omega) (by omega)]
        refine R_goto 51 dX11_must_47 (by decide) ?_
        refine R_ireturn rfl (by first | rfl | exact nar_b2i | exact nar_bi) (by decide) (by decide) dX11_must_51 ?_
        exact ⟨⟨s1.trans s2, Or.inl ⟨hok, by omega, l, by rw [Int.toNat_natCast, Int.toNat_natCast]; exact hfam, by rw [Int.toNat_natCast, Int.toNat_natCast]⟩⟩, rfl, rfl, rfl⟩
      · refine R_if_eq 50 dX11_must_32 (by decide) (fun hc32 => ?_) (fun hc32 => ?_)
        · refine R_iconst dX11_must_50 rfl rfl ?_
          refine R_ireturn rfl (by first | rfl | exact nar_b2i | exact nar_bi) (by decide) (by decide) dX11_must_51 ?_
          exact ⟨⟨s1, Or.inr ⟨fun q => by rw [Int.toNat_natCast, Int.toNat_natCast, hfam] at q; exact absurd q.2.2 (by decide), rfl⟩⟩, rfl, rfl, rfl⟩
        · exact absurd rfl hc32
    · refine R_iload_n dX11_must_16 rfl ?_
      refine R_iconst dX11_must_17 rfl rfl ?_
      refine R_icmp_eq 23 dX11_must_18 (by decide) (fun hc18 => ?_) (fun hc18 => ?_)
      · have hok : okCS (vC g) c set := hc9
        obtain ⟨cn, sn, rfl, rfl, h3, h4, h5⟩ := okCS_n (s := vC g) hF hok
        obtain ⟨sx', rfl, hsx⟩ : ∃ q : Nat, sex = (q : Int) ∧ q < 2 := ⟨sex.toNat, by omega, by omega⟩
        have h3' : (cn : Int) < g 5 5 := h3
        refine R_aload_n dX11_must_23 rfl ?_
        refine R_getR _ (hr _ _ _ rfl) fd11_6 kf11_53 rfl dX11_must_24 ?_
        refine R_iload_n dX11_must_27 rfl ?_
        refine R_iload_n dX11_must_28 rfl ?_
        refine R_callV (c_X3_gather hr hC5 hF ho (fun j _ => hB.1 j) cn sn (by omega) h5) (mvX3_gather _) kiX3_gather kvX3_gather km11_169 rfl rfl (by decide) ⟨rfl, rfl, by decide, by decide⟩ (Nat.le_of_ble_eq_true rfl) dX11_must_29 (fun v1 sh1 g1 z1 r1 hq => ?_)
        obtain ⟨⟨o1, o2, o3⟩, rfl, rfl, rfl⟩ := hq
        have s1 : SC g g1 := fun c' a b => o1 c' (by omega) (by omega)
        rcases o3 with ⟨l, hfam, rfl, hl⟩ | ⟨hfam, rfl⟩
        · have hm : ∀ a ∈ l, a < 10 := fun a ha => by have h1 := fam_mem hfam a ha; have h2 : (vC g) 0 2 = g 11 7 := rfl; rw [h2] at h1; omega
          have hll : l.length ≤ 10 := by have h1 := fam_len hfam; have h2 : (vC g) 0 2 = g 11 7 := rfl; rw [h2] at h1; omega
          refine R_if_eq 50 dX11_must_32 (by decide) (fun hc32 => ?_) (fun hc32 => ?_)
          · exact absurd hc32 (by decide)
          refine R_aload_n dX11_must_35 rfl ?_
          refine R_getR _ (hr _ _ _ rfl) fd11_6 kf11_53 rfl dX11_must_36 ?_
          refine R_iload_n dX11_must_39 rfl ?_
          refine R_aload_n dX11_must_40 rfl ?_
          refine R_getR _ (hr _ _ _ rfl) fd11_4 kf11_41 rfl dX11_must_41 ?_
          refine R_callV (c_X3_missing K (H.cong s1) cn (by rw [s1 5 (by unfold stc; omega) (by omega)]; exact h3') o2.1 l hl hm hll 30 (Or.inl rfl) sx' hsx) (mvX3_missing _) kiX3_missing kvX3_missing km11_236 rfl rfl (by decide) ⟨rfl, rfl, by decide, by decide⟩ (Nat.le_of_ble_eq_true rfl) dX11_must_44 (fun v1 sh1 g2 z1 r1 hq => ?_)
          obtain ⟨⟨rfl, s2⟩, rfl, rfl, rfl⟩ := hq
          rw [s1.vC, s1 30 (by unfold stc; omega) (by omega)]
          refine R_goto 51 dX11_must_47 (by decide) ?_
          refine R_ireturn rfl (by first | rfl | exact nar_b2i | exact nar_bi) (by decide) (by decide) dX11_must_51 ?_
          exact ⟨⟨s1.trans s2, Or.inl ⟨hok, by omega, l, by rw [Int.toNat_natCast, Int.toNat_natCast]; exact hfam, by rw [Int.toNat_natCast, Int.toNat_natCast]⟩⟩, rfl, rfl, rfl⟩
        · refine R_if_eq 50 dX11_must_32 (by decide) (fun hc32 => ?_) (fun hc32 => ?_)
          · refine R_iconst dX11_must_50 rfl rfl ?_
            refine R_ireturn rfl (by first | rfl | exact nar_b2i | exact nar_bi) (by decide) (by decide) dX11_must_51 ?_
            exact ⟨⟨s1, Or.inr ⟨fun q => by rw [Int.toNat_natCast, Int.toNat_natCast, hfam] at q; exact absurd q.2.2 (by decide), rfl⟩⟩, rfl, rfl, rfl⟩
          · exact absurd rfl hc32
      · refine R_iconst dX11_must_21 rfl rfl ?_
        refine R_ireturn rfl (by first | rfl | exact nar_b2i | exact nar_bi) (by decide) (by decide) dX11_must_22 ?_
        exact ⟨⟨SC.rfl, Or.inr ⟨fun q => by first | exact hc9 q.1 | omega, rfl⟩⟩, rfl, rfl, rfl⟩
end MUST3
