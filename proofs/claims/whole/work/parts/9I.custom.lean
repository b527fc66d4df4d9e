/-- the draft: a CUSTOM's cell of its own -/
def DR (g : GG) (r : RR) : Prop := ∃ dc, r 22 1 = some dc ∧ isCu dc ∧ VBd dc g ∧ (∀ k, k < 4 → tc r k ≠ dc) ∧ ∀ j k, j < 4 → k < 4 → j ≠ k → tc r j ≠ tc r k
def upK (K : Nat → CUS) (k : Nat) (L : CUS) : Nat → CUS := fun j => if j = k then L else K j
/-- what custom may change: the tape's size, the reader, the customs' own cells, that all is known -/
def CuFr (g g' : GG) : Prop := (∀ c', c' ≠ 19 → c' ≠ 22 → c' ≠ 23 → c' ≠ 41 → ¬ (24 ≤ c' ∧ c' ≤ 29) → ¬ (50 ≤ c' ∧ c' ≤ 73) → g' c' = g c') ∧ (∀ k, k ≠ 10 → g' 41 k = g 41 k) ∧ ∀ k, k ≠ 1 → g' 19 k = g 19 k
theorem isCu_apart {c d : Nat} (hc : isCu c) (hd : isCu d) (h : c ≠ d) : c + 5 < d ∨ d + 5 < c := by unfold isCu at hc hd; omega
theorem isCu_in {c : Nat} (hc : isCu c) : (24 ≤ c ∧ c + 5 ≤ 29) ∨ (50 ≤ c ∧ c + 5 ≤ 73) := by unfold isCu at hc; omega
theorem CL.cu {g : GG} {dc : Nat} {acc : List (Nat × BN)} (h : CL g dc acc) (hV : VBd dc g) (hl : ofs acc acc.length ≤ 160) : CuIs g dc (cusK acc) := by
  obtain ⟨h1, h2, h3, h4⟩ := h
  refine ⟨by unfold cusK; rw [List.length_map]; exact h1, by unfold cusK; rw [List.length_map]; exact h2, hV, fun j q hj => ?_⟩
  unfold cusK at hj
  rw [List.getElem?_map] at hj
  cases hx : acc[j]? with
  | none => rw [hx] at hj; cases hj
  | some w =>
    rw [hx] at hj
    cases hj
    obtain ⟨q1, q2, q3⟩ := h4 j w hx
    obtain ⟨g1, g2⟩ := h3 w (List.mem_of_getElem? hx)
    have hs := ofs_succ hx
    have hle : ofs acc (j + 1) ≤ ofs acc acc.length := ofs_le
    refine ⟨q1, g1, ofs acc j, ofs acc (j + 1), ?_, q2.symm, by omega, fun env => ?_⟩
    · by_cases hj0 : j = 0
      · subst hj0; rw [if_pos rfl]; simp [ofs]
      · rw [if_neg hj0]
        have hjl := (List.getElem?_eq_some_iff.mp hx).1
        have := h4 (j - 1) _ (List.getElem?_eq_getElem (show j - 1 < acc.length by omega))
        rw [this.2.1, show j - 1 + 1 = j by omega]
    · rw [hs]
      exact g2.cls q3 (by omega)
theorem CuIs_same {g g' : GG} {c : Nat} {L : CUS} (h : ∀ j, j ≤ 4 → g' (c + j) = g (c + j)) (hK : CuIs g c L) : CuIs g' c L := by
  unfold CuIs at hK ⊢
  have e0 := h 0 (by omega)
  rw [Nat.add_zero] at e0
  rw [e0, h 1 (by omega), h 2 (by omega), h 3 (by omega), h 4 (by omega)]
  exact hK
section CUSTOM2
variable {g z : GG} {r : RR}
theorem c_exchange {dc : Nat} (hd : r 22 1 = some dc) (b : Nat) : CT (mX6_exchange (rmD 0 0 0)) 0 0 shW [vR (some 22), vR (some b)] g z r (fun v sh' g' z' r' => v = some (vR (some dc)) ∧ sh' = shW ∧ g = g' ∧ z = z' ∧ r' = upR r 22 1 (some b)) := by
  refine CT.of 1 rfl rfl ?_
  refine R_aload_n dX6_exchange_0 rfl ?_
  refine R_getR _ (hd) fd6_1 kf6_18 rfl dX6_exchange_1 ?_
  refine R_astore_n dX6_exchange_4 (by decide) rfl [_, _, _] rfl ?_
  refine R_aload_n dX6_exchange_5 rfl ?_
  refine R_aload_n dX6_exchange_6 rfl ?_
  refine R_putR fd6_1 rfl kf6_18 rfl dX6_exchange_7 ?_
  refine R_aload_n dX6_exchange_10 rfl ?_
  refine R_areturn rfl (by first | exact Or.inl ⟨_, rfl⟩ | exact Or.inr ⟨_, rfl⟩) (by decide) (by decide) dX6_exchange_11 ?_
  exact ⟨rfl, rfl, rfl, rfl, rfl⟩
theorem p_custom (K : Nat → CUS) (H : FP g r K) (D : DR g r) (hT8 : 0 ≤ g 19 1 ∧ g 19 1 ≤ 200) (k n : Int) : CT (mX11_custom (rmD 45 0 0)) 0 0 shW [vR (some 0), vI k, vI n] g z r (fun v sh' g' z' r' => sh' = shW ∧ z = z' ∧ ((¬ ((0 ≤ k ∧ k < 4) ∧ (1 ≤ n ∧ n ≤ 160) ∧ n ≤ g 19 1) ∧ v = some (vI (-1)) ∧ g = g' ∧ r = r') ∨ (((0 ≤ k ∧ k < 4) ∧ (1 ≤ n ∧ n ≤ 160) ∧ n ≤ g 19 1) ∧ CuFr g g' ∧ g' 19 1 = 0 ∧ rstY (txtP (tX (g 20) n.toNat) n.toNat 13 0 []) (fun f => v = some (vI f) ∧ r = r' ∧ g' 41 = g 41 ∧ FP g' r' K ∧ DR g' r') (fun acc => v = some (vI (acc.length : Int)) ∧ g' 41 10 = 0 ∧ FP g' r' (upK K k.toNat (cusK acc)) ∧ DR g' r')))) := by
  obtain ⟨hr, hT, hB, hB2, hN, hC5, hF, ho, hK⟩ := id H
  obtain ⟨dc, hd, hc, hV, hdk, hdj⟩ := D
  refine CT.of 1 rfl rfl ?_
  generalize hQ : (fun v sh' g' z' r' => sh' = shW ∧ z = z' ∧ ((¬ ((0 ≤ k ∧ k < 4) ∧ (1 ≤ n ∧ n ≤ 160) ∧ n ≤ g 19 1) ∧ v = some (vI (-1)) ∧ g = g' ∧ r = r') ∨ (((0 ≤ k ∧ k < 4) ∧ (1 ≤ n ∧ n ≤ 160) ∧ n ≤ g 19 1) ∧ CuFr g g' ∧ g' 19 1 = 0 ∧ rstY (txtP (tX (g 20) n.toNat) n.toNat 13 0 []) (fun f => v = some (vI f) ∧ r = r' ∧ g' 41 = g 41 ∧ FP g' r' K ∧ DR g' r') (fun acc => v = some (vI (acc.length : Int)) ∧ g' 41 10 = 0 ∧ FP g' r' (upK K k.toNat (cusK acc)) ∧ DR g' r')))) = Q
  have bad : ∀ ls, ¬ ((0 ≤ k ∧ k < 4) ∧ (1 ≤ n ∧ n ≤ 160) ∧ n ≤ g 19 1) → RJ (mX11_custom (rmD 45 0 0)) 0 0 shW.length Q 0 0 shW 36 ls [] g z r := by
    intro ls hno
    refine R_iconst dX11_custom_36 rfl rfl ?_
    refine R_ireturn rfl (by first | rfl | exact nar_b2i | exact nar_bi) (by decide) (by decide) dX11_custom_37 ?_
    rw [← hQ]
    exact ⟨rfl, rfl, Or.inl ⟨hno, rfl, rfl, rfl⟩⟩
  refine R_iload_n dX11_custom_0 rfl ?_
  refine R_if_lt 36 dX11_custom_1 (by decide) (fun hc1 => ?_) (fun hc1 => ?_)
  · exact bad _ (by omega)
  refine R_iload_n dX11_custom_4 rfl ?_
  refine R_aload_n dX11_custom_5 rfl ?_
  refine R_getR _ (hr _ _ _ rfl) fd11_2 kf11_25 rfl dX11_custom_6 ?_
  refine R_alen18 rfl (by decide) dX11_custom_9 ?_
  refine R_icmp_ge 36 dX11_custom_10 (by decide) (fun hc10 => ?_) (fun hc10 => ?_)
  · exact bad _ (by omega)
  refine R_iload_n dX11_custom_13 rfl ?_
  refine R_iconst dX11_custom_14 rfl rfl ?_
  refine R_icmp_lt 36 dX11_custom_15 (by decide) (fun hc15 => ?_) (fun hc15 => ?_)
  · exact bad _ (by omega)
  refine R_iload_n dX11_custom_18 rfl ?_
  refine R_sipush dX11_custom_19 rfl (by decide +kernel) ?_
  refine R_icmp_gt 36 dX11_custom_22 (by decide) (fun hc22 => ?_) (fun hc22 => ?_)
  · exact bad _ (by omega)
  refine R_iload_n dX11_custom_25 rfl ?_
  refine R_aload_n dX11_custom_26 rfl ?_
  refine R_getR _ (hr _ _ _ rfl) fd11_1 kf11_19 rfl dX11_custom_27 ?_
  refine R_getI fd8_1 kf11_142 rfl dX11_custom_30 ?_
  refine R_icmp_le 38 dX11_custom_33 (by decide) (fun hc33 => ?_) (fun hc33 => ?_)
  rotate_left
  · exact bad _ (by omega)
  have hok : (0 ≤ k ∧ k < 4) ∧ (1 ≤ n ∧ n ≤ 160) ∧ n ≤ g 19 1 := by omega
  obtain ⟨kn, rfl⟩ : ∃ kn : Nat, k = (kn : Int) := ⟨k.toNat, by omega⟩
  obtain ⟨nn, rfl⟩ : ∃ nn : Nat, n = (nn : Int) := ⟨n.toNat, by omega⟩
  have hk4 : kn < 4 := by omega
  obtain ⟨hk1, hk2⟩ := hT kn hk4
  have hin := isCu_in hc
  refine R_aload_n dX11_custom_38 rfl ?_
  refine R_getR _ (hr _ _ _ rfl) fd11_3 kf11_32 rfl dX11_custom_39 ?_
  refine R_aload_n dX11_custom_42 rfl ?_
  refine R_getR _ (hr _ _ _ rfl) fd11_1 kf11_19 rfl dX11_custom_43 ?_
  refine R_iload_n dX11_custom_46 rfl ?_
  refine R_callV (c_read hr hd hc hV (by omega) (by omega) (by omega)) (mvX6_read _) kiX6_read kvX6_read km11_145 rfl rfl (by decide) ⟨rfl, rfl, by decide, by decide⟩ (Nat.le_of_ble_eq_true rfl) dX11_custom_47 (fun v1 sh1 g1 z1 r1 hq => ?_)
  obtain ⟨⟨f1, o1⟩, rfl, rfl, rfl⟩ := hq
  have hv : ∃ x : Int, v1 = some (vI x) := by
    cases hx : txtP (tX (g 20) nn) nn 13 0 [] with
    | inl f => rw [hx] at o1; exact ⟨_, o1⟩
    | inr acc => rw [hx] at o1; exact ⟨_, o1.1⟩
  obtain ⟨x, rfl⟩ := hv
  refine R_istore_n dX11_custom_50 (by decide) rfl [_, _, _, _] rfl ?_
  refine R_aload_n dX11_custom_51 rfl ?_
  refine R_getR _ (hr _ _ _ rfl) fd11_1 kf11_19 rfl dX11_custom_52 ?_
  refine R_callV (c_X8_clear) (mvX8_clear _) kiX8_clear kvX8_clear km11_149 rfl rfl (by decide) ⟨rfl, rfl, by decide, by decide⟩ (Nat.le_of_ble_eq_true rfl) dX11_custom_55 (fun v1 sh1 g2 z1 r1 hq => ?_)
  obtain ⟨⟨rfl, rfl⟩, rfl, rfl, rfl⟩ := hq
  have fr : ∀ c', c' ≠ 22 → c' ≠ 23 → c' ≠ 19 → ¬ (dc ≤ c' ∧ c' ≤ dc + 4) → up2 g1 19 1 0 c' = g c' := fun c' a b c d => by rw [up2_ne c]; exact f1.1 c' a b (by omega) (by omega) (by omega) (by omega) (by omega)
  have fcu : CuFr g (up2 g1 19 1 0) := by
    refine ⟨fun c' a b c d e f => fr c' b c a (by omega), fun k _ => by rw [fr 41 (by decide) (by decide) (by decide) (by omega)], fun k hk => by rw [up2_k hk, f1.1 19 (by decide) (by decide) (by omega) (by omega) (by omega) (by omega) (by omega)]⟩
  have hV2 : VBd dc (up2 g1 19 1 0) := fun j hj => by rw [up2_ne (by omega)]; exact f1.2 hV j hj
  have h19 : up2 g1 19 1 0 19 1 = 0 := up2_s
  have cuS : ∀ j, j < 4 → CuIs (up2 g1 19 1 0) (tc r j) (K j) := fun j hj => by
    refine CuIs_same (fun i hi => ?_) (hK j hj)
    have ap := isCu_apart (hT j hj).1 hc (hdk j hj)
    have hi2 := isCu_in (hT j hj).1
    exact fr _ (by omega) (by omega) (by omega) (by omega)
  have fpR : ∀ (g' : GG) (r' : RR) (K' : Nat → CUS), (∀ c', c' ≤ 18 → g' c' = g c') → RS r' → TL r' → ciK g' r' K' → FP g' r' K' := by
    intro g' r' K' he h1 h2 h3
    refine ⟨h1, h2, ?_, ?_, ?_, ?_, ?_, ?_, h3⟩
    · unfold BD; rw [he 13 (by decide), he 12 (by decide), he 3 (by decide), he 8 (by decide)]; exact hB
    · unfold BD2; rw [he 4 (by decide), he 1 (by decide)]; exact hB2
    · rw [he 2 (by decide)]; exact hN
    · rw [he 5 (by decide)]; exact hC5
    · rw [he 11 (by decide)]; exact hF
    · rw [he 13 (by decide), he 11 (by decide), he 18 (by decide)]; exact ho
  cases hx : txtP (tX (g 20) nn) nn 13 0 [] with
  | inl f =>
    rw [hx] at o1
    cases o1
    have hf : x < 0 := by
      have key : ∀ (m p : Nat) (acc : List (Nat × BN)), p ≤ nn → txtP (tX (g 20) nn) nn m p acc = .inl x → x < 0 := by
        intro m
        induction m with
        | zero => intro p acc _ h; cases h
        | succ m ih =>
          intro p acc hp h
          rw [txtP] at h
          obtain ⟨c1, c2⟩ := claP_ok (tX_ok (f := g 20) (N := nn)) (by omega) (k := acc.length) hp
          cases hc : claP (tX (g 20) nn) acc.length p with
          | inl e => rw [hc] at h; cases h; exact (c1 _ hc).2
          | inr q =>
            rw [hc] at h
            simp only at h
            obtain ⟨k1, k2, -⟩ := c2 q.1 q.2 hc
            split at h
            · split at h
              · exact ih _ _ (by omega) h
              · cases h; omega
            · cases h
      exact key 13 0 [] (by omega) hx
    refine R_iload_n dX11_custom_58 rfl ?_
    refine R_if_eq 64 dX11_custom_59 (by decide) (fun hc59 => ?_) (fun hc59 => ?_)
    · exact absurd hc59 (by omega)
    refine R_iload_n dX11_custom_62 rfl ?_
    refine R_ireturn rfl (by first | rfl | exact nar_b2i | exact nar_bi) (by decide) (by decide) dX11_custom_63 ?_
    rw [← hQ]
    refine ⟨rfl, rfl, Or.inr ⟨hok, fcu, h19, ?_⟩⟩
    rw [Int.toNat_natCast, hx]
    refine ⟨rfl, rfl, by rw [fr 41 (by decide) (by decide) (by decide) (by omega)], fpR _ _ _ (fun c' hc' => fr c' (by omega) (by omega) (by omega) (by omega)) hr hT cuS, dc, hd, hc, hV2, hdk, hdj⟩
  | inr acc =>
    rw [hx] at o1
    obtain ⟨ox, oL, ol⟩ := o1
    cases ox
    refine R_iload_n dX11_custom_58 rfl ?_
    refine R_if_eq 64 dX11_custom_59 (by decide) (fun hc59 => ?_) (fun hc59 => ?_)
    rotate_left
    · exact absurd rfl hc59
    have hL2 : CuIs (up2 g1 19 1 0) dc (cusK acc) := CuIs_same (fun i hi => by rw [up2_ne (by omega)]) (oL.cu (f1.2 hV) ol)
    generalize up2 g1 19 1 0 = g2 at *
    refine R_aload_n dX11_custom_64 rfl ?_
    refine R_getR _ (hr _ _ _ rfl) fd11_2 kf11_25 rfl dX11_custom_65 ?_
    refine R_iload_n dX11_custom_68 rfl ?_
    refine R_aload_n dX11_custom_69 rfl ?_
    refine R_getR _ (hr _ _ _ rfl) fd11_3 kf11_32 rfl dX11_custom_70 ?_
    refine R_aload_n dX11_custom_73 rfl ?_
    refine R_getR _ (hr _ _ _ rfl) fd11_2 kf11_25 rfl dX11_custom_74 ?_
    refine R_iload_n dX11_custom_77 rfl ?_
    refine R_aald (some (tc r kn)) (by rw [Int.toNat_natCast]; exact hk2) rfl (by omega) (by omega) dX11_custom_78 ?_
    refine R_callV (c_exchange hd (tc r kn)) (mvX6_exchange _) kiX6_exchange kvX6_exchange km11_152 rfl rfl (by decide) ⟨rfl, rfl, by decide, by decide⟩ (Nat.le_of_ble_eq_true rfl) dX11_custom_79 (fun v1 sh1 g3 z3 r3 hq => ?_)
    obtain ⟨rfl, rfl, rfl, rfl, rfl⟩ := hq
    refine R_aast rfl (isCu_sh hc) (by omega) (by omega) dX11_custom_82 ?_
    rw [Int.toNat_natCast]
    have hr2 : RS (upR (upR r 22 1 (some (tc r kn))) 21 kn (some dc)) := by
      intro c k x h
      unfold upR
      split
      · rename_i e; rw [e.1] at h; cases h
      · split
        · rename_i e; rw [e.1, e.2] at h; cases h
        · exact hr c k x h
    have e21 : ∀ j, upR (upR r 22 1 (some (tc r kn))) 21 kn (some dc) 21 j = if j = kn then some dc else r 21 j := fun j => by
      unfold upR
      by_cases hj : j = kn
      · rw [if_pos ⟨rfl, hj⟩, if_pos hj]
      · rw [if_neg (fun q => hj q.2), if_neg (fun q => by have := q.1; omega), if_neg hj]
    have etc : ∀ j, tc (upR (upR r 22 1 (some (tc r kn))) 21 kn (some dc)) j = if j = kn then dc else tc r j := fun j => by
      show ((upR (upR r 22 1 (some (tc r kn))) 21 kn (some dc)) 21 j).getD 0 = _
      rw [e21]
      split
      · rfl
      · rfl
    have e22 : upR (upR r 22 1 (some (tc r kn))) 21 kn (some dc) 22 1 = some (tc r kn) := by
      unfold upR
      rw [if_neg (fun q => by have := q.1; omega), if_pos ⟨rfl, rfl⟩]
    have hT2 : TL (upR (upR r 22 1 (some (tc r kn))) 21 kn (some dc)) := by
      intro j hj
      rw [etc, e21]
      split
      · exact ⟨hc, rfl⟩
      · exact hT j hj
    generalize upR (upR r 22 1 (some (tc r kn))) 21 kn (some dc) = r2 at *
    refine R_aload_n dX11_custom_83 rfl ?_
    refine R_getR _ (hr2 _ _ _ rfl) fd11_8 kf11_69 rfl dX11_custom_84 ?_
    refine R_callV (c_X10_forget) (mvX10_forget _) kiX10_forget kvX10_forget km11_84 rfl rfl (by decide) ⟨rfl, rfl, by decide, by decide⟩ (Nat.le_of_ble_eq_true rfl) dX11_custom_87 (fun v1 sh1 g3 z1 r1 hq => ?_)
    obtain ⟨⟨rfl, rfl⟩, rfl, rfl, rfl⟩ := hq
    refine R_aload_n dX11_custom_90 rfl ?_
    refine R_getR _ (hr2 _ _ _ rfl) fd11_4 kf11_41 rfl dX11_custom_91 ?_
    refine R_iload_n dX11_custom_94 rfl ?_
    refine R_callV (c_X9_clausesOf hT2 30 rfl (hr2 _ _ _ rfl) (kn : Int)) (mvX9_clausesOf _) kiX9_clausesOf kvX9_clausesOf km11_156 rfl rfl (by decide) ⟨rfl, rfl, by decide, by decide⟩ (Nat.le_of_ble_eq_true rfl) dX11_custom_95 (fun v1 sh1 g3 z1 r1 hq => ?_)
    obtain ⟨rfl, rfl, rfl, rfl, rfl⟩ := hq
    have en : nCl (up2 g2 41 10 0) r2 (kn : Int) = (acc.length : Int) := by
      unfold nCl
      rw [if_pos (by omega), Int.toNat_natCast, etc, if_pos rfl, up2_ne (by omega), hL2.1]
      unfold cusK
      rw [List.length_map]
    rw [en]
    refine R_ireturn rfl (by first | rfl | exact nar_b2i | exact nar_bi) (by decide) (by decide) dX11_custom_98 ?_
    rw [← hQ]
    refine ⟨rfl, rfl, Or.inr ⟨hok, ⟨fun c' a b c d e f => by rw [up2_ne d]; exact fcu.1 c' a b c d e f, fun k hk => by rw [up2_k hk]; exact fcu.2.1 k hk, fun k hk => by rw [up2_ne (by decide)]; exact fcu.2.2 k hk⟩, by rw [up2_ne (by decide)]; exact h19, ?_⟩⟩
    rw [Int.toNat_natCast, Int.toNat_natCast, hx]
    refine ⟨rfl, up2_s, fpR _ _ _ (fun c' hc' => by rw [up2_ne (by omega)]; exact fr c' (by omega) (by omega) (by omega) (by omega)) hr2 hT2 (fun j hj => ?_), tc r kn, e22, hk1, ?_, ?_, ?_⟩
    · rw [etc]
      unfold upK
      by_cases hj : j = kn
      · rw [if_pos hj, if_pos hj]
        exact CuIs_same (fun i hi => by rw [up2_ne (by omega)]) hL2
      · rw [if_neg hj, if_neg hj]
        have hi2 := isCu_in (hT j (by omega)).1
        exact CuIs_same (fun i hi => by rw [up2_ne (by omega)]) (cuS j (by omega))
    · intro j hj
      have hi2 := isCu_in hk1
      rw [up2_ne (by omega)]
      exact (cuS kn hk4).2.2.1 j hj
    · intro j hj
      rw [etc]
      by_cases e : j = kn
      · rw [if_pos e]; exact fun q => hdk kn hk4 q.symm
      · rw [if_neg e]; exact hdj j kn hj hk4 e
    · intro i j hi hj hij
      rw [etc, etc]
      by_cases ei : i = kn
      · rw [if_pos ei]
        by_cases ej : j = kn
        · omega
        · rw [if_neg ej]; exact fun q => hdk j hj q.symm
      · rw [if_neg ei]
        by_cases ej : j = kn
        · rw [if_pos ej]; exact hdk i hi
        · rw [if_neg ej]; exact hdj i j hi hj hij
end CUSTOM2
