section ALEN14
variable {M : MI} {mc ms n0 : Nat} {Q : PQ} {ce sl : Nat} {sh : SH} {pc : Nat} {ls : List (Option AV)} {st : List AV} {g z : GG} {r : RR}
theorem R_alen14 {c n : Nat} (hs0 : sh[c]? = some (14, n)) (hn0 : n < 2147483648) (hd : decode M.2.1 pc = .ok (.arraylength, 1)) (kk : RJ M mc ms n0 Q ce sl sh (pc + 1) ls (vI (n : Int) :: st) g z r) : RJ M mc ms n0 Q ce sl sh pc ls (vR (some c) :: st) g z r := by
  intro p l e s m args below meth cd dC dI cy ad0 ad adK adV A H locs Ls hC hn hd0 hst hW hS hO hl hs hL
  exact va_alen hC.1 hC.2.1 hW.2.2 hW.1 c 1 (by rw [wd_get hs0, ce_i 14 (by decide)]) rfl (v := i32 (n : Int)) (by rw [i32, Int32.ofInt_eq_ofNat]) hd (kk p l e s m args below meth cd dC dI cy ad0 ad adK adV A H locs Ls hC hn hd0 hst hW hS hO hl (okc (v := vI (n : Int)) (show inI (n : Int) by unfold inI; omega) (okt hs)) hL)
end ALEN14
/-- a TEXT of N bytes -/
def tX (f : Nat → Int) (N p : Nat) : Int := if p < N then bAnd (f p) 255 else 0
theorem tX_ok {f : Nat → Int} {N : Nat} : TXT (tX f N) N := by
  refine ⟨fun p hp => by unfold tX; rw [if_neg (by omega)], fun p => ?_⟩
  unfold tX
  split
  · obtain ⟨n, hn, e⟩ := byte_of (f p)
    rw [e]; omega
  · decide
theorem b16_and (x : Int) : b16 (bAnd x 255) = bAnd x 255 := by
  obtain ⟨n, hn, e⟩ := byte_of x
  rw [e]; exact b16_id n hn
theorem vnar_and (x : Int) : vp_nar .char (i32 (bAnd x 255)) = i32 (bAnd x 255) := by
  unfold vp_nar
  rw [nar_ch (b16_and x)]
def FrR (dc : Nat) (g g' : GG) : Prop := (∀ c', c' ≠ 22 → c' ≠ 23 → c' ≠ dc → c' ≠ dc + 1 → c' ≠ dc + 2 → c' ≠ dc + 3 → c' ≠ dc + 4 → g' c' = g c') ∧ (VBd dc g → VBd dc g')
theorem FrD.r {dc : Nat} {g g' : GG} (h : FrD dc g g') : FrR dc g g' := ⟨fun c' a _ b c d e f => h.1 c' a b c d e f, h.2.2⟩
theorem FrR.trans {dc : Nat} {g g1 g2 : GG} (h1 : FrR dc g g1) (h2 : FrR dc g1 g2) : FrR dc g g2 := ⟨fun c' a b c d e f i => (h2.1 c' a b c d e f i).trans (h1.1 c' a b c d e f i), fun h => h2.2 (h1.2 h)⟩
section READ
variable {r : RR} {dc N : Nat} {g z : GG}
theorem c_cclear (hc : isCu dc) : CT (mX2_clear (rmD 0 0 0)) 0 0 shW [vR (some dc)] g z r (qG shW z r fun v g' => v = none ∧ g' = up2 (up2 g dc 5 0) dc 6 0) := by
  refine CT.of 0 rfl rfl ?_
  refine R_aload_n dX2_clear_0 rfl ?_
  refine R_iconst dX2_clear_1 rfl rfl ?_
  refine R_putI fd2_5 rfl kf2_27 (isCu_sh hc) dX2_clear_2 ?_
  refine R_aload_n dX2_clear_5 rfl ?_
  refine R_iconst dX2_clear_6 rfl rfl ?_
  refine R_putI fd2_6 rfl kf2_31 (isCu_sh hc) dX2_clear_7 ?_
  refine R_return rfl (by decide) (by decide) dX2_clear_10 ?_
  exact ⟨⟨rfl, rfl⟩, rfl, rfl, rfl⟩
theorem c_read (hr : RS r) (hd : r 22 1 = some dc) (hc : isCu dc) (hV : VBd dc g) (h1 : 1 ≤ N) (hN : N ≤ 160) (h19 : (N : Int) ≤ g 19 1 ∧ g 19 1 ≤ 200) : CT (mX6_read (rmD 41 0 0)) 0 0 shW [vR (some 22), vR (some 19), vI (N : Int)] g z r (qG shW z r fun v g' => FrR dc g g' ∧ rstY (txtP (tX (g 20) N) N 13 0 []) (fun f => v = some (vI f)) (fun acc => v = some (vI 0) ∧ CL g' dc acc ∧ ofs acc acc.length ≤ 160)) := by
  have hT := tX_ok (f := g 20) (N := N)
  have hTi : ∀ i, i < N → tX (g 20) N i = bAnd (g 20 i) 255 := fun i hi => by unfold tX; rw [if_pos hi]
  generalize hTe : tX (g 20) N = T at *
  have hn := isCu_ne hc
  have m1 : dc + 1 ≠ 22 := by unfold isCu at hc; omega
  have m2 : dc + 2 ≠ 22 := by unfold isCu at hc; omega
  have c19 : dc ≠ 19 ∧ dc ≠ 20 := by unfold isCu at hc; omega
  refine CT.of 2 rfl rfl ?_
  generalize hX : txtP T N 13 0 [] = Xr
  generalize hQ : (qG shW z r fun v g' => FrR dc g g' ∧ rstY Xr (fun f => v = some (vI f)) (fun acc => v = some (vI 0) ∧ CL g' dc acc ∧ ofs acc acc.length ≤ 160)) = Q
  have out : ∀ (g1 : GG) (a4 : Option AV) (f : Int), FrR dc g g1 → g1 22 4 = f → Xr = .inl f → RJ (mX6_read (rmD 41 0 0)) 0 0 shW.length Q 0 0 shW 70 [some (vR (some 22)), some (vR (some 19)), some (vI (N : Int)), some (vI 0), a4] [] g1 z r := by
    intro g1 a4 f f1 h4 hx
    refine R_iload_n dX6_read_70 rfl ?_
    refine R_if_eq 120 dX6_read_71 (by decide) (fun hc71 => ?_) (fun hc71 => ?_)
    rotate_left
    · exact absurd rfl hc71
    refine R_aload_n dX6_read_120 rfl ?_
    refine R_getI fd6_4 kf6_40 rfl dX6_read_121 ?_
    rw [h4]
    refine R_ireturn rfl (by first | rfl | exact nar_b2i | exact nar_bi) (by decide) (by decide) dX6_read_124 ?_
    rw [← hQ, hx]
    exact ⟨⟨f1, rfl⟩, rfl, rfl, rfl⟩
  have loop : ∀ (n p : Nat) (acc : List (Nat × BN)) (g1 : GG), n + acc.length = 13 → acc ≠ [] → FrR dc g g1 → CR g1 r dc T N p (ofs acc acc.length) → CL g1 dc acc → (if p < N then (if T p = 59 then txtP T N n (p + 1) acc else .inl (-1000 - (p : Int))) else .inr acc) = Xr → RJ (mX6_read (rmD 41 0 0)) 0 0 shW.length Q 0 0 shW 70 [some (vR (some 22)), some (vR (some 19)), some (vI ((N : Int))), some (vI (1)), some (vI ((acc.length : Int)))] [] g1 z r := by
    intro n
    induction n with
    | zero =>
      intro p acc g1 hna _ _ _ hL
      have := hL.2.1
      omega
    | succ n ih =>
      intro p acc g1 hna hne f1 H1 hL hx
      have h2 := H1.2.1
      have h4 := H1.2.2.2.1
      have h5 := H1.2.2.2.2.1
      have h6 := H1.2.2.2.2.2.1
      have hl12 := hL.2.1
      refine R_iload_n dX6_read_70 rfl ?_
      refine R_if_eq 120 dX6_read_71 (by decide) (fun hc71 => ?_) (fun hc71 => ?_)
      · exact absurd hc71 (by decide)
      refine R_aload_n dX6_read_74 rfl ?_
      refine R_getI fd6_3 kf6_38 rfl dX6_read_75 ?_
      refine R_aload_n dX6_read_78 rfl ?_
      refine R_getI fd6_2 kf6_28 rfl dX6_read_79 ?_
      rw [h4.1, h2.1]
      refine R_icmp_ge 120 dX6_read_82 (by decide) (fun hc82 => ?_) (fun hc82 => ?_)
      · rw [if_neg (by omega)] at hx
        refine R_aload_n dX6_read_120 rfl ?_
        refine R_getI fd6_4 kf6_40 rfl dX6_read_121 ?_
        rw [h5]
        refine R_ireturn rfl (by first | rfl | exact nar_b2i | exact nar_bi) (by decide) (by decide) dX6_read_124 ?_
        rw [← hQ, ← hx]
        exact ⟨⟨f1, rfl, hL, by omega⟩, rfl, rfl, rfl⟩
      rw [if_pos (by omega)] at hx
      refine R_iload dX6_read_85 rfl ?_
      refine R_bipush dX6_read_87 rfl (by decide +kernel) ?_
      refine R_icmp_gt 120 dX6_read_89 (by decide) (fun hc89 => ?_) (fun hc89 => ?_)
      · exact absurd hc89 (by omega)
      refine R_aload_n dX6_read_92 rfl ?_
      refine R_bipush dX6_read_93 rfl (by decide +kernel) ?_
      refine R_callV (c_take hr hT H1 59) (mvX6_take _) kiX6_take kvX6_take km6_50 rfl rfl (by decide) ⟨rfl, rfl, by decide, by decide⟩ (Nat.le_of_ble_eq_true rfl) dX6_read_95 (fun v1 sh1 g2 z1 r1 hq => ?_)
      obtain ⟨o2, rfl, rfl, rfl⟩ := hq
      rcases o2 with ⟨h59, rfl, rfl⟩ | ⟨h59, rfl, rfl⟩
      rotate_left
      · rw [if_neg h59] at hx
        refine R_if_eq 112 dX6_read_98 (by decide) (fun hc98 => ?_) (fun hc98 => ?_)
        rotate_left
        · exact absurd rfl hc98
        refine R_iconst dX6_read_112 rfl rfl ?_
        refine R_istore_n dX6_read_113 (by decide) rfl [_, _, _, _, _] rfl ?_
        refine R_iincN dX6_read_114 rfl (by decide) rfl (by unfold inI; omega) [_, _, _, _, _] rfl ?_
        refine R_goto 70 dX6_read_117 (by decide) ?_
        exact out _ _ _ (f1.trans (FrC.at (Or.inr rfl) hc).d.r) up2_s hx.symm
      rw [if_pos h59] at hx
      have hlt : p < N := txt_lt hT.1 (by omega)
      have H2 := H1.at (show p + 1 ≤ N by omega)
      have f2 := FrC.at (dc := dc) (g := g1) (v := ((p + 1 : Nat) : Int)) (Or.inl rfl) hc
      have hL2 := hL.cong f2 hc (lowAt hc)
      generalize up2 g1 22 3 ((p + 1 : Nat) : Int) = g2 at *
      rw [txtP] at hx
      refine R_if_eq 112 dX6_read_98 (by decide) (fun hc98 => ?_) (fun hc98 => ?_)
      · exact absurd hc98 (by decide)
      refine R_aload_n dX6_read_101 rfl ?_
      refine R_callV (c_clause hr hT acc H2 hL2) (mvX6_clause _) kiX6_clause kvX6_clause km6_46 rfl rfl (by decide) ⟨rfl, rfl, by decide, by decide⟩ (Nat.le_of_ble_eq_true rfl) dX6_read_102 (fun v1 sh1 g3 z1 r1 hq => ?_)
      obtain ⟨⟨f3, o3⟩, rfl, rfl, rfl⟩ := hq
      have f13 := (f1.trans f2.d.r).trans f3.r
      cases hcl : claP T acc.length (p + 1) with
      | inl f =>
        rw [hcl] at o3 hx
        obtain ⟨rfl, h34⟩ := o3
        refine R_if_eq 112 dX6_read_105 (by decide) (fun hc105 => ?_) (fun hc105 => ?_)
        rotate_left
        · exact absurd rfl hc105
        refine R_iconst dX6_read_112 rfl rfl ?_
        refine R_istore_n dX6_read_113 (by decide) rfl [_, _, _, _, _] rfl ?_
        refine R_iincN dX6_read_114 rfl (by decide) rfl (by unfold inI; omega) [_, _, _, _, _] rfl ?_
        refine R_goto 70 dX6_read_117 (by decide) ?_
        exact out _ _ f f13 h34 hx.symm
      | inr q =>
        rw [hcl] at o3 hx
        obtain ⟨rfl, H3, hL3⟩ := o3
        refine R_if_eq 112 dX6_read_105 (by decide) (fun hc105 => ?_) (fun hc105 => ?_)
        · exact absurd hc105 (by decide)
        refine R_iconst dX6_read_108 rfl rfl ?_
        refine R_goto 113 dX6_read_109 (by decide) ?_
        refine R_istore_n dX6_read_113 (by decide) rfl [_, _, _, _, _] rfl ?_
        refine R_iincN dX6_read_114 rfl (by decide) rfl (by unfold inI; omega) [_, _, _, _, _] rfl ?_
        refine R_goto 70 dX6_read_117 (by decide) ?_
        have := ih q.1 (acc ++ [q.2]) g3 (by rw [List.length_append, List.length_singleton]; omega) (by simp) f13 H3 hL3 hx
        rw [List.length_append, List.length_singleton] at this
        exact this
  have start : ∀ (g1 : GG) (a3 : Option AV), (∀ c', c' ≠ 22 → c' ≠ 23 → g1 c' = g c') → g1 22 2 = (N : Int) → (∀ i, i < N → g1 23 i = T i) → RJ (mX6_read (rmD 41 0 0)) 0 0 shW.length Q 0 0 shW 45 [some (vR (some 22)), some (vR (some 19)), some (vI (N : Int)), a3, none] [] g1 z r := by
    intro g1 a3 f1 h22 h23
    refine R_aload_n dX6_read_45 rfl ?_
    refine R_iconst dX6_read_46 rfl rfl ?_
    refine R_putI fd6_3 rfl kf6_38 rfl dX6_read_47 ?_
    refine R_aload_n dX6_read_50 rfl ?_
    refine R_iconst dX6_read_51 rfl rfl ?_
    refine R_putI fd6_4 rfl kf6_40 rfl dX6_read_52 ?_
    refine R_aload_n dX6_read_55 rfl ?_
    refine R_getR _ (hd) fd6_1 kf6_18 rfl dX6_read_56 ?_
    try simp +decide only [up2_far, up2_s, up2_kk]
    refine R_callV (c_cclear hc) (mvX2_clear _) kiX2_clear kvX2_clear km6_43 (isCu_sh hc) rfl (by decide) ⟨rfl, rfl, by decide, by decide⟩ (Nat.le_of_ble_eq_true rfl) dX6_read_59 (fun v1 sh1 g2 z1 r1 hq => ?_)
    obtain ⟨⟨rfl, rfl⟩, rfl, rfl, rfl⟩ := hq
    have H2 : CR (up2 (up2 (up2 (up2 g1 22 3 0) 22 4 0) dc 5 0) dc 6 0) r dc T N 0 (ofs [] ([] : List (Nat × BN)).length) := by
      refine ⟨⟨hd, hc⟩, ⟨?_, hN⟩, fun i hi => ?_, ⟨?_, by omega⟩, ?_, ⟨?_, by simp [ofs]⟩, fun j hj => ?_⟩
      · rw [up2_ne hn.1.symm, up2_ne hn.1.symm, up2_k (by decide), up2_k (by decide)]; exact h22
      · rw [up2_ne hn.2.1.symm, up2_ne hn.2.1.symm, up2_ne (by decide), up2_ne (by decide)]; exact h23 i hi
      · rw [up2_ne hn.1.symm, up2_ne hn.1.symm, up2_k (by decide), up2_s]; rfl
      · rw [up2_ne hn.1.symm, up2_ne hn.1.symm, up2_s]
      · rw [up2_k (by decide), up2_s]; rfl
      · rw [up2_ne (by omega), up2_ne (by omega), up2_ne hn.2.2.2.2.1, up2_ne hn.2.2.2.2.1, f1 (dc + 4) hn.2.2.2.2.1 hn.2.2.2.2.2]; exact hV j hj
    have hL2 : CL (up2 (up2 (up2 (up2 g1 22 3 0) 22 4 0) dc 5 0) dc 6 0) dc [] := ⟨by rw [up2_s]; rfl, by decide, fun q hq => (by cases hq), fun j q hj => by cases hj⟩
    have f2 : FrR dc g (up2 (up2 (up2 (up2 g1 22 3 0) 22 4 0) dc 5 0) dc 6 0) := by
      refine ⟨fun c' a b c _ _ _ _ => by rw [up2_ne c, up2_ne c, up2_ne a, up2_ne a]; exact f1 c' a b, fun h j hj => ?_⟩
      rw [up2_ne (by omega), up2_ne (by omega), up2_ne hn.2.2.2.2.1, up2_ne hn.2.2.2.2.1, f1 (dc + 4) hn.2.2.2.2.1 hn.2.2.2.2.2]; exact h j hj
    generalize up2 (up2 (up2 (up2 g1 22 3 0) 22 4 0) dc 5 0) dc 6 0 = g2 at *
    rw [txtP] at hX
    refine R_aload_n dX6_read_62 rfl ?_
    refine R_callV (c_clause hr hT [] H2 hL2) (mvX6_clause _) kiX6_clause kvX6_clause km6_46 rfl rfl (by decide) ⟨rfl, rfl, by decide, by decide⟩ (Nat.le_of_ble_eq_true rfl) dX6_read_63 (fun v1 sh1 g3 z1 r1 hq => ?_)
    obtain ⟨⟨f3, o3⟩, rfl, rfl, rfl⟩ := hq
    have f13 := f2.trans f3.r
    have hX : (match claP T 0 0 with
      | .inl f => .inl f
      | .inr q => if q.1 < N then (if T q.1 = 59 then txtP T N 12 (q.1 + 1) ([] ++ [q.2]) else .inl (-1000 - (q.1 : Int))) else .inr ([] ++ [q.2])) = Xr := hX
    have o3 : rstY (claP T 0 0) (fun f => v1 = some (vI 0) ∧ g3 22 4 = f) (fun q => v1 = some (vI 1) ∧ CR g3 r dc T N q.1 (ofs ([] ++ [q.2]) ([] ++ [q.2]).length) ∧ CL g3 dc ([] ++ [q.2])) := o3
    cases hcl : claP T 0 0 with
    | inl f =>
      rw [hcl] at o3 hX
      obtain ⟨rfl, h34⟩ := o3
      refine R_istore_n dX6_read_66 (by decide) rfl [_, _, _, _, _] rfl ?_
      refine R_iconst dX6_read_67 rfl rfl ?_
      refine R_istore dX6_read_68 (by decide) rfl [_, _, _, _, _] rfl ?_
      exact out _ _ f f13 h34 hX.symm
    | inr q =>
      rw [hcl] at o3 hX
      obtain ⟨rfl, H3, hL3⟩ := o3
      refine R_istore_n dX6_read_66 (by decide) rfl [_, _, _, _, _] rfl ?_
      refine R_iconst dX6_read_67 rfl rfl ?_
      refine R_istore dX6_read_68 (by decide) rfl [_, _, _, _, _] rfl ?_
      exact loop 12 q.1 [q.2] g3 rfl (by simp) f13 H3 hL3 hX
  have copy : ∀ (n i : Nat) (g1 : GG), i + n = N → (∀ c', c' ≠ 22 → c' ≠ 23 → g1 c' = g c') → g1 22 2 = (N : Int) → (∀ j, j < i → g1 23 j = T j) → RJ (mX6_read (rmD 41 0 0)) 0 0 shW.length Q 0 0 shW 15 [some (vR (some 22)), some (vR (some 19)), some (vI ((N : Int))), some (vI ((i : Int))), none] [] g1 z r := by
    intro n
    induction n with
    | zero =>
      intro i g1 hi f1 h22 h23
      refine R_iload_n dX6_read_15 rfl ?_
      refine R_aload_n dX6_read_16 rfl ?_
      refine R_getI fd6_2 kf6_28 rfl dX6_read_17 ?_
      rw [h22]
      refine R_icmp_ge 45 dX6_read_20 (by decide) (fun hc20 => ?_) (fun hc20 => ?_)
      · exact start g1 _ f1 h22 (fun j hj => h23 j (by omega))
      · exact absurd (by omega) hc20
    | succ n ih =>
      intro i g1 hi f1 h22 h23
      refine R_iload_n dX6_read_15 rfl ?_
      refine R_aload_n dX6_read_16 rfl ?_
      refine R_getI fd6_2 kf6_28 rfl dX6_read_17 ?_
      rw [h22]
      refine R_icmp_ge 45 dX6_read_20 (by decide) (fun hc20 => ?_) (fun hc20 => ?_)
      · exact absurd hc20 (by omega)
      refine R_aload_n dX6_read_23 rfl ?_
      refine R_getR _ (hr _ _ _ rfl) fd6_0 kf6_9 rfl dX6_read_24 ?_
      refine R_iload_n dX6_read_27 rfl ?_
      refine R_aload_n dX6_read_28 rfl ?_
      refine R_iload_n dX6_read_29 rfl ?_
      refine R_callV (c_X8_at hr (by rw [f1 19 (by decide) (by decide)]; omega) (i : Int) (by rw [f1 19 (by decide) (by decide)]; omega)) (mvX8_at _) kiX8_at kvX8_at km6_32 rfl rfl (by decide) ⟨rfl, rfl, by decide, by decide⟩ (Nat.le_of_ble_eq_true rfl) dX6_read_30 (fun v1 sh1 g2 z1 r1 hq => ?_)
      obtain ⟨rfl, rfl, rfl, rfl, rfl⟩ := hq
      rw [Int.toNat_natCast, f1 20 (by decide) (by decide)]
      refine R_sipush dX6_read_33 rfl (by decide +kernel) ?_
      refine R_iand dX6_read_36 ?_
      refine R_i2c dX6_read_37 ?_
      rw [b16_and]
      refine R_cast rfl (vnar_and _) (by omega) (by omega) dX6_read_38 ?_
      rw [Int.toNat_natCast]
      refine R_iincN dX6_read_39 rfl (by decide) rfl (by unfold inI; omega) [_, _, _, _, _] rfl ?_
      refine R_goto 15 dX6_read_42 (by decide) ?_
      refine ih (i + 1) _ (by omega) (fun c' a b => by rw [up2_ne b]; exact f1 c' a b) (by rw [up2_ne (by decide)]; exact h22) (fun j hj => ?_)
      by_cases hji : j = i
      · subst hji; rw [up2_s, hTi j (by omega)]
      · rw [up2_k hji]; exact h23 j (by omega)
  refine R_aload_n dX6_read_0 rfl ?_
  refine R_iload_n dX6_read_1 rfl ?_
  refine R_aload_n dX6_read_2 rfl ?_
  refine R_getR _ (hr _ _ _ rfl) fd6_0 kf6_9 rfl dX6_read_3 ?_
  refine R_alen14 rfl (by decide) dX6_read_6 ?_
  refine R_mmin km6_22 (by decide) (by decide) (by decide) (by decide) dX6_read_7 ?_
  rw [if_neg (by omega)]
  refine R_putI fd6_2 rfl kf6_28 rfl dX6_read_10 ?_
  refine R_iconst dX6_read_13 rfl rfl ?_
  refine R_istore_n dX6_read_14 (by decide) rfl [_, _, _, _, _] rfl ?_
  exact copy N 0 _ (by omega) (fun c' a _ => up2_ne a) up2_s (fun j hj => by omega)
end READ
