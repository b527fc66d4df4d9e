/-- the children stand asked in the reference -/
def AskM (g' : GG) (s : VW) (L : Nat → Int) (c : Nat) (l : List Nat) : Prop := ∀ j, j < l.length → g' 102 j = chL (L j) ∧ g' 103 j = duS s L c l j
theorem facA0 {s : VW} {c : Nat} {l : List Nat} {j : Nat} : facA s c l j 0 = facS s c l j := by
  funext k
  unfold facA
  split
  · rename_i h; subst h; simp
  · rfl
theorem ltA0 {s : VW} {K : Nat → CUS} {a b Y : Int} {c : Nat} {l : List Nat} {j : Nat} : ltA s K a b Y c l j 0 = ltS s K a b Y c l j := by
  unfold ltA ltS
  rw [facA0]
theorem fF_lt {K : CUS} (hK : ∀ q ∈ K, q.1 < 8) {th : Nat} {e : Nat → Int} : -1 ≤ fF K th e ∧ fF K th e < 8 := by
  unfold fF
  cases h : K.find? (fun q => th.testBit q.1 && q.2 e) with
  | none => simp
  | some q => have := hK q (List.mem_of_find?_eq_some h); simp; omega
theorem kmK_8 {g : GG} {K : Nat → CUS} (hK : kmK g K) {k : Nat} (hk : k < 4) : ∀ q ∈ K k, q.1 < 8 := by
  intro q hq
  obtain ⟨j, hj⟩ := List.getElem?_of_mem hq
  exact ((hK k hk).2.2 j q hj).2.1
theorem selK_8 {K : Nat → CUS} (hK : ∀ k, k < 4 → ∀ q ∈ K k, q.1 < 8) {a b Y y : Int} : ∀ q ∈ selK K a b Y y, q.1 < 8 := by
  unfold selK
  generalize (if y < Y then a else b) = e
  intro q hq
  split at hq
  · exact hK _ (by omega) q hq
  · cases hq
theorem ltA_lt {s : VW} {K : Nat → CUS} (hK : ∀ k, k < 4 → ∀ q ∈ K k, q.1 < 8) {a b Y : Int} {c : Nat} {l : List Nat} {j x : Nat} : -1 ≤ ltA s K a b Y c l j x ∧ ltA s K a b Y c l j x < 8 := fF_lt (selK_8 hK)
theorem ltS_lt {s : VW} {K : Nat → CUS} (hK : ∀ k, k < 4 → ∀ q ∈ K k, q.1 < 8) {a b Y : Int} {c : Nat} {l : List Nat} {j : Nat} : -1 ≤ ltS s K a b Y c l j ∧ ltS s K a b Y c l j < 8 := fF_lt (selK_8 hK)
theorem ltS_bit {s : VW} {K : Nat → CUS} {a b Y : Int} {c : Nat} {l : List Nat} {j q : Nat} (h : ltS s K a b Y c l j = (q : Int)) : (thS s l j).testBit q = true := by
  rcases fF_bit (K := selK K a b Y (s 9 (l.getD j 0))) (th := thS s l j) (e := facS s c l j) with q1 | ⟨q', q1, q2⟩
  · have : ltS s K a b Y c l j = -1 := q1
    omega
  · have : ltS s K a b Y c l j = (q' : Int) := q1
    have : q' = q := by omega
    rw [← this]; exact q2
theorem ltA_bit {s : VW} {K : Nat → CUS} {a b Y : Int} {c : Nat} {l : List Nat} {j x q : Nat} (h : ltA s K a b Y c l j x = (q : Int)) : (thS s l j).testBit q = true := by
  rcases fF_bit (K := selK K a b Y (s 9 (l.getD j 0))) (th := thS s l j) (e := facA s c l j x) with q1 | ⟨q', q1, q2⟩
  · have : ltA s K a b Y c l j x = -1 := q1
    omega
  · have : ltA s K a b Y c l j x = (q' : Int) := q1
    have : q' = q := by omega
    rw [← this]; exact q2
theorem thS_7 {s : VW} {l : List Nat} {j : Nat} (h : (thS s l j).testBit 7 = true) : ddN s (l.getD j 0) (l.take j) ≠ -1 := by
  intro q
  unfold thS at h
  rw [if_pos q] at h
  revert h
  split <;> split <;> decide
theorem thS_6 {s : VW} {l : List Nat} {j : Nat} (h : (thS s l j).testBit 6 = true) : s 12 (l.getD j 0) ≠ -1 := by
  intro q
  unfold thS at h
  rw [if_pos q] at h
  revert h
  split <;> split <;> decide
section MPTS
variable {g z : GG} {r : RR}
/-- what the reference's families rest on -/
def MP (g : GG) (r : RR) (K : Nat → CUS) : Prop := RS r ∧ BM g ∧ BM2 g ∧ kmK g K
theorem SM.MP {g g' : GG} {r : RR} {K : Nat → CUS} (h : SM g g') (H : MP g r K) : MP g' r K := ⟨H.1, h.BM H.2.1, h.BM2 H.2.2.1, h.kmK H.2.2.2⟩
theorem m_asks (K : Nat → CUS) (H : MP g r K) (c : Nat) (hc6 : c < 6) (hgc : g 74 45 = (c : Int)) (l : List Nat) (hl : FamM g l) (hm : ∀ a ∈ l, (a : Int) < g 74 4) (hll : l.length ≤ 10) (hA : -1 ≤ g 74 5 ∧ g 74 5 < 4) (hA2 : -1 ≤ g 74 6 ∧ g 74 6 < 4) : CT (mX12_asks (rmD 4 0 0)) 0 0 shW [vR (some 74)] g z r (qG shW z r fun v g' => v = none ∧ (∀ c', c' ≤ 101 ∨ 106 ≤ c' → g' c' = g c') ∧ AskM g' (vM g) (ltS (vM g) K (g 74 5) (g 74 6) (g 74 7) c l) c l) := by
  obtain ⟨hr, hB, hB2, hK⟩ := id H
  refine CT.of 2 rfl rfl ?_
  have hm10 : ∀ a ∈ l, a < 10 := fun a ha => by have := hm a ha; have := hB2.2.2.2.2.2.1; omega
  generalize hLd : ltS (vM g) K (g 74 5) (g 74 6) (g 74 7) c l = L
  have hL8 : ∀ j, -1 ≤ L j ∧ L j < 8 := fun j => by rw [← hLd]; exact ltS_lt (fun k hk => kmK_8 hK hk)
  have hLb : ∀ j q : Nat, L j = (q : Int) → (thS (vM g) l j).testBit q = true := fun j q h => by rw [← hLd] at h; exact ltS_bit h
  generalize hQ : (qG shW z r fun v g' => v = none ∧ (∀ c', c' ≤ 101 ∨ 106 ≤ c' → g' c' = g c') ∧ AskM g' (vM g) L c l) = Q
  have hcong : ∀ g' : GG, (∀ c', c' ≤ 101 ∨ 106 ≤ c' → g' c' = g c') → SM g g' ∧ FamM g' l ∧ g' 74 = g 74 := fun g' h => ⟨⟨fun c' a b => h c' (by omega), fun k a b => by rw [h 74 (by omega)]⟩, FamM_cong (by rw [h 74 (by omega)]) (h 101 (by omega)) hl, h 74 (by omega)⟩
  have loop2 : ∀ (n k : Nat) (g' : GG) (a2 : Option AV), k + n = l.length → (∀ c', c' ≤ 101 ∨ 106 ≤ c' → g' c' = g c') → (∀ j, j < l.length → g' 102 j = chL (L j)) → (∀ j, j < k → g' 103 j = duS (vM g) L c l j) → RJ (mX12_asks (rmD 4 0 0)) 0 0 shW.length Q 0 0 shW 30 [some (vR (some 74)), some (vI (k : Int)), a2] [] g' z r := by
    intro n
    induction n with
    | zero =>
      intro k g' a2 hk q1 q2 q3
      obtain ⟨k1, k2, k3⟩ := hcong g' q1
      refine R_iload_n dX12_asks_30 rfl ?_
      refine R_aload_n dX12_asks_31 rfl ?_
      refine R_getI fd12_46 kf12_321 rfl dX12_asks_32 ?_
      rw [k2.1]
      refine R_icmp_ge 107 dX12_asks_35 (by decide) (fun hc35 => ?_) (fun hc35 => ?_)
      · refine R_return rfl (by decide) (by decide) dX12_asks_107 ?_
        rw [← hQ]
        exact ⟨⟨rfl, q1, fun j hj => ⟨q2 j hj, q3 j (by omega)⟩⟩, rfl, rfl, rfl⟩
      · exact absurd (by omega) hc35
    | succ n ih =>
      intro k g' a2 hk q1 q2 q3
      obtain ⟨k1, k2, k3⟩ := hcong g' q1
      have hkl : k < l.length := by omega
      have fin : ∀ (g2 : GG) (y : Int), y = duS (vM g) L c l k → (∀ c', c' ≠ 103 → g2 c' = g' c') → (∀ j, j ≠ k → g2 103 j = g' 103 j) → ∀ a2 : Option AV, RJ (mX12_asks (rmD 4 0 0)) 0 0 shW.length Q 0 0 shW 100 [some (vR (some 74)), some (vI (k : Int)), a2] [vI y, vI (k : Int), vR (some 103)] g2 z r := by
        intro g2 y hy w1 w2 a2
        refine R_iast rfl (by omega) (by omega) dX12_asks_100 ?_
        refine R_iincN dX12_asks_101 rfl (by decide) rfl (by unfold inI; omega) [_, _, _] rfl ?_
        refine R_goto 30 dX12_asks_104 (by decide) ?_
        rw [Int.toNat_natCast]
        refine ih (k + 1) _ _ (by omega) (fun c' a => by rw [up2_ne (by omega), w1 c' (by omega)]; exact q1 c' a) (fun j hj => by rw [up2_far (by decide), w1 102 (by decide)]; exact q2 j hj) (fun j hj => ?_)
        by_cases e : j = k
        · subst e; rw [up2_s]; exact hy
        · rw [up2_k e, w2 j e]; exact q3 j (by omega)
      refine R_iload_n dX12_asks_30 rfl ?_
      refine R_aload_n dX12_asks_31 rfl ?_
      refine R_getI fd12_46 kf12_321 rfl dX12_asks_32 ?_
      rw [k2.1]
      refine R_icmp_ge 107 dX12_asks_35 (by decide) (fun hc35 => ?_) (fun hc35 => ?_)
      · exact absurd hc35 (by omega)
      refine R_aload_n dX12_asks_38 rfl ?_
      refine R_getR _ (hr _ _ _ rfl) fd12_49 kf12_111 rfl dX12_asks_39 ?_
      refine R_iload_n dX12_asks_42 rfl ?_
      refine R_bipush dX12_asks_43 rfl (by decide +kernel) ?_
      refine R_iast rfl (by omega) (by omega) dX12_asks_45 ?_
      refine R_aload_n dX12_asks_46 rfl ?_
      refine R_getR _ (hr _ _ _ rfl) fd12_48 kf12_108 rfl dX12_asks_47 ?_
      try simp +decide only [up2_far, up2_s, up2_kk]
      refine R_iload_n dX12_asks_50 rfl ?_
      refine R_iald rfl (by omega) (by omega) dX12_asks_51 ?_
      try simp +decide only [up2_far, up2_s, up2_kk]
      simp only [Int.toNat_natCast]
      rw [q2 k hkl]
      have hL8k := hL8 k
      refine R_if_ne 58 dX12_asks_52 (by decide) (fun hc52 => ?_) (fun hc52 => ?_)
      · have hge : 0 ≤ L k := by
          by_cases q : L k = -1
          · exact absurd ((chL_z (hL8 k)).mpr q) hc52
          · omega
        obtain ⟨q, hq⟩ : ∃ q : Nat, L k = (q : Int) := ⟨(L k).toNat, by omega⟩
        have hbit := hLb k q hq
        have hdu : duS (vM g) L c l k = if q < 4 then heS (vM g) L c l q else toldS (vM g) c l k q := by
          unfold duS toldS
          rw [hq]
          simp only [Int.toNat_natCast]
          rw [if_neg (by omega)]
          by_cases h4 : q < 4
          · rw [if_pos (by omega), if_pos h4]
          · rw [if_neg (by omega), if_neg h4, if_neg h4]
            have a4 : ((q : Int) = 4) ↔ q = 4 := by omega
            have a5 : ((q : Int) = 5) ↔ q = 5 := by omega
            have a6 : ((q : Int) = 6) ↔ q = 6 := by omega
            simp only [a4, a5, a6]
        have hg2 : ∀ c', c' ≤ 101 ∨ 106 ≤ c' → (up2 g' 103 k (-2)) c' = g c' := fun c' a => by rw [up2_ne (by omega)]; exact q1 c' a
        obtain ⟨m1, m2, m3⟩ := hcong _ hg2
        have hL2 : ∀ j, j < l.length → (up2 g' 103 k (-2)) 102 j = chL (L j) ∧ -1 ≤ L j ∧ L j < 8 := fun j hj => ⟨by rw [up2_far (by decide)]; exact q2 j hj, hL8 j⟩
        refine R_aload_n dX12_asks_58 rfl ?_
        refine R_aload_n dX12_asks_59 rfl ?_
        refine R_getR _ (hr _ _ _ rfl) fd12_48 kf12_108 rfl dX12_asks_60 ?_
        refine R_iload_n dX12_asks_63 rfl ?_
        refine R_iald rfl (by omega) (by omega) dX12_asks_64 ?_
        rw [up2_far (by decide), Int.toNat_natCast, q2 k hkl, hq]
        refine R_iload_n dX12_asks_65 rfl ?_
        refine R_callV (m_told hr (m1.BM hB) c hc6 (by rw [m3]; exact hgc) l m2 hm10 hll k hkl q (by omega) (fun e => by rw [m1.vM]; subst e; exact thS_7 hbit)) (mvX12_told _) kiX12_told kvX12_told km12_373 rfl rfl (by decide) ⟨rfl, rfl, by decide, by decide⟩ (Nat.le_of_ble_eq_true rfl) dX12_asks_66 (fun v1 sh1 g1 z1 r1 hq => ?_)
        obtain ⟨rfl, rfl, rfl, rfl, rfl⟩ := hq
        rw [m1.vM]
        refine R_istore_n dX12_asks_69 (by decide) rfl [_, _, _] rfl ?_
        refine R_aload_n dX12_asks_70 rfl ?_
        refine R_getR _ (hr _ _ _ rfl) fd12_49 kf12_111 rfl dX12_asks_71 ?_
        refine R_iload_n dX12_asks_74 rfl ?_
        refine R_iload_n dX12_asks_75 rfl ?_
        refine R_iconst dX12_asks_76 rfl rfl ?_
        refine R_icmp_ne 99 dX12_asks_77 (by decide) (fun hc77 => ?_) (fun hc77 => ?_)
        · refine R_iload_n dX12_asks_99 rfl ?_
          refine fin _ _ ?_ (fun c' a => up2_ne a) (fun j hj => up2_k hj) _
          rw [hdu]
          by_cases h4 : q < 4
          · rw [if_pos h4, heS]
            have e : toldS (vM g) c l k q = (vM g) 7 (c * 4 + q) := by unfold toldS; rw [if_pos h4]
            rw [e] at hc77 ⊢
            rw [if_neg hc77]
          · rw [if_neg h4]
        · have h4 : q < 4 := by
            have b1 := hB2.1 c
            have b2 : toldS (vM g) c l k q = -1 := hc77
            rcases (show q < 4 ∨ q = 4 ∨ q = 5 ∨ q = 6 ∨ q = 7 by omega) with h | rfl | rfl | rfl | rfl
            · exact h
            · have : toldS (vM g) c l k 4 = g 78 c := rfl
              omega
            · have : toldS (vM g) c l k 5 = g 79 c := rfl
              omega
            · exact absurd b2 (thS_6 hbit)
            · exact absurd b2 (thS_7 hbit)
          have e : toldS (vM g) c l k q = (vM g) 7 (c * 4 + q) := by unfold toldS; rw [if_pos h4]
          have hlk : (vM g) 7 (c * 4 + q) = -1 := by rw [← e]; exact hc77
          refine R_aload_n dX12_asks_80 rfl ?_
          refine R_aload_n dX12_asks_81 rfl ?_
          refine R_getR _ (hr _ _ _ rfl) fd12_48 kf12_108 rfl dX12_asks_82 ?_
          refine R_iload_n dX12_asks_85 rfl ?_
          refine R_iald rfl (by omega) (by omega) dX12_asks_86 ?_
          rw [up2_far (by decide), Int.toNat_natCast, q2 k hkl, hq]
          refine R_callS (m_parentBy (chL (q : Int))) (mvX12_parentBy _) ksX12_parentBy km12_357 ⟨rfl, rfl, by decide, by decide⟩ (Nat.le_of_ble_eq_true rfl) dX12_asks_87 (fun v1 sh1 g1 z1 r1 hq => ?_)
          obtain ⟨rfl, rfl, rfl, rfl, rfl⟩ := hq
          rw [pbM_ch (by omega), if_pos (by omega)]
          refine R_callV (m_bestNames hr (m1.BM hB) (m1.BM2 hB2) l m2 hm10 hll L hL2 q h4) (mvX12_bestNames _) kiX12_bestNames kvX12_bestNames km12_376 rfl rfl (by decide) ⟨rfl, rfl, by decide, by decide⟩ (Nat.le_of_ble_eq_true rfl) dX12_asks_90 (fun v1 sh1 g1 z1 r1 hq => ?_)
          obtain ⟨rfl, rfl, rfl, rfl, rfl⟩ := hq
          rw [m1.vM]
          have hnz : nfS (vM g) L l q ≠ 0 := by
            unfold nfS
            have hany : anyL L l.length (q : Int) = true := by
              unfold anyL
              rw [List.any_eq_true]
              exact ⟨k, List.mem_range.mpr hkl, decide_eq_true hq⟩
            rw [if_pos hany]
            rcases nfA_ne hB (L := L) hll (w := q) ((vM g) 0 0).toNat with h | h
            · exact h.1
            · exfalso
              have hpar := thS_par (s := vM g) (l := l) (j := k) (by have := hB.2.2.1 (g 83 (l.getD k 0)).toNat; exact this) hbit h4
              have ha := hm _ (getD_mem hkl)
              have hn1 := hB2.2.2.2.2.2.2 _ ha
              have hn0 := hB.2.1 (l.getD k 0)
              refine h.2 (g 83 (l.getD k 0)).toNat ?_ ?_
              · show (g 83 (l.getD k 0)).toNat < (g 74 2).toNat
                omega
              · rw [hpar]; rfl
          refine R_callS (m_lowestOf (nfS (vM g) L l q) (nfS_lt (by show (g 74 2).toNat ≤ 16; have := hB2.2.2.2.1; omega)) hnz) (mvX12_lowestOf _) ksX12_lowestOf km12_379 ⟨rfl, rfl, by decide, by decide⟩ (Nat.le_of_ble_eq_true rfl) dX12_asks_93 (fun v1 sh1 g1 z1 r1 hq => ?_)
          obtain ⟨rfl, rfl, rfl, rfl, rfl⟩ := hq
          refine R_goto 100 dX12_asks_96 (by decide) ?_
          exact fin _ _ (by rw [hdu, if_pos h4, heS, if_pos hlk]) (fun c' a => up2_ne a) (fun j hj => up2_k hj) _
      · have hneg : L k = -1 := (chL_z (hL8 k)).mp hc52
        refine R_goto 101 dX12_asks_55 (by decide) ?_
        refine R_iincN dX12_asks_101 rfl (by decide) rfl (by unfold inI; omega) [_, _, _] rfl ?_
        refine R_goto 30 dX12_asks_104 (by decide) ?_
        refine ih (k + 1) _ _ (by omega) (fun c' a => by rw [up2_ne (by omega)]; exact q1 c' a) (fun j hj => by rw [up2_far (by decide)]; exact q2 j hj) (fun j hj => ?_)
        by_cases e : j = k
        · subst e; rw [up2_s, duS, if_pos (by omega)]
        · rw [up2_k e]; exact q3 j (by omega)
  have loop1 : ∀ (n k : Nat) (g' : GG), k + n = l.length → (∀ c', c' ≤ 101 ∨ 106 ≤ c' → g' c' = g c') → (∀ j, j < k → g' 102 j = chL (L j)) → RJ (mX12_asks (rmD 4 0 0)) 0 0 shW.length Q 0 0 shW 2 [some (vR (some 74)), some (vI ((k : Int))), none] [] g' z r := by
    intro n
    induction n with
    | zero =>
      intro k g' hk q1 q2
      obtain ⟨k1, k2, k3⟩ := hcong g' q1
      refine R_iload_n dX12_asks_2 rfl ?_
      refine R_aload_n dX12_asks_3 rfl ?_
      refine R_getI fd12_46 kf12_321 rfl dX12_asks_4 ?_
      rw [k2.1]
      refine R_icmp_ge 28 dX12_asks_7 (by decide) (fun hc7 => ?_) (fun hc7 => ?_)
      · refine R_iconst dX12_asks_28 rfl rfl ?_
        refine R_istore_n dX12_asks_29 (by decide) rfl [_, _, _] rfl ?_
        exact loop2 l.length 0 g' _ (by omega) q1 (fun j hj => q2 j (by omega)) (fun j hj => absurd hj (by omega))
      · exact absurd (by omega) hc7
    | succ n ih =>
      intro k g' hk q1 q2
      obtain ⟨k1, k2, k3⟩ := hcong g' q1
      refine R_iload_n dX12_asks_2 rfl ?_
      refine R_aload_n dX12_asks_3 rfl ?_
      refine R_getI fd12_46 kf12_321 rfl dX12_asks_4 ?_
      rw [k2.1]
      refine R_icmp_ge 28 dX12_asks_7 (by decide) (fun hc7 => ?_) (fun hc7 => ?_)
      · exact absurd hc7 (by omega)
      refine R_aload_n dX12_asks_10 rfl ?_
      refine R_getR _ (hr _ _ _ rfl) fd12_48 kf12_108 rfl dX12_asks_11 ?_
      refine R_iload_n dX12_asks_14 rfl ?_
      refine R_aload_n dX12_asks_15 rfl ?_
      refine R_iload_n dX12_asks_16 rfl ?_
      refine R_iconst dX12_asks_17 rfl rfl ?_
      refine R_callV (m_letterOf hr (k1.BM hB) K (k1.kmK hK) c hc6 (by rw [k3]; exact hgc) l k2 hm10 hll k (by omega) 0 (by omega) (by rw [k3]; exact hA) (by rw [k3]; exact hA2)) (mvX12_letterOf _) kiX12_letterOf kvX12_letterOf km12_370 rfl rfl (by decide) ⟨rfl, rfl, by decide, by decide⟩ (Nat.le_of_ble_eq_true rfl) dX12_asks_18 (fun v1 sh1 g1 z1 r1 hq => ?_)
      obtain ⟨⟨rfl, o1⟩, rfl, rfl, rfl⟩ := hq
      rw [ltA0, k1.vM, k3, hLd]
      refine R_iast rfl (by omega) (by omega) dX12_asks_21 ?_
      refine R_iincN dX12_asks_22 rfl (by decide) rfl (by unfold inI; omega) [_, _, _] rfl ?_
      refine R_goto 2 dX12_asks_25 (by decide) ?_
      rw [Int.toNat_natCast]
      refine ih (k + 1) _ (by omega) (fun c' a => by rw [up2_ne (by omega), o1 c' (by omega) (by omega)]; exact q1 c' a) (fun j hj => ?_)
      by_cases e : j = k
      · subst e; rw [up2_s]
      · rw [up2_k e, o1 102 (by decide) (by decide)]; exact q2 j (by omega)
  refine R_iconst dX12_asks_0 rfl rfl ?_
  refine R_istore_n dX12_asks_1 (by decide) rfl [_, _, _] rfl ?_
  exact loop1 l.length 0 g (by omega) (fun _ _ => rfl) (fun j hj => absurd hj (by omega))
theorem duS_ne {g : GG} (hB : BM g) (hB2 : BM2 g) {L : Nat → Int} {c : Nat} {l : List Nat} {k : Nat} (hk : 0 ≤ L k) : duS (vM g) L c l k ≠ -2 := by
  have b1 := hB2.1 c
  have b3 := hB2.2.2.1 (l.getD k 0)
  have e1 : (vM g) 3 c = g 78 c := rfl
  have e2 : (vM g) 4 c = g 79 c := rfl
  have e3 : (vM g) 12 (l.getD k 0) = g 87 (l.getD k 0) := rfl
  have e4 : -1 ≤ ddN (vM g) (l.getD k 0) (l.take k) := by
    unfold ddN
    split
    · rename_i e _; have := (hB.2.1 e).1; have : (vM g) 8 e = g 83 e := rfl; omega
    · omega
  have lowge : ∀ (b n k : Nat), -1 ≤ lowF b n k := by
    intro b n
    induction n with
    | zero => intro k; simp [lowF]
    | succ n ih => intro k; unfold lowF; split; omega; exact ih _
  have e5 : ∀ w, -1 ≤ heS (vM g) L c l w := by
    intro w
    unfold heS
    split
    · exact lowge _ _ _
    · have := hB2.2.1 (c * 4 + w); exact this
  have := e5 (L k).toNat
  unfold duS
  rw [if_neg (by omega), e1, e2, e3]
  split
  · omega
  · split
    · omega
    · split
      · omega
      · split <;> omega
theorem m_pointsOf (K : Nat → CUS) (H : MP g r K) (c : Nat) (hc6 : c < 6) (set : Nat) (hset : set < 1024) (hA : -1 ≤ g 74 5 ∧ g 74 5 < 4) (hA2 : -1 ≤ g 74 6 ∧ g 74 6 < 4) : CT (mX12_pointsOf (rmD 5 0 0)) 0 0 shW [vR (some 74), vI (c : Int), vI (set : Int)] g z r (qG shW z r fun v g' => SM g g' ∧ v = some (vI (ptS (vM g) K (g 74 5) (g 74 6) (g 74 7) c (kM (g 84) set (g 74 4).toNat)))) := by
  obtain ⟨hr, hB, hB2, hK⟩ := id H
  have hF := hB2.2.2.2.2.2.1
  refine CT.of 2 rfl rfl ?_
  generalize hl' : kM (g 84) set (g 74 4).toNat = l
  have hmem : ∀ a ∈ l, (a : Int) < g 74 4 := fun a ha => by rw [← hl'] at ha; have := (kM_mem.mp ha).1; omega
  have hlen : l.length ≤ 10 := by have := kM_len (yr := g 84) (set := set) (g 74 4).toNat; rw [hl'] at this; omega
  generalize hQ : (qG shW z r fun v g' => SM g g' ∧ v = some (vI (ptS (vM g) K (g 74 5) (g 74 6) (g 74 7) c l))) = Q
  refine R_aload_n dX12_pointsOf_0 rfl ?_
  refine R_iload_n dX12_pointsOf_1 rfl ?_
  refine R_iload_n dX12_pointsOf_2 rfl ?_
  refine R_callV (m_takes hr hF (c : Int) set hset) (mvX12_takes _) kiX12_takes kvX12_takes km12_382 rfl rfl (by decide) ⟨rfl, rfl, by decide, by decide⟩ (Nat.le_of_ble_eq_true rfl) dX12_pointsOf_3 (fun v1 sh1 g1 z1 r1 hq => ?_)
  obtain ⟨⟨rfl, o1, o2, o3, o4⟩, rfl, rfl, rfl⟩ := hq
  rw [hl'] at o4
  have s1 : SM g g1 := ⟨fun c' a b => o1 c' a (by omega), o2⟩
  refine R_aload_n dX12_pointsOf_6 rfl ?_
  refine R_callV (m_asks K (s1.MP H) c hc6 o3 l o4 (by rw [o2 4 (by decide) (by decide)]; exact hmem) hlen (by rw [o2 5 (by decide) (by decide)]; exact hA) (by rw [o2 6 (by decide) (by decide)]; exact hA2)) (mvX12_asks _) kiX12_asks kvX12_asks km12_385 rfl rfl (by decide) ⟨rfl, rfl, by decide, by decide⟩ (Nat.le_of_ble_eq_true rfl) dX12_pointsOf_7 (fun v1 sh1 g2 z1 r1 hq => ?_)
  obtain ⟨⟨rfl, p1, p2⟩, rfl, rfl, rfl⟩ := hq
  rw [s1.vM, o2 5 (by decide) (by decide), o2 6 (by decide) (by decide), o2 7 (by decide) (by decide)] at p2
  have s2 : SM g g2 := ⟨fun c' a b => (p1 c' (by omega)).trans (s1.1 c' a b), fun k a b => by rw [p1 74 (by omega)]; exact s1.2 k a b⟩
  have hl2 : FamM g2 l := FamM_cong (by rw [p1 74 (by omega)]) (p1 101 (by omega)) o4
  have hL8 : ∀ j, -1 ≤ ltS (vM g) K (g 74 5) (g 74 6) (g 74 7) c l j ∧ ltS (vM g) K (g 74 5) (g 74 6) (g 74 7) c l j < 8 := fun j => ltS_lt (fun k hk => kmK_8 hK hk)
  unfold ptS at hQ
  generalize ltS (vM g) K (g 74 5) (g 74 6) (g 74 7) c l = L at *
  have hm10 : ∀ a ∈ l, a < 10 := fun a ha => by have := hmem a ha; omega
  have loop : ∀ (n k : Nat), k + n = l.length → RJ (mX12_pointsOf (rmD 5 0 0)) 0 0 shW.length Q 0 0 shW 15 [some (vR (some 74)), some (vI (c : Int)), some (vI (set : Int)), some (vI (ptU (vM g) L c l k)), some (vI (k : Int))] [] g2 z r := by
    intro n
    induction n with
    | zero =>
      intro k hk
      refine R_iload dX12_pointsOf_15 rfl ?_
      refine R_aload_n dX12_pointsOf_17 rfl ?_
      refine R_getI fd12_46 kf12_321 rfl dX12_pointsOf_18 ?_
      rw [hl2.1]
      refine R_icmp_ge 60 dX12_pointsOf_21 (by decide) (fun hc21 => ?_) (fun hc21 => ?_)
      · refine R_iload_n dX12_pointsOf_60 rfl ?_
        refine R_ireturn rfl (by first | rfl | exact nar_b2i | exact nar_bi) (by decide) (by decide) dX12_pointsOf_61 ?_
        rw [← hQ]
        exact ⟨⟨s2, by rw [show l.length = k by omega]⟩, rfl, rfl, rfl⟩
      · exact absurd (by omega) hc21
    | succ n ih =>
      intro k hk
      have hkl : k < l.length := by omega
      have hb := ptU_m hB L c l k
      have hb1 := gainS_m hB (l.getD k 0) (duS (vM g) L c l k)
      have hn := ih (k + 1) (by omega)
      rw [ptU] at hn
      refine R_iload dX12_pointsOf_15 rfl ?_
      refine R_aload_n dX12_pointsOf_17 rfl ?_
      refine R_getI fd12_46 kf12_321 rfl dX12_pointsOf_18 ?_
      rw [hl2.1]
      refine R_icmp_ge 60 dX12_pointsOf_21 (by decide) (fun hc21 => ?_) (fun hc21 => ?_)
      · exact absurd hc21 (by omega)
      refine R_iload_n dX12_pointsOf_24 rfl ?_
      refine R_aload_n dX12_pointsOf_25 rfl ?_
      refine R_getR _ (hr _ _ _ rfl) fd12_48 kf12_108 rfl dX12_pointsOf_26 ?_
      refine R_iload dX12_pointsOf_29 rfl ?_
      refine R_iald rfl (by omega) (by omega) dX12_pointsOf_31 ?_
      rw [Int.toNat_natCast, (p2 k hkl).1]
      have hL8k := hL8 k
      refine R_if_ne 39 dX12_pointsOf_32 (by decide) (fun hc32 => ?_) (fun hc32 => ?_)
      · have hge : 0 ≤ L k := by
          by_cases q : L k = -1
          · exact absurd ((chL_z hL8k).mpr q) hc32
          · omega
        refine R_aload_n dX12_pointsOf_39 rfl ?_
        refine R_aload_n dX12_pointsOf_40 rfl ?_
        refine R_getR _ (hr _ _ _ rfl) fd12_49 kf12_111 rfl dX12_pointsOf_41 ?_
        refine R_iload dX12_pointsOf_44 rfl ?_
        refine R_iald rfl (by omega) (by omega) dX12_pointsOf_46 ?_
        rw [Int.toNat_natCast, (p2 k hkl).2]
        refine R_iload dX12_pointsOf_47 rfl ?_
        refine R_callV (m_pointsBy hr (s2.BM hB) l hl2 hm10 hlen k hkl (duS (vM g) L c l k) (duS_ne hB hB2 hge)) (mvX12_pointsBy _) kiX12_pointsBy kvX12_pointsBy km12_363 rfl rfl (by decide) ⟨rfl, rfl, by decide, by decide⟩ (Nat.le_of_ble_eq_true rfl) dX12_pointsOf_49 (fun v1 sh1 g1 z1 r1 hq => ?_)
        obtain ⟨rfl, rfl, rfl, rfl, rfl⟩ := hq
        rw [s2.vM]
        refine R_iaddN dX12_pointsOf_52 (by unfold inI; omega) ?_
        refine R_istore_n dX12_pointsOf_53 (by decide) rfl [_, _, _, _, _] rfl ?_
        refine R_iincN dX12_pointsOf_54 rfl (by decide) rfl (by unfold inI; omega) [_, _, _, _, _] rfl ?_
        refine R_goto 15 dX12_pointsOf_57 (by decide) ?_
        exact hn
      · have hneg : L k = -1 := (chL_z hL8k).mp hc32
        have : gainS (vM g) (l.getD k 0) (duS (vM g) L c l k) = 0 := by
          have : duS (vM g) L c l k = -2 := by rw [duS, if_pos (by omega)]
          rw [this, gainS, if_pos rfl]
        rw [this] at hn
        refine R_iconst dX12_pointsOf_35 rfl rfl ?_
        refine R_goto 52 dX12_pointsOf_36 (by decide) ?_
        refine R_iaddN dX12_pointsOf_52 (by unfold inI; omega) ?_
        refine R_istore_n dX12_pointsOf_53 (by decide) rfl [_, _, _, _, _] rfl ?_
        refine R_iincN dX12_pointsOf_54 rfl (by decide) rfl (by unfold inI; omega) [_, _, _, _, _] rfl ?_
        refine R_goto 15 dX12_pointsOf_57 (by decide) ?_
        exact hn
  refine R_iconst dX12_pointsOf_10 rfl rfl ?_
  refine R_istore_n dX12_pointsOf_11 (by decide) rfl [_, _, _, _, _] rfl ?_
  refine R_iconst dX12_pointsOf_12 rfl rfl ?_
  refine R_istore dX12_pointsOf_13 (by decide) rfl [_, _, _, _, _] rfl ?_
  exact loop l.length 0 (by omega)
end MPTS
