def selK (K : Nat → CUS) (a b Y y : Int) : CUS := if 0 ≤ (if y < Y then a else b) ∧ (if y < Y then a else b) < 4 then K (if y < Y then a else b).toNat else []
/-- child j's letter (its place in FfMmPQSD), or -1 -/
def ltS (s : VW) (K : Nat → CUS) (a b Y : Int) (c : Nat) (l : List Nat) (j : Nat) : Int := fF (selK K a b Y (s 9 (l.getD j 0))) (thS s l j) (facS s c l j)
/-- the NAME that parent w has for these children -/
def heS (s : VW) (L : Nat → Int) (c : Nat) (l : List Nat) (w : Nat) : Int := if s 7 (c * 4 + w) = -1 then low (nfS s L l w) else s 7 (c * 4 + w)
def duS (s : VW) (L : Nat → Int) (c : Nat) (l : List Nat) (j : Nat) : Int := if L j < 0 then -2 else if L j < 4 then heS s L c l (L j).toNat else if L j = 4 then s 3 c else if L j = 5 then s 4 c else if L j = 6 then s 12 (l.getD j 0) else ddN s (l.getD j 0) (l.take j)
def ptU (s : VW) (L : Nat → Int) (c : Nat) (l : List Nat) : Nat → Int
  | 0 => 0
  | k + 1 => ptU s L c l k + gainS s (l.getD k 0) (duS s L c l k)
/-- POINTS of the FAMILY l of COUPLE c -/
def ptS (s : VW) (K : Nat → CUS) (a b Y : Int) (c : Nat) (l : List Nat) : Int := ptU s (ltS s K a b Y c l) c l l.length
def ciK (g : GG) (r : RR) (K : Nat → CUS) : Prop := ∀ k, k < 4 → CuIs g (tc r k) (K k)
def stc (c : Nat) : Prop := c = 29 ∨ c = 55 ∨ c = 61 ∨ c = 67 ∨ c = 73
theorem stc_cu {c : Nat} (h : isCu c) : stc (c + 5) := by unfold stc; rcases h with rfl | rfl | rfl | rfl | rfl <;> omega
theorem CuIs_cong {g g' : GG} {c : Nat} {K : CUS} (hc : isCu c) (h : ∀ c', ¬ stc c' → c' ≤ 31 ∨ 50 ≤ c' → g' c' = g c') (hK : CuIs g c K) : CuIs g' c K := by
  have h0 : g' c = g c := h c (by unfold stc; rcases hc with rfl | rfl | rfl | rfl | rfl <;> omega) (by rcases hc with rfl | rfl | rfl | rfl | rfl <;> omega)
  have h1 : g' (c + 1) = g (c + 1) := h _ (by unfold stc; rcases hc with rfl | rfl | rfl | rfl | rfl <;> omega) (by rcases hc with rfl | rfl | rfl | rfl | rfl <;> omega)
  have h2 : g' (c + 2) = g (c + 2) := h _ (by unfold stc; rcases hc with rfl | rfl | rfl | rfl | rfl <;> omega) (by rcases hc with rfl | rfl | rfl | rfl | rfl <;> omega)
  have h3 : g' (c + 3) = g (c + 3) := h _ (by unfold stc; rcases hc with rfl | rfl | rfl | rfl | rfl <;> omega) (by rcases hc with rfl | rfl | rfl | rfl | rfl <;> omega)
  have h4 : g' (c + 4) = g (c + 4) := h _ (by unfold stc; rcases hc with rfl | rfl | rfl | rfl | rfl <;> omega) (by rcases hc with rfl | rfl | rfl | rfl | rfl <;> omega)
  unfold CuIs
  rw [h0, h1, h2, h3, h4]
  exact hK
theorem fA_cong {e e' : Nat → Int} (h : ∀ k, k < 9 → e k = e' k) (v : Int) : fA e v = fA e' v := by
  unfold fA
  split
  · exact h _ (by omega)
  · rfl
theorem hC_env {sg va e e' : Nat → Int} {to : Nat} (h : ∀ k, k < 9 → e k = e' k) : ∀ (n st : Nat) (stk : List Int), hC sg va e to n st stk = hC sg va e' to n st stk := by
  intro n
  induction n with
  | zero => intro st stk; unfold hC; rfl
  | succ n ih =>
    intro st stk
    unfold hC
    simp only [ih, fA_cong h]
theorem fF_env {g : GG} {c : Nat} {K : CUS} (hK : CuIs g c K) {e e' : Nat → Int} (h : ∀ k, k < 9 → e k = e' k) (th : Nat) : fF K th e = fF K th e' := by
  have hq : ∀ q ∈ K, q.2 e = q.2 e' := by
    intro q hq
    obtain ⟨j, hj⟩ := List.getElem?_of_mem hq
    obtain ⟨-, -, fr, to, -, -, -, hm⟩ := hK.2.2.2 j q hj
    rw [← hm e, ← hm e', hC_env h]
  have hgen : ∀ (K' : CUS), (∀ q ∈ K', q.2 e = q.2 e') → K'.find? (fun q => th.testBit q.1 && q.2 e) = K'.find? (fun q => th.testBit q.1 && q.2 e') := by
    intro K'
    induction K' with
    | nil => intro _; rfl
    | cons q t ih =>
      intro hh
      rw [List.find?_cons, List.find?_cons, hh q (by simp), ih (fun x hx => hh x (by simp [hx]))]
  unfold fF
  rw [hgen K hq]
theorem gU_cong {s : VW} {L L' : Nat → Int} {l : List Nat} {w v : Int} : ∀ (k : Nat), (∀ j, j < k → L j = L' j) → gU s L l w v k = gU s L' l w v k := by
  intro k
  induction k with
  | zero => intro _; rfl
  | succ k ih => intro h; unfold gU; rw [ih (fun j hj => h j (by omega)), h k (by omega)]
theorem nfA_cong {s : VW} {L L' : Nat → Int} {l : List Nat} {w : Nat} (h : ∀ j, j < l.length → L j = L' j) : ∀ v, nfA s L l w v = nfA s L' l w v := by
  intro v
  induction v with
  | zero => rfl
  | succ v ih => unfold nfA; rw [ih, gU_cong l.length h]
theorem nfS_cong {s : VW} {L L' : Nat → Int} {l : List Nat} {w : Nat} (h : ∀ j, j < l.length → L j = L' j) : nfS s L l w = nfS s L' l w := by
  unfold nfS
  rw [nfA_cong h]
  have : anyL L l.length w = anyL L' l.length w := by
    unfold anyL
    rw [Bool.eq_iff_iff, List.any_eq_true, List.any_eq_true]
    constructor <;> (rintro ⟨j, hj, h1⟩; refine ⟨j, hj, ?_⟩; have := h j (List.mem_range.mp hj))
    · rw [← this]; exact h1
    · rw [this]; exact h1
  rw [this]
theorem nfS_lt {s : VW} {L : Nat → Int} {l : List Nat} {w : Nat} (h : (s 0 0).toNat ≤ 16) : nfS s L l w < 65536 := by
  unfold nfS
  split
  · exact Nat.lt_of_lt_of_le (nfA_lt _) (Nat.pow_le_pow_right (n := 2) (by decide) h)
  · decide
section ASK
variable {g z : GG} {r : RR}
theorem inY_sel {K : Nat → CUS} (hT : TL r) (hK : ciK g r K) (u : Nat) (y : Int) : (inY g r u y = none ∧ selK K (g u 1) (g u 2) (g u 3) y = []) ∨ ∃ k, k < 4 ∧ inY g r u y = some (tc r k) ∧ selK K (g u 1) (g u 2) (g u 3) y = K k := by
  unfold inY selK
  simp only
  generalize (if y < g u 3 then g u 1 else g u 2) = q
  unfold nCl
  by_cases h : 0 ≤ q ∧ q < 4
  · rw [if_pos h, if_pos h]
    have hk := hK q.toNat (by omega)
    by_cases h0 : 0 < g (tc r q.toNat) 6
    · rw [if_pos h0]
      exact Or.inr ⟨q.toNat, by omega, rfl, rfl⟩
    · rw [if_neg h0]
      refine Or.inl ⟨rfl, ?_⟩
      have := hk.1
      have : (K q.toNat).length = 0 := by omega
      exact List.length_eq_zero_iff.mp this
  · rw [if_neg h, if_neg h, if_neg (by omega)]
    exact Or.inl ⟨rfl, rfl⟩
theorem c_X3_ask (hr : RS r) (hT : TL r) (hB : BD g) (hB2 : BD2 g) (hN : 0 ≤ g 2 2 ∧ g 2 2 ≤ 16) (hC5 : 0 ≤ g 5 5 ∧ g 5 5 ≤ 6) (K : Nat → CUS) (hK : ciK g r K) (c : Nat) (hc6 : (c : Int) < g 5 5) (hgc : g 32 7 = (c : Int)) (l : List Nat) (hl : FamIs g l) (hm : ∀ a ∈ l, a < 10) (hll : l.length ≤ 10) (u : Nat) (hu : u = 30 ∨ u = 31) : CT (mX3_ask (rmD 4 0 0)) 0 0 shW [vR (some 32), vR (some u)] g z r (qG shW z r fun v g' => v = none ∧ (∀ c', ¬ stc c' → c' ≤ 33 ∨ 38 ≤ c' → g' c' = g c') ∧ (∀ j, j < l.length → g' 34 j = ltS (vC g) K (g u 1) (g u 2) (g u 3) c l j ∧ g' 35 j = ddN (vC g) (l.getD j 0) (l.take j)) ∧ ∀ w, w < 4 → g' 36 w = heS (vC g) (ltS (vC g) K (g u 1) (g u 2) (g u 3) c l) c l w) := by
  refine CT.of 3 rfl rfl ?_
  have hus : shW[u]? = some (9, 4) := by rcases hu with rfl | rfl <;> rfl
  have hur : r u 0 = some 21 := by rcases hu with rfl | rfl <;> exact hr _ _ _ rfl
  generalize hL : ltS (vC g) K (g u 1) (g u 2) (g u 3) c l = L
  generalize hQ : (qG shW z r fun v g' => v = none ∧ (∀ c', ¬ stc c' → c' ≤ 33 ∨ 38 ≤ c' → g' c' = g c') ∧ (∀ j, j < l.length → g' 34 j = L j ∧ g' 35 j = ddN (vC g) (l.getD j 0) (l.take j)) ∧ ∀ w, w < 4 → g' 36 w = heS (vC g) L c l w) = Q
  have hcong : ∀ g' : GG, (∀ c', ¬ stc c' → c' ≤ 33 ∨ 38 ≤ c' → g' c' = g c') → vC g' = vC g ∧ BD g' ∧ BD2 g' ∧ FamIs g' l ∧ ciK g' r K ∧ g' 32 7 = (c : Int) := by
    intro g' h
    have hv : ∀ c', vcell c' → g' c' = g c' := fun c' h' => h c' (by unfold stc; unfold vcell at h'; omega) (by unfold vcell at h'; omega)
    refine ⟨vC_cong hv, BD_cong hv hB, ?_, FamIs_cong (by rw [h 32 (by unfold stc; omega) (by omega)]) (h 33 (by unfold stc; omega) (by omega)) hl, fun k hk => CuIs_cong (hT k hk).1 (fun c' h1 h2 => h c' h1 (by omega)) (hK k hk), by rw [h 32 (by unfold stc; omega) (by omega)]; exact hgc⟩
    unfold BD2
    rw [hv 4 (by unfold vcell; omega), hv 1 (by unfold vcell; omega)]
    exact hB2
  have loop2 : ∀ (n w : Nat) (g' : GG) (a3 a4 : Option AV), w + n = 4 → (∀ c', ¬ stc c' → c' ≤ 33 ∨ 38 ≤ c' → g' c' = g c') → (∀ j, j < l.length → g' 34 j = L j ∧ g' 35 j = ddN (vC g) (l.getD j 0) (l.take j)) → (∀ w', w' < w → g' 36 w' = heS (vC g) L c l w') → RJ (mX3_ask (rmD 4 0 0)) 0 0 shW.length Q 0 0 shW 72 [some (vR (some 32)), some (vR (some u)), some (vI (w : Int)), a3, a4] [] g' z r := by
    intro n
    induction n with
    | zero =>
      intro w g' a3 a4 hw h1 h2 h3
      refine R_iload_n dX3_ask_72 rfl ?_
      refine R_iconst dX3_ask_73 rfl rfl ?_
      refine R_icmp_ge 122 dX3_ask_74 (by decide) (fun hc74 => ?_) (fun hc74 => ?_)
      · refine R_return rfl (by decide) (by decide) dX3_ask_122 ?_
        rw [← hQ]
        exact ⟨⟨rfl, h1, h2, fun w' hw' => h3 w' (by omega)⟩, rfl, rfl, rfl⟩
      · exact absurd (by omega) hc74
    | succ n ih =>
      intro w g' a3 a4 hw h1 h2 h3
      obtain ⟨k1, k2, k3, k4, k5, k6⟩ := hcong g' h1
      have e10 : g' 10 = g 10 := h1 10 (by unfold stc; omega) (by omega)
      have e5 : g' 5 = g 5 := h1 5 (by unfold stc; omega) (by omega)
      have e2 : g' 2 = g 2 := h1 2 (by unfold stc; omega) (by omega)
      have evc : (vC g) 7 (c * 4 + w) = g 10 (c * 4 + w) := rfl
      have fin : ∀ (x : Int), x = heS (vC g) L c l w → ∀ (y : Int) (a4 : Option AV), RJ (mX3_ask (rmD 4 0 0)) 0 0 shW.length Q 0 0 shW 115 [some (vR (some 32)), some (vR (some u)), some (vI (w : Int)), some (vI y), a4] [vI x, vI (w : Int), vR (some 36)] g' z r := by
        intro x hx y a4
        refine R_iast rfl (by omega) (by omega) dX3_ask_115 ?_
        refine R_iincN dX3_ask_116 rfl (by decide) rfl (by unfold inI; omega) [_, _, _, _, _] rfl ?_
        refine R_goto 72 dX3_ask_119 (by decide) ?_
        rw [Int.toNat_natCast]
        refine ih (w + 1) _ _ _ (by omega) (fun c' h4 h5 => by rw [up2_ne (by unfold stc at h4; omega)]; exact h1 c' h4 h5) (fun j hj => by rw [up2_far (by decide), up2_far (by decide)]; exact h2 j hj) (fun w' hw' => ?_)
        by_cases hww : w' = w
        · subst hww; rw [up2_s]; exact hx
        · rw [up2_k hww]; exact h3 w' (by omega)
      refine R_iload_n dX3_ask_72 rfl ?_
      refine R_iconst dX3_ask_73 rfl rfl ?_
      refine R_icmp_ge 122 dX3_ask_74 (by decide) (fun hc74 => ?_) (fun hc74 => ?_)
      · exact absurd hc74 (by omega)
      refine R_aload_n dX3_ask_77 rfl ?_
      refine R_getR _ (hr _ _ _ rfl) fd3_0 kf3_38 rfl dX3_ask_78 ?_
      refine R_getR _ (hr _ _ _ rfl) fd0_1 kf3_109 rfl dX3_ask_81 ?_
      refine R_aload_n dX3_ask_84 rfl ?_
      refine R_getI fd3_7 kf3_42 rfl dX3_ask_85 ?_
      rw [k6]
      refine R_iload_n dX3_ask_88 rfl ?_
      refine R_callV (c_X1_parentOf hr (by rw [e5]; exact hC5) (c : Int) (w : Int)) (mvX1_parentOf _) kiX1_parentOf kvX1_parentOf km3_113 rfl rfl (by decide) ⟨rfl, rfl, by decide, by decide⟩ (Nat.le_of_ble_eq_true rfl) dX3_ask_89 (fun v1 sh1 g1 z1 r1 hq => ?_)
      obtain ⟨rfl, rfl, rfl, rfl, rfl⟩ := hq
      rw [if_pos (by rw [e5]; omega), e10, show ((c : Int) * 4 + (w : Int)).toNat = c * 4 + w by omega]
      refine R_istore_n dX3_ask_92 (by decide) rfl [_, _, _, _, _] rfl ?_
      refine R_aload_n dX3_ask_93 rfl ?_
      refine R_getR _ (hr _ _ _ rfl) fd3_4 kf3_21 rfl dX3_ask_94 ?_
      refine R_iload_n dX3_ask_97 rfl ?_
      refine R_iload_n dX3_ask_98 rfl ?_
      refine R_iconst dX3_ask_99 rfl rfl ?_
      refine R_icmp_ne 114 dX3_ask_100 (by decide) (fun hc100 => ?_) (fun hc100 => ?_)
      · refine R_iload_n dX3_ask_114 rfl ?_
        exact fin _ (by rw [heS, evc, if_neg hc100]) _ _
      · refine R_aload_n dX3_ask_103 rfl ?_
        refine R_iload_n dX3_ask_104 rfl ?_
        refine R_callV (c_X3_namesFor hr k2 k3 (by rw [e2]; exact hN) l k4 hm hll w (by omega)) (mvX3_namesFor _) kiX3_namesFor kvX3_namesFor km3_118 rfl rfl (by decide) ⟨rfl, rfl, by decide, by decide⟩ (Nat.le_of_ble_eq_true rfl) dX3_ask_105 (fun v1 sh1 g1 z1 r1 hq => ?_)
        obtain ⟨rfl, rfl, rfl, rfl, rfl⟩ := hq
        rw [k1, nfS_cong (fun j hj => (h2 j hj).1)]
        refine R_callS (c_X3_lowest (nfS (vC g) L l w) (nfS_lt (by show (g 2 2).toNat ≤ 16; omega))) (mvX3_lowest _) ksX3_lowest km3_121 ⟨rfl, rfl, by decide, by decide⟩ (Nat.le_of_ble_eq_true rfl) dX3_ask_108 (fun v1 sh1 g1 z1 r1 hq => ?_)
        obtain ⟨rfl, rfl, rfl, rfl, rfl⟩ := hq
        refine R_goto 115 dX3_ask_111 (by decide) ?_
        exact fin _ (by rw [heS, evc, if_pos hc100]) _ _
  have loop1 : ∀ (n j : Nat) (g' : GG) (a3 a4 : Option AV), j + n = l.length → (∀ c', ¬ stc c' → c' ≤ 33 ∨ 38 ≤ c' → g' c' = g c') → (∀ j', j' < j → g' 34 j' = L j' ∧ g' 35 j' = ddN (vC g) (l.getD j' 0) (l.take j')) → RJ (mX3_ask (rmD 4 0 0)) 0 0 shW.length Q 0 0 shW 2 [some (vR (some 32)), some (vR (some u)), some (vI (j : Int)), a3, a4] [] g' z r := by
    intro n
    induction n with
    | zero =>
      intro j g' a3 a4 hj h1 h2
      obtain ⟨k1, k2, k3, k4, k5, k6⟩ := hcong g' h1
      refine R_iload_n dX3_ask_2 rfl ?_
      refine R_aload_n dX3_ask_3 rfl ?_
      refine R_getI fd3_8 kf3_46 rfl dX3_ask_4 ?_
      rw [k4.1]
      refine R_icmp_ge 70 dX3_ask_7 (by decide) (fun hc7 => ?_) (fun hc7 => ?_)
      · refine R_iconst dX3_ask_70 rfl rfl ?_
        refine R_istore_n dX3_ask_71 (by decide) rfl [_, _, _, _, _] rfl ?_
        exact loop2 4 0 g' _ _ (by omega) h1 (fun j' h' => h2 j' (by omega)) (fun w' h' => absurd h' (by omega))
      · exact absurd (by omega) hc7
    | succ n ih =>
      intro j g' a3 a4 hj h1 h2
      obtain ⟨k1, k2, k3, k4, k5, k6⟩ := hcong g' h1
      have hjl : j < l.length := by omega
      have ha := hm _ (getD_mem hjl)
      have fin : ∀ (g2 : GG) (x : Int), x = L j → (∀ c', ¬ stc c' → c' ≤ 33 ∨ 38 ≤ c' → g2 c' = g c') → (∀ j', j' < j → g2 34 j' = L j' ∧ g2 35 j' = ddN (vC g) (l.getD j' 0) (l.take j')) → g2 35 j = ddN (vC g) (l.getD j 0) (l.take j) → ∀ (a3 a4 : Option AV), RJ (mX3_ask (rmD 4 0 0)) 0 0 shW.length Q 0 0 shW 63 [some (vR (some 32)), some (vR (some u)), some (vI (j : Int)), a3, a4] [vI x, vI (j : Int), vR (some 34)] g2 z r := by
        intro g2 x hx q1 q2 q3 a3 a4
        refine R_iast rfl (by omega) (by omega) dX3_ask_63 ?_
        refine R_iincN dX3_ask_64 rfl (by decide) rfl (by unfold inI; omega) [_, _, _, _, _] rfl ?_
        refine R_goto 2 dX3_ask_67 (by decide) ?_
        rw [Int.toNat_natCast]
        refine ih (j + 1) _ _ _ (by omega) (fun c' h4 h5 => by rw [up2_ne (by unfold stc at h4; omega)]; exact q1 c' h4 h5) (fun j' hj' => ?_)
        rw [up2_far (c' := 35) (by decide)]
        by_cases hjj : j' = j
        · subst hjj; rw [up2_s]; exact ⟨hx, q3⟩
        · rw [up2_k hjj]; exact q2 j' (by omega)
      refine R_iload_n dX3_ask_2 rfl ?_
      refine R_aload_n dX3_ask_3 rfl ?_
      refine R_getI fd3_8 kf3_46 rfl dX3_ask_4 ?_
      rw [k4.1]
      refine R_icmp_ge 70 dX3_ask_7 (by decide) (fun hc7 => ?_) (fun hc7 => ?_)
      · exact absurd hc7 (by omega)
      refine R_aload_n dX3_ask_10 rfl ?_
      refine R_iload_n dX3_ask_11 rfl ?_
      refine R_callV (c_X3_observe hr k2 c (by omega) k6 l k4 hm hll j hjl) (mvX3_observe _) kiX3_observe kvX3_observe km3_94 rfl rfl (by decide) ⟨rfl, rfl, by decide, by decide⟩ (Nat.le_of_ble_eq_true rfl) dX3_ask_12 (fun v1 sh1 g1 z1 r1 hq => ?_)
      obtain ⟨⟨rfl, o1, o2, o3, o4⟩, rfl, rfl, rfl⟩ := hq
      rw [k1] at o3 o4
      rw [k1]
      have p1 : ∀ c', ¬ stc c' → c' ≤ 33 ∨ 38 ≤ c' → g1 c' = g c' := fun c' h4 h5 => by rw [o1 c' (by omega) (by omega)]; exact h1 c' h4 h5
      obtain ⟨m1, m2, m3, m4, m5, m6⟩ := hcong g1 p1
      have eu : ∀ k, g1 u k = g u k := fun k => by rw [p1 u (by unfold stc; omega) (by omega)]
      have e13 : g1 13 = g 13 := p1 13 (by unfold stc; omega) (by omega)
      have hg34 : g1 34 = g' 34 := o1 34 (by decide) (by decide)
      have p2 : ∀ j', j' < j → g1 34 j' = L j' ∧ g1 35 j' = ddN (vC g) (l.getD j' 0) (l.take j') := fun j' h' => by rw [hg34, o2 j' (by omega)]; exact h2 j' h'
      refine R_istore_n dX3_ask_15 (by decide) rfl [_, _, _, _, _] rfl ?_
      refine R_aload_n dX3_ask_16 rfl ?_
      refine R_aload_n dX3_ask_17 rfl ?_
      refine R_getR _ (hr _ _ _ rfl) fd3_0 kf3_38 rfl dX3_ask_18 ?_
      refine R_getR _ (hr _ _ _ rfl) fd0_2 kf3_49 rfl dX3_ask_21 ?_
      refine R_getR _ (hr _ _ _ rfl) fd4_1 kf3_69 rfl dX3_ask_24 ?_
      refine R_aload_n dX3_ask_27 rfl ?_
      refine R_getR _ (hr _ _ _ rfl) fd3_1 kf3_9 rfl dX3_ask_28 ?_
      refine R_iload_n dX3_ask_31 rfl ?_
      refine R_iald rfl (by omega) (by omega) dX3_ask_32 ?_
      rw [Int.toNat_natCast, fam_at m4 hjl]
      refine R_iald rfl (by omega) (by omega) dX3_ask_33 ?_
      rw [Int.toNat_natCast]
      refine R_callV (c_X9_inYear hT u hus hur (g1 13 (l.getD j 0))) (mvX9_inYear _) kiX9_inYear kvX9_inYear km3_97 hus rfl (by decide) ⟨rfl, rfl, by decide, by decide⟩ (Nat.le_of_ble_eq_true rfl) dX3_ask_34 (fun v1 sh1 g1 z1 r1 hq => ?_)
      obtain ⟨rfl, rfl, rfl, rfl, rfl⟩ := hq
      have hLj : L j = fF (selK K (g1 u 1) (g1 u 2) (g1 u 3) (g1 13 (l.getD j 0))) (thS (vC g) l j) (facS (vC g) c l j) := by rw [← hL, eu, eu, eu, e13]; rfl
      rcases inY_sel hT m5 u (g1 13 (l.getD j 0)) with ⟨hin, hsel⟩ | ⟨k, hk, hin, hsel⟩
      · rw [hin]
        refine R_astore dX3_ask_37 (by decide) rfl [_, _, _, _, _] rfl ?_
        refine R_aload_n dX3_ask_39 rfl ?_
        refine R_getR _ (hr _ _ _ rfl) fd3_2 kf3_15 rfl dX3_ask_40 ?_
        refine R_iload_n dX3_ask_43 rfl ?_
        refine R_aload dX3_ask_44 rfl ?_
        refine R_ifnonnull 53 dX3_ask_46 (by decide) (fun x46 hc46 => ?_) (fun hc46 => ?_)
        · exact absurd hc46 (by simp)
        · refine R_iconst dX3_ask_49 rfl rfl ?_
          refine R_goto 63 dX3_ask_50 (by decide) ?_
          exact fin _ _ (by rw [hLj, hsel]; rfl) p1 p2 o3 _ _
      · rw [hin]
        obtain ⟨hcu, hcr⟩ := hT k hk
        refine R_astore dX3_ask_37 (by decide) rfl [_, _, _, _, _] rfl ?_
        refine R_aload_n dX3_ask_39 rfl ?_
        refine R_getR _ (hr _ _ _ rfl) fd3_2 kf3_15 rfl dX3_ask_40 ?_
        refine R_iload_n dX3_ask_43 rfl ?_
        refine R_aload dX3_ask_44 rfl ?_
        refine R_ifnonnull 53 dX3_ask_46 (by decide) (fun x46 hc46 => ?_) (fun hc46 => ?_)
        · refine R_aload dX3_ask_53 rfl ?_
          refine R_aload_n dX3_ask_55 rfl ?_
          refine R_getR _ (hr _ _ _ rfl) fd3_5 kf3_32 rfl dX3_ask_56 ?_
          refine R_iload_n dX3_ask_59 rfl ?_
          refine R_callV (c_X2_firstFor hr (tc r k) hcu (K k) (m5 k hk) (thS (vC g) l j) thS_lt) (mvX2_firstFor _) kiX2_firstFor kvX2_firstFor km3_103 (isCu_sh hcu) rfl (by decide) ⟨rfl, rfl, by decide, by decide⟩ (Nat.le_of_ble_eq_true rfl) dX3_ask_60 (fun v1 sh1 g2 z1 r1 hq => ?_)
          obtain ⟨⟨rfl, o, rfl⟩, rfl, rfl, rfl⟩ := hq
          have hst := stc_cu hcu
          refine fin _ _ ?_ (fun c' h4 h5 => ?_) (fun j' h' => ?_) ?_ _ _
          · rw [hLj, hsel]
            exact fF_env (m5 k hk) (fun k' hk' => o4 k' hk') _
          · funext q
            rw [upC_far (fun e => h4 (by rw [e]; exact hst)), p1 c' h4 h5]
          · rw [upC_far (by unfold stc at hst; omega), upC_far (by unfold stc at hst; omega)]
            exact p2 j' h'
          · rw [upC_far (by unfold stc at hst; omega)]
            exact o3
        · exact absurd hc46 (by simp)
  refine R_iconst dX3_ask_0 rfl rfl ?_
  refine R_istore_n dX3_ask_1 (by decide) rfl [_, _, _, _, _] rfl ?_
  exact loop1 l.length 0 g none none (by omega) (fun _ _ _ => rfl) (fun j' h' => absurd h' (by omega))
end ASK
