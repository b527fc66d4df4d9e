/-! the order in which children come -/
def insY (yr : Nat → Int) (i : Nat) : List Nat → List Nat
  | [] => [i]
  | a :: t => if yr i < yr a then i :: a :: t else a :: insY yr i t
def ordL (yr : Nat → Int) : Nat → List Nat
  | 0 => []
  | n + 1 => insY yr n (ordL yr n)
def upC (f : GG) (c : Nat) (o : Nat → Int) : GG := fun c' => if c' = c then o else f c'
theorem upC_far {f : GG} {c : Nat} {o : Nat → Int} {c' k : Nat} (h : c' ≠ c) : upC f c o c' k = f c' k := by simp [upC, h]
theorem upC_s {f : GG} {c : Nat} {o : Nat → Int} {k : Nat} : upC f c o c k = o k := by simp [upC]
theorem up2_upC {f : GG} {c k : Nat} {o : Nat → Int} {v : Int} : up2 (upC f c o) c k v = upC f c (fun j => if j = k then v else o j) := by
  funext c' k'
  by_cases h : c' = c
  · subst h; simp [up2, upC]
  · simp [up2, upC, h]
theorem upC_self {f : GG} {c : Nat} : upC f c (f c) = f := by
  funext c' k'
  by_cases h : c' = c
  · subst h; simp [upC]
  · simp [upC, h]
theorem insY_mem {yr : Nat → Int} {i a : Nat} {l : List Nat} : a ∈ insY yr i l ↔ a = i ∨ a ∈ l := by
  induction l with
  | nil => simp [insY]
  | cons b t ih =>
    unfold insY
    split
    · simp
    · simp [ih]; constructor
      · rintro (h | h | h) <;> simp [h]
      · rintro (h | h | h) <;> simp [h]
theorem insY_len {yr : Nat → Int} {i : Nat} {l : List Nat} : (insY yr i l).length = l.length + 1 := by
  induction l with
  | nil => rfl
  | cons b t ih =>
    unfold insY
    split
    · rfl
    · simp [ih]
theorem ordL_mem {yr : Nat → Int} {n a : Nat} : a ∈ ordL yr n ↔ a < n := by
  induction n with
  | zero => simp [ordL]
  | succ n ih => rw [ordL, insY_mem, ih]; omega
theorem ordL_len {yr : Nat → Int} {n : Nat} : (ordL yr n).length = n := by
  induction n with
  | zero => rfl
  | succ n ih => rw [ordL, insY_len, ih]
theorem insY_sorted {yr : Nat → Int} {i : Nat} {l : List Nat} (h : l.Pairwise (fun a b => yr a ≤ yr b)) : (insY yr i l).Pairwise (fun a b => yr a ≤ yr b) := by
  induction l with
  | nil => simp [insY]
  | cons b t ih =>
    rw [List.pairwise_cons] at h
    unfold insY
    split
    · rename_i hlt
      rw [List.pairwise_cons]
      refine ⟨fun a ha => ?_, by rw [List.pairwise_cons]; exact h⟩
      rcases List.mem_cons.mp ha with rfl | ha
      · omega
      · have := h.1 a ha; omega
    · rename_i hlt
      rw [List.pairwise_cons]
      refine ⟨fun a ha => ?_, ih h.2⟩
      rcases insY_mem.mp ha with rfl | ha
      · omega
      · exact h.1 a ha
theorem ordL_sorted {yr : Nat → Int} (n : Nat) : (ordL yr n).Pairwise (fun a b => yr a ≤ yr b) := by
  induction n with
  | zero => simp [ordL]
  | succ n ih => exact insY_sorted ih
theorem insY_split {yr : Nat → Int} {i : Nat} (l : List Nat) (p : Nat) (h1 : ∀ a ∈ l.take p, yr a ≤ yr i) (h2 : ∀ a ∈ l.drop p, yr i < yr a) : insY yr i l = l.take p ++ i :: l.drop p := by
  induction l generalizing p with
  | nil => simp [insY]
  | cons b t ih =>
    cases p with
    | zero => simp only [List.take_zero, List.drop_zero, List.nil_append]; unfold insY; rw [if_pos (h2 b (by simp))]
    | succ p =>
      unfold insY
      rw [if_neg (by have := h1 b (by simp); omega), ih p (fun a ha => h1 a (by simp [ha])) (fun a ha => h2 a (by simpa using ha))]
      simp
theorem ordL_congr {yr yr' : Nat → Int} {n : Nat} (h : ∀ i, i < n → yr i = yr' i) : ordL yr n = ordL yr' n := by
  have aux : ∀ (i : Nat) (l : List Nat), yr i = yr' i → (∀ a ∈ l, yr a = yr' a) → insY yr i l = insY yr' i l := by
    intro i l hi
    induction l with
    | nil => intro _; rfl
    | cons b t ih => intro hl; unfold insY; rw [hi, hl b (by simp), ih (fun a ha => hl a (by simp [ha]))]
  induction n with
  | zero => rfl
  | succ n ih =>
    rw [ordL, ordL, ih (fun i hi => h i (by omega))]
    exact aux n _ (h n (by omega)) (fun a ha => h a (by have := ordL_mem.mp ha; omega))
section ORD
variable {g z : GG} {r : RR}
theorem c_X4_putInOrder (hr : RS r) (n : Nat) (hn : n < 10) (ho : ∀ (j a : Nat), (ordL (g 13) n)[j]? = some a → g 18 j = (a : Int)) : CT (mX4_putInOrder (rmD 0 0 0)) 0 0 shW [vR (some 11), vI (n : Int)] g z r (qG shW z r fun v g' => v = none ∧ ∃ o, g' = upC g 18 o ∧ ∀ (j a : Nat), (ordL (g 13) (n + 1))[j]? = some a → o j = (a : Int)) := by
  refine CT.of 1 rfl rfl ?_
  generalize hQ : (qG shW z r fun v g' => v = none ∧ ∃ o, g' = upC g 18 o ∧ ∀ (j a : Nat), (ordL (g 13) (n + 1))[j]? = some a → o j = (a : Int)) = Q
  have hlen : (ordL (g 13) n).length = n := ordL_len
  have loop : ∀ (p : Nat) (o : Nat → Int), p ≤ n → (∀ (j : Nat), j < p → o j = g 18 j) → (∀ (j : Nat), p < j → j ≤ n → o j = g 18 (j - 1)) → (∀ a ∈ (ordL (g 13) n).drop p, g 13 n < g 13 a) → RJ (mX4_putInOrder (rmD 0 0 0)) 0 0 shW.length Q 0 0 shW 2 [some (vR (some 11)), some (vI ((n : Int))), some (vI ((p : Int)))] [] (upC g 18 o) z r := by
    intro p
    induction p with
    | zero =>
      intro o hp h1 h2 h3
      refine R_iload_n dX4_putInOrder_2 rfl ?_
      refine R_if_le 48 dX4_putInOrder_3 (by decide) (fun hc3 => ?_) (fun hc3 => ?_)
      · refine R_aload_n dX4_putInOrder_48 rfl ?_
        refine R_getR _ (hr _ _ _ rfl) fd4_6 kf4_30 rfl dX4_putInOrder_49 ?_
        try simp +decide only [up2_far, up2_s, up2_kk]
        refine R_iload_n dX4_putInOrder_52 rfl ?_
        refine R_iload_n dX4_putInOrder_53 rfl ?_
        refine R_iast rfl (by omega) (by omega) dX4_putInOrder_54 ?_
        refine R_return rfl (by decide) (by decide) dX4_putInOrder_55 ?_
        rw [← hQ]
        refine ⟨⟨rfl, _, up2_upC, fun j a hj => ?_⟩, rfl, rfl, rfl⟩
        rw [ordL, insY_split _ 0 (by simp) h3] at hj
        cases j with
        | zero => simp at hj; subst hj; simp
        | succ j =>
          have : j < n := by have := (List.getElem?_eq_some_iff.mp hj).1; simp at this; omega
          simp at hj
          rw [if_neg (by simp), h2 (j + 1) (by omega) (by omega), Nat.add_sub_cancel]
          exact ho j a hj
      · exact absurd (by omega) hc3
    | succ p ih =>
      intro o hp h1 h2 h3
      have hpl : p < (ordL (g 13) n).length := by omega
      obtain ⟨b, hb⟩ : ∃ b, (ordL (g 13) n)[p]? = some b := ⟨_, List.getElem?_eq_getElem hpl⟩
      have hbn : b < n := ordL_mem.mp (List.mem_of_getElem? hb)
      have hob : o p = (b : Int) := by rw [h1 p (by omega)]; exact ho p b hb
      refine R_iload_n dX4_putInOrder_2 rfl ?_
      refine R_if_le 48 dX4_putInOrder_3 (by decide) (fun hc3 => ?_) (fun hc3 => ?_)
      · exact absurd hc3 (by omega)
      · refine R_aload_n dX4_putInOrder_6 rfl ?_
        refine R_getR _ (hr _ _ _ rfl) fd4_1 kf4_15 rfl dX4_putInOrder_7 ?_
        refine R_aload_n dX4_putInOrder_10 rfl ?_
        refine R_getR _ (hr _ _ _ rfl) fd4_6 kf4_30 rfl dX4_putInOrder_11 ?_
        refine R_iload_n dX4_putInOrder_14 rfl ?_
        refine R_iconst dX4_putInOrder_15 rfl rfl ?_
        refine R_isubN dX4_putInOrder_16 (by unfold inI; omega) ?_
        refine R_iald rfl (by omega) (by omega) dX4_putInOrder_17 ?_
        simp +decide only [upC_far, upC_s]
        rw [show ((((p + 1 : Nat) : Int)) - 1).toNat = p by omega, hob]
        refine R_iald rfl (by omega) (by omega) dX4_putInOrder_18 ?_
        simp +decide only [upC_far]
        refine R_aload_n dX4_putInOrder_19 rfl ?_
        refine R_getR _ (hr _ _ _ rfl) fd4_1 kf4_15 rfl dX4_putInOrder_20 ?_
        refine R_iload_n dX4_putInOrder_23 rfl ?_
        refine R_iald rfl (by omega) (by omega) dX4_putInOrder_24 ?_
        simp +decide only [upC_far]
        refine R_icmp_le 48 dX4_putInOrder_25 (by decide) (fun hc25 => ?_) (fun hc25 => ?_)
        · simp only [Int.toNat_natCast] at hc25
          refine R_aload_n dX4_putInOrder_48 rfl ?_
          refine R_getR _ (hr _ _ _ rfl) fd4_6 kf4_30 rfl dX4_putInOrder_49 ?_
          refine R_iload_n dX4_putInOrder_52 rfl ?_
          refine R_iload_n dX4_putInOrder_53 rfl ?_
          refine R_iast rfl (by omega) (by omega) dX4_putInOrder_54 ?_
          refine R_return rfl (by decide) (by decide) dX4_putInOrder_55 ?_
          rw [← hQ]
          refine ⟨⟨rfl, _, up2_upC, fun j a hj => ?_⟩, rfl, rfl, rfl⟩
          have hall : ∀ x ∈ (ordL (g 13) n).take (p + 1), g 13 x ≤ g 13 n := by
            intro x hx
            rw [List.take_add_one, hb] at hx
            rcases List.mem_append.mp hx with hx | hx
            · have hs := ordL_sorted (yr := g 13) n
              rw [← List.take_append_drop p (ordL (g 13) n), List.pairwise_append] at hs
              have := hs.2.2 x hx b (List.mem_of_getElem? (i := 0) (by rw [List.getElem?_drop]; simpa using hb))
              omega
            · simp at hx; subst hx; exact hc25
          rw [ordL, insY_split _ (p + 1) hall h3] at hj
          have hl1 : ((ordL (g 13) n).take (p + 1)).length = p + 1 := by rw [List.length_take]; omega
          by_cases hj1 : j < p + 1
          · rw [List.getElem?_append_left (by omega), List.getElem?_take_of_lt hj1] at hj
            have e1 : (j == (((p + 1 : Nat) : Int)).toNat) = false := by simp; omega
            rw [if_neg (by simp; omega), h1 j hj1]
            exact ho j a hj
          · rw [List.getElem?_append_right (by omega), hl1] at hj
            by_cases hj2 : j = p + 1
            · subst hj2
              simp at hj
              subst hj
              rw [if_pos (by simp)]
            · obtain ⟨k, hk⟩ : ∃ k, j - (p + 1) = k + 1 := ⟨j - (p + 1) - 1, by omega⟩
              rw [hk, List.getElem?_cons_succ, List.getElem?_drop] at hj
              have hjn : p + 1 + k < n := by have := (List.getElem?_eq_some_iff.mp hj).1; omega
              rw [if_neg (by simp; omega), h2 j (by omega) (by omega)]
              have := ho _ a hj
              rw [show j - 1 = p + 1 + k by omega]
              exact this
        · simp only [Int.toNat_natCast] at hc25
          refine R_aload_n dX4_putInOrder_28 rfl ?_
          refine R_getR _ (hr _ _ _ rfl) fd4_6 kf4_30 rfl dX4_putInOrder_29 ?_
          refine R_iload_n dX4_putInOrder_32 rfl ?_
          refine R_aload_n dX4_putInOrder_33 rfl ?_
          refine R_getR _ (hr _ _ _ rfl) fd4_6 kf4_30 rfl dX4_putInOrder_34 ?_
          refine R_iload_n dX4_putInOrder_37 rfl ?_
          refine R_iconst dX4_putInOrder_38 rfl rfl ?_
          refine R_isubN dX4_putInOrder_39 (by unfold inI; omega) ?_
          refine R_iald rfl (by omega) (by omega) dX4_putInOrder_40 ?_
          simp +decide only [upC_s]
          rw [show ((((p + 1 : Nat) : Int)) - 1).toNat = p by omega]
          refine R_iast rfl (by omega) (by omega) dX4_putInOrder_41 ?_
          refine R_iincN dX4_putInOrder_42 rfl (by decide) rfl (by unfold inI; omega) [_, _, _] rfl ?_
          refine R_goto 2 dX4_putInOrder_45 (by decide) ?_
          rw [up2_upC]
          have hfin := ih (fun j => if j = (((p + 1 : Nat) : Int)).toNat then o p else o j) (by omega) (fun j hj => by rw [if_neg (by simp; omega)]; exact h1 j (by omega)) (fun j hj1 hj2 => by
            simp only [Int.toNat_natCast]
            by_cases hj3 : j = p + 1
            · subst hj3; rw [if_pos rfl, Nat.add_sub_cancel]; exact h1 p (by omega)
            · rw [if_neg hj3]; exact h2 j (by omega) hj2) (fun x hx => by
            rw [List.drop_eq_getElem_cons hpl] at hx
            rcases List.mem_cons.mp hx with rfl | hx
            · rw [List.getElem?_eq_getElem hpl] at hb
              simp at hb
              rw [hb]; omega
            · exact h3 x hx)
          rw [show (((p + 1 : Nat) : Int)) + -1 = (p : Int) by omega]
          exact hfin
  refine R_iload_n dX4_putInOrder_0 rfl ?_
  refine R_istore_n dX4_putInOrder_1 (by decide) rfl [_, _, _] rfl ?_
  have := loop n (g 18) (Nat.le_refl n) (fun j _ => rfl) (fun j h1 h2 => absurd h1 (by omega)) (fun a ha => by rw [List.drop_of_length_le (by omega)] at ha; cases ha)
  rw [upC_self] at this
  exact this
end ORD
