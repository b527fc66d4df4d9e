/-! FROM THE LAW'S ENTRY -/
section WHOLE
def tmS (i : Nat) : Term := match i with
  | 0 => .string "FontList$Family" 24 | 1 => .string "FontList$Reader" 62 | 2 => .string "FontList$Reader" 80 | 3 => .string "FontList$Reader" 82 | 4 => .string "FontList$Reader" 84 | _ => .string "FontList$Reader" 86
def fS : List Cond := flatC (Jvm.Cond.and given_1 narrow_1)
theorem fS_ex : ∀ i, i < 6 → (Cond.exactly (tmS i) "java/lang/String") ∈ fS := by decide +kernel
theorem fS_co : ∀ i, i < 6 → (Cond.eq (.field (tmS i) "java/lang/String" "coder" "B") (.int 0)) ∈ fS := by decide +kernel
theorem fS_ar : ∀ i, i < 6 → (Cond.arrayOf (.field (tmS i) "java/lang/String" "value" "[B") .byte) ∈ fS := by decide +kernel
theorem fS_le : ∀ i, i < 6 → (Cond.eq (.length (.field (tmS i) "java/lang/String" "value" "[B")) (.int (Int32.ofNat (sxL.getD i 0)))) ∈ fS := by decide +kernel
theorem fS_el : ∀ i, i < 6 → ∀ j, j < sxL.getD i 0 → (Cond.eq (.elem (.field (tmS i) "java/lang/String" "value" "[B") (.int (Int32.ofNat j))) (.int ((sxB.getD i []).getD j 0))) ∈ fS := by decide +kernel
theorem fS_ne : ∀ i, i < 6 → ∀ j, j < 6 → i < j → (Cond.not (Cond.eq (tmS i) (tmS j))) ∈ fS := by decide +kernel
end WHOLE
section WHOLE2
def fSb : Cond := Jvm.Cond.and given_1 narrow_1
theorem fS_C : (Cond.eq (.static "java/lang/String" "COMPACT_STRINGS" "Z") (.int 1)) ∈ fS := by decide +kernel
theorem fS_F : (Cond.isRef (.static "jdk/internal/util/Preconditions" "SIOOBE_FORMATTER" "Ljava/util/function/BiFunction;")) ∈ fS := by decide +kernel
theorem fS_1 : (Cond.eq (.string "FontList$Family" 24) (.string "FontList$Reader" 116)) ∈ fS := by decide +kernel
theorem fS_2 : (Cond.eq (.string "FontList$Reader" 62) (.string "FontList" 184)) ∈ fS := by decide +kernel
theorem arr_of {s : State} {args : Array Value} {t : FieldType} (h : (Cond.arrayClass t).before args s = true) (hRA : ∀ cX, s.vm.findClass ("[" ++ t.toString) = some cX → va_RA s cX t) : ∃ cA : ClassId, ArrOfT s cA t ∧ va_RA s cA t := by
  obtain ⟨c, k, comp, h1, h2, h3⟩ := Cond.arrayClass_spec h
  exact ⟨c, fun n z => ⟨(fun k h => by cases h), k, h2, comp, h3⟩, hRA c h1⟩
theorem K_of {s : State} {args : Array Value} (hts : ∀ w ∈ TB, w.before args s = true) (hao : (Cond.arrayOver (.object "FontList$Custom")).before args s = true) : ∃ (dC : Nat → ClassId) (dI : Nat → Nat → Nat) (cy : Nat → ClassId), va_K (dC, dI) vwCl (tyL cy) s := by
  have h0 : ∀ c : Nat, ∃ q : ClassId × (Nat → Nat), ∀ w : vw_C, vwCl[c]? = some w → u_Kn s w.1 w.2.1 w.2.2 q.1 q.2 := by
    intro c
    match c with
    | 0 => obtain ⟨a, b, h⟩ := u_known hts inX0 (hts _ kaX0); exact ⟨(a, b), fun w hw => by cases hw; exact h⟩
    | 1 => obtain ⟨a, b, h⟩ := u_known hts inX1 (hts _ kaX1); exact ⟨(a, b), fun w hw => by cases hw; exact h⟩
    | 2 => obtain ⟨a, b, h⟩ := u_known hts inX2 (hts _ kaX2); exact ⟨(a, b), fun w hw => by cases hw; exact h⟩
    | 3 => obtain ⟨a, b, h⟩ := u_known hts inX3 (hts _ kaX3); exact ⟨(a, b), fun w hw => by cases hw; exact h⟩
    | 4 => obtain ⟨a, b, h⟩ := u_known hts inX4 (hts _ kaX4); exact ⟨(a, b), fun w hw => by cases hw; exact h⟩
    | 5 => obtain ⟨a, b, h⟩ := u_known hts inX5 (hts _ kaX5); exact ⟨(a, b), fun w hw => by cases hw; exact h⟩
    | 6 => obtain ⟨a, b, h⟩ := u_known hts inX6 (hts _ kaX6); exact ⟨(a, b), fun w hw => by cases hw; exact h⟩
    | 7 => obtain ⟨a, b, h⟩ := u_known hts inX7 (hts _ kaX7); exact ⟨(a, b), fun w hw => by cases hw; exact h⟩
    | 8 => obtain ⟨a, b, h⟩ := u_known hts inX8 (hts _ kaX8); exact ⟨(a, b), fun w hw => by cases hw; exact h⟩
    | 9 => obtain ⟨a, b, h⟩ := u_known hts inX9 (hts _ kaX9); exact ⟨(a, b), fun w hw => by cases hw; exact h⟩
    | 10 => obtain ⟨a, b, h⟩ := u_known hts inX10 (hts _ kaX10); exact ⟨(a, b), fun w hw => by cases hw; exact h⟩
    | 11 => obtain ⟨a, b, h⟩ := u_known hts inX11 (hts _ kaX11); exact ⟨(a, b), fun w hw => by cases hw; exact h⟩
    | 12 => obtain ⟨a, b, h⟩ := u_known hts inX12 (hts _ kaX12); exact ⟨(a, b), fun w hw => by cases hw; exact h⟩
    | n + 13 => exact ⟨(0, fun _ => 0), fun w hw => absurd (List.getElem?_eq_some_iff.mp hw).1 (by simp [vwCl])⟩
  obtain ⟨D, hD⟩ := Classical.axiomOfChoice h0
  obtain ⟨c13, a13, b13⟩ := arr_of (hts _ ky_byte) (fun _ h => h)
  obtain ⟨c14, a14, b14⟩ := arr_of (hts _ ky_char) (fun _ h => h)
  obtain ⟨c15, a15, b15⟩ := arr_of (hts _ ky_int) (fun _ h => h)
  obtain ⟨c16, a16, b16⟩ := arr_of (hts _ ky_long) (fun _ h => h)
  obtain ⟨c17, a17, b17⟩ := arr_of (hts _ ky_boolean) (fun _ h => h)
  obtain ⟨comp, c18, k18, f1, f2, f3, f4, f5⟩ := Cond.arrayOver_spec hao
  refine ⟨fun c => (D c).1, fun c => (D c).2, fun k => if k = 13 then c13 else if k = 14 then c14 else if k = 15 then c15 else if k = 16 then c16 else if k = 17 then c17 else c18, fun c q hq => hD c q hq, fun k q hk => ?_⟩
  match k, hk with
  | 0, hk => cases hk; exact ⟨a13, b13⟩
  | 1, hk => cases hk; exact ⟨a14, b14⟩
  | 2, hk => cases hk; exact ⟨a15, b15⟩
  | 3, hk => cases hk; exact ⟨a16, b16⟩
  | 4, hk => cases hk; exact ⟨a17, b17⟩
  | 5, hk => cases hk; exact ⟨fun n z => ⟨(fun k h => by cases h), k18, f3, comp, f4⟩, k18, comp, f3, f4, f1, f5⟩
  | n + 6, hk => exact absurd (List.getElem?_eq_some_iff.mp hk).1 (by simp [tyL])
end WHOLE2
