/-! posts -/
def qP (sh : SH) (g z : GG) (r : RR) (x : Option AV) : PQ := fun v sh' g' z' r' => v = x ∧ sh' = sh ∧ g' = g ∧ z' = z ∧ r' = r
def qG (sh : SH) (z : GG) (r : RR) (P : Option AV → GG → Prop) : PQ := fun v sh' g' z' r' => P v g' ∧ sh' = sh ∧ z' = z ∧ r' = r
def b2i (p : Prop) [Decidable p] : Int := if p then 1 else 0
section NAMES
variable {g z : GG} {r : RR}
/-- Names.has -/
theorem c_X5_has (hr : RS r) (hsz : 0 ≤ g 2 2 ∧ g 2 2 ≤ 16) (a b : Int) : CT (mX5_has (rmD 0 0 0)) 0 0 shW [vR (some 2), vI a, vI b] g z r (qP shW g z r (some (vI (b2i (0 ≤ a ∧ a < g 2 2 ∧ g 3 a.toNat = b))))) := by
  refine CT.of 0 rfl rfl ?_
  refine R_iload_n dX5_has_0 rfl ?_
  refine R_if_lt 26 dX5_has_1 (by decide) (fun hc1 => ?_) (fun hc1 => ?_)
  · refine R_iconst dX5_has_26 rfl rfl ?_
    refine R_ireturn rfl (by rfl) (by decide) (by decide) dX5_has_27 ?_
    exact ⟨by rw [b2i, if_neg (by omega)], rfl, rfl, rfl, rfl⟩
  · refine R_iload_n dX5_has_4 rfl ?_
    refine R_aload_n dX5_has_5 rfl ?_
    refine R_getI fd5_2 kf5_18 rfl dX5_has_6 ?_
    refine R_icmp_ge 26 dX5_has_9 (by decide) (fun hc9 => ?_) (fun hc9 => ?_)
    · refine R_iconst dX5_has_26 rfl rfl ?_
      refine R_ireturn rfl (by rfl) (by decide) (by decide) dX5_has_27 ?_
      exact ⟨by rw [b2i, if_neg (by omega)], rfl, rfl, rfl, rfl⟩
    · refine R_aload_n dX5_has_12 rfl ?_
      refine R_getR _ (hr _ _ _ rfl) fd5_0 kf5_9 rfl dX5_has_13 ?_
      refine R_iload_n dX5_has_16 rfl ?_
      refine R_iald rfl (by omega) (by omega) dX5_has_17 ?_
      refine R_iload_n dX5_has_18 rfl ?_
      refine R_icmp_ne 26 dX5_has_19 (by decide) (fun hc19 => ?_) (fun hc19 => ?_)
      · refine R_iconst dX5_has_26 rfl rfl ?_
        refine R_ireturn rfl (by rfl) (by decide) (by decide) dX5_has_27 ?_
        exact ⟨by rw [b2i, if_neg (by omega)], rfl, rfl, rfl, rfl⟩
      · refine R_iconst dX5_has_22 rfl rfl ?_
        refine R_goto 27 dX5_has_23 (by decide) ?_
        refine R_ireturn rfl (by rfl) (by decide) (by decide) dX5_has_27 ?_
        exact ⟨by rw [b2i, if_pos (by omega)], rfl, rfl, rfl, rfl⟩
end NAMES
