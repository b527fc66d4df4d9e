def fA (env : Nat → Int) (v : Int) : Int := if 0 ≤ v ∧ v < 9 then env v.toNat else 0
def reck (s a b : Int) : Int := if s = 43 then w32 (a + b) else if s = 45 then w32 (a - b) else if s = 42 then w32 (a * b) else if s = 47 then (if b = 0 then 0 else bDiv a b) else if s = 37 then (if b = 0 then 0 else bRem a b) else if s = 60 then b2i (a < b) else if s = 62 then b2i (b < a) else b2i (a = b)
/-- a CUSTOM's steps, run: signs sg, values va, facts env, up to 'to' -/
def hC (sg va env : Nat → Int) (to : Nat) : Nat → Nat → List Int → Bool
  | 0, _, _ => false
  | n + 1, step, stk => if step < to then
      (if sg step = 48 ∨ sg step = 110 then (if 16 ≤ stk.length then false else hC sg va env to n (step + 1) ((if sg step = 48 then va step else fA env (va step)) :: stk))
      else match stk with
      | [] => false
      | x :: t => if sg step = 33 then hC sg va env to n (step + 1) (w32 (1 - x) :: t)
        else if sg step = 38 ∨ sg step = 124 then (if (x = 0 ↔ sg step = 38) then hC sg va env to n ((if (step : Int) < va step - 1 then (va step - 1).toNat else step) + 1) (x :: t) else hC sg va env to n (step + 1) t)
        else match t with
        | [] => false
        | y :: t' => if x = 0 ∧ (sg step = 47 ∨ sg step = 37) then false else hC sg va env to n (step + 1) (reck (sg step) y x :: t'))
    else decide (stk.length = 1 ∧ stk.head? ≠ some 0)
section CUSTOM
variable {g z : GG} {r : RR}
theorem c_X2_factAt (v : Int) : CT (mX2_factAt (rmD 0 0 0)) 0 0 shW [vR (some 37), vI v] g z r (qP shW g z r (some (vI (fA (g 37) v)))) := by
  refine CT.of 0 rfl rfl ?_
  refine R_iload_n dX2_factAt_0 rfl ?_
  refine R_if_lt 16 dX2_factAt_1 (by decide) (fun hc1 => ?_) (fun hc1 => ?_)
  · refine R_iconst dX2_factAt_16 rfl rfl ?_
    refine R_ireturn rfl (by first | rfl | exact nar_b2i | exact nar_bi) (by decide) (by decide) dX2_factAt_17 ?_
    first | exact ⟨by rw [fA, if_pos (by omega)], rfl, rfl, rfl, rfl⟩ | exact ⟨by rw [fA, if_neg (by omega)], rfl, rfl, rfl, rfl⟩
  · refine R_iload_n dX2_factAt_4 rfl ?_
    refine R_aload_n dX2_factAt_5 rfl ?_
    refine R_alen15 rfl (by decide) dX2_factAt_6 ?_
    refine R_icmp_ge 16 dX2_factAt_7 (by decide) (fun hc7 => ?_) (fun hc7 => ?_)
    · refine R_iconst dX2_factAt_16 rfl rfl ?_
      refine R_ireturn rfl (by first | rfl | exact nar_b2i | exact nar_bi) (by decide) (by decide) dX2_factAt_17 ?_
      first | exact ⟨by rw [fA, if_pos (by omega)], rfl, rfl, rfl, rfl⟩ | exact ⟨by rw [fA, if_neg (by omega)], rfl, rfl, rfl, rfl⟩
    · refine R_aload_n dX2_factAt_10 rfl ?_
      refine R_iload_n dX2_factAt_11 rfl ?_
      refine R_iald rfl (by omega) (by omega) dX2_factAt_12 ?_
      refine R_goto 17 dX2_factAt_13 (by decide) ?_
      refine R_ireturn rfl (by first | rfl | exact nar_b2i | exact nar_bi) (by decide) (by decide) dX2_factAt_17 ?_
      first | exact ⟨by rw [fA, if_pos (by omega)], rfl, rfl, rfl, rfl⟩ | exact ⟨by rw [fA, if_neg (by omega)], rfl, rfl, rfl, rfl⟩
theorem c_X2_reckon (s a b : Int) : CT (mX2_reckon (rmD 0 0 0)) 0 0 shW [vI s, vI a, vI b] g z r (qP shW g z r (some (vI (reck s a b)))) := by
  refine CT.of 0 rfl rfl ?_
  refine R_iload_n dX2_reckon_0 rfl ?_
  by_cases h1 : s = 43
  · subst h1
    refine R_look 68 dX2_reckon_1 (by decide) rfl (by decide) ?_
    refine R_iload_n dX2_reckon_68 rfl ?_
    refine R_iload_n dX2_reckon_69 rfl ?_
    refine R_iadd dX2_reckon_70 ?_
    refine R_ireturn rfl (by first | rfl | exact nar_b2i | exact nar_bi) (by decide) (by decide) dX2_reckon_71 ?_
    exact ⟨rfl, rfl, rfl, rfl, rfl⟩
  by_cases h2 : s = 45
  · subst h2
    refine R_look 72 dX2_reckon_1 (by decide) rfl (by decide) ?_
    refine R_iload_n dX2_reckon_72 rfl ?_
    refine R_iload_n dX2_reckon_73 rfl ?_
    refine R_isub dX2_reckon_74 ?_
    refine R_ireturn rfl (by first | rfl | exact nar_b2i | exact nar_bi) (by decide) (by decide) dX2_reckon_75 ?_
    exact ⟨rfl, rfl, rfl, rfl, rfl⟩
  by_cases h3 : s = 42
  · subst h3
    refine R_look 76 dX2_reckon_1 (by decide) rfl (by decide) ?_
    refine R_iload_n dX2_reckon_76 rfl ?_
    refine R_iload_n dX2_reckon_77 rfl ?_
    refine R_imul dX2_reckon_78 ?_
    refine R_ireturn rfl (by first | rfl | exact nar_b2i | exact nar_bi) (by decide) (by decide) dX2_reckon_79 ?_
    exact ⟨rfl, rfl, rfl, rfl, rfl⟩
  by_cases h4 : s = 47
  · subst h4
    refine R_look 80 dX2_reckon_1 (by decide) rfl (by decide) ?_
    refine R_iload_n dX2_reckon_80 rfl ?_
    refine R_if_ne 88 dX2_reckon_81 (by decide) (fun hc81 => ?_) (fun hc81 => ?_)
    · refine R_iload_n dX2_reckon_88 rfl ?_
      refine R_iload_n dX2_reckon_89 rfl ?_
      refine R_idiv dX2_reckon_90 (by assumption) ?_
      refine R_ireturn rfl (by first | rfl | exact nar_b2i | exact nar_bi) (by decide) (by decide) dX2_reckon_91 ?_
      exact ⟨by simp [reck, hc81], rfl, rfl, rfl, rfl⟩
    · refine R_iconst dX2_reckon_84 rfl rfl ?_
      refine R_goto 91 dX2_reckon_85 (by decide) ?_
      refine R_ireturn rfl (by first | rfl | exact nar_b2i | exact nar_bi) (by decide) (by decide) dX2_reckon_91 ?_
      exact ⟨by simp [reck, hc81], rfl, rfl, rfl, rfl⟩
  by_cases h5 : s = 37
  · subst h5
    refine R_look 92 dX2_reckon_1 (by decide) rfl (by decide) ?_
    refine R_iload_n dX2_reckon_92 rfl ?_
    refine R_if_ne 100 dX2_reckon_93 (by decide) (fun hc93 => ?_) (fun hc93 => ?_)
    · refine R_iload_n dX2_reckon_100 rfl ?_
      refine R_iload_n dX2_reckon_101 rfl ?_
      refine R_irem dX2_reckon_102 (by assumption) ?_
      refine R_ireturn rfl (by first | rfl | exact nar_b2i | exact nar_bi) (by decide) (by decide) dX2_reckon_103 ?_
      exact ⟨by simp [reck, hc93], rfl, rfl, rfl, rfl⟩
    · refine R_iconst dX2_reckon_96 rfl rfl ?_
      refine R_goto 103 dX2_reckon_97 (by decide) ?_
      refine R_ireturn rfl (by first | rfl | exact nar_b2i | exact nar_bi) (by decide) (by decide) dX2_reckon_103 ?_
      exact ⟨by simp [reck, hc93], rfl, rfl, rfl, rfl⟩
  by_cases h6 : s = 60
  · subst h6
    refine R_look 104 dX2_reckon_1 (by decide) rfl (by decide) ?_
    refine R_iload_n dX2_reckon_104 rfl ?_
    refine R_iload_n dX2_reckon_105 rfl ?_
    refine R_icmp_ge 113 dX2_reckon_106 (by decide) (fun hc106 => ?_) (fun hc106 => ?_)
    · refine R_iconst dX2_reckon_113 rfl rfl ?_
      refine R_ireturn rfl (by first | rfl | exact nar_b2i | exact nar_bi) (by decide) (by decide) dX2_reckon_114 ?_
      exact ⟨by simp [reck, b2i]; omega, rfl, rfl, rfl, rfl⟩
    · refine R_iconst dX2_reckon_109 rfl rfl ?_
      refine R_goto 114 dX2_reckon_110 (by decide) ?_
      refine R_ireturn rfl (by first | rfl | exact nar_b2i | exact nar_bi) (by decide) (by decide) dX2_reckon_114 ?_
      exact ⟨by simp [reck, b2i]; omega, rfl, rfl, rfl, rfl⟩
  by_cases h7 : s = 62
  · subst h7
    refine R_look 115 dX2_reckon_1 (by decide) rfl (by decide) ?_
    refine R_iload_n dX2_reckon_115 rfl ?_
    refine R_iload_n dX2_reckon_116 rfl ?_
    refine R_icmp_le 124 dX2_reckon_117 (by decide) (fun hc117 => ?_) (fun hc117 => ?_)
    · refine R_iconst dX2_reckon_124 rfl rfl ?_
      refine R_ireturn rfl (by first | rfl | exact nar_b2i | exact nar_bi) (by decide) (by decide) dX2_reckon_125 ?_
      exact ⟨by simp [reck, b2i]; omega, rfl, rfl, rfl, rfl⟩
    · refine R_iconst dX2_reckon_120 rfl rfl ?_
      refine R_goto 125 dX2_reckon_121 (by decide) ?_
      refine R_ireturn rfl (by first | rfl | exact nar_b2i | exact nar_bi) (by decide) (by decide) dX2_reckon_125 ?_
      exact ⟨by simp [reck, b2i]; omega, rfl, rfl, rfl, rfl⟩
  refine R_look 126 dX2_reckon_1 (by decide) (off := 125) (by simp [Op.lookupswitch.offset, h1, h2, h3, h4, h5, h6, h7]; omega) (by decide) ?_
  refine R_iload_n dX2_reckon_126 rfl ?_
  refine R_iload_n dX2_reckon_127 rfl ?_
  refine R_icmp_ne 135 dX2_reckon_128 (by decide) (fun hc128 => ?_) (fun hc128 => ?_)
  · refine R_iconst dX2_reckon_135 rfl rfl ?_
    refine R_ireturn rfl (by first | rfl | exact nar_b2i | exact nar_bi) (by decide) (by decide) dX2_reckon_136 ?_
    exact ⟨by simp [reck, b2i, h1, h2, h3, h4, h5, h6, h7]; omega, rfl, rfl, rfl, rfl⟩
  · refine R_iconst dX2_reckon_131 rfl rfl ?_
    refine R_goto 136 dX2_reckon_132 (by decide) ?_
    refine R_ireturn rfl (by first | rfl | exact nar_b2i | exact nar_bi) (by decide) (by decide) dX2_reckon_136 ?_
    exact ⟨by simp [reck, b2i, h1, h2, h3, h4, h5, h6, h7]; omega, rfl, rfl, rfl, rfl⟩
end CUSTOM
