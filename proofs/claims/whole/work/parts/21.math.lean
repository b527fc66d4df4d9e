theorem kMc_max : (Cond.code Lib.Math.max.name Lib.Math.max.code 2 (some .int)) ∈ TB := TB_mem 604 (by decide +kernel) (by decide +kernel)
theorem kMs_max : (Cond.static Lib.Math.max.name) ∈ TB := TB_mem 603 (by decide +kernel) (by decide +kernel)
theorem kMc_min : (Cond.code Lib.Math.min.name Lib.Math.min.code 2 (some .int)) ∈ TB := TB_mem 565 (by decide +kernel) (by decide +kernel)
theorem kMs_min : (Cond.static Lib.Math.min.name) ∈ TB := TB_mem 564 (by decide +kernel) (by decide +kernel)
theorem kMi : (Cond.initialized "java/lang/Math") ∈ TB := TB_mem 99 (by decide +kernel) (by decide +kernel)
section MATH
variable {M : MI} {mc ms n0 : Nat} {Q : PQ} {ce sl : Nat} {sh : SH} {pc : Nat} {ls : List (Option AV)} {st : List AV} {g z : GG} {r : RR}
theorem R_mmax {a b : Int} {index : Nat} (hk : Cond.methodLink M.1.cls index Lib.Math.max.name ∈ TB) (hf : 1 ≤ M.2.2.2.2.frames) (hlo : 2 * st.length + 13 ≤ M.2.2.2.2.locals) (hce : ce ≤ M.2.2.2.2.cells) (hsl : sl ≤ M.2.2.2.2.slots) (hd : decode M.2.1 pc = .ok (.invokestatic index, 3)) (kk : RJ M mc ms n0 Q ce sl sh (pc + 3) ls (vI (if a < b then b else a) :: st) g z r) : RJ M mc ms n0 Q ce sl sh pc ls (vI b :: vI a :: st) g z r := by
  intro p l e s m args below meth cd dC dI cy ad0 ad adK adV A H locs Ls hC hn hd0 hst hW hS hO hl hs hL
  have hx := hC.1
  have hb := hC.2.1
  have hb1 : inI b := okx hs
  have ha1 : inI a := okx (okt hs)
  refine va_mmax hx hb (by rw [hC.2.2.1]; exact hL.1.symm) hC.2.2.2.2.2.1 (hC.2.2.2.2.2.2.2.1 _ hk) (hC.2.2.2.2.2.2.2.1 _ kMs_max) (hC.2.2.2.2.2.2.2.1 _ kMi) (hC.2.2.2.2.2.2.2.1 _ kMc_max) hf (Nat.le_trans (Nat.add_le_add_right (cat_sum st) 13) hlo) hce hsl hd ?_
  have ee : (if i32 a < i32 b then i32 b else i32 a) = i32 (if a < b then b else a) := by
    by_cases h : a < b
    · rw [if_pos h, if_pos ((i32_lt ha1 hb1).mpr h)]
    · rw [if_neg h, if_neg (fun q => h ((i32_lt ha1 hb1).mp q))]
  rw [ee]
  exact kk p l e s m args below meth cd dC dI cy ad0 ad adK adV A H locs Ls hC hn hd0 hst hW hS hO hl (okc (v := vI (if a < b then b else a)) (show inI (if a < b then b else a) by split; exact hb1; exact ha1) (okt (okt hs))) hL
end MATH
