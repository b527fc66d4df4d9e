section USHR
variable {M : MI} {mc ms n0 : Nat} {Q : PQ} {ce sl : Nat} {sh : SH} {pc : Nat} {ls : List (Option AV)} {st : List AV} {g z : GG} {r : RR}
def bUshr (a b : Int) : Int := ((i32 a).toUInt32 >>> ((i32 b).toUInt32 &&& Int32.toUInt32 31)).toInt32.toInt
theorem R_iushr {a b : Int} (hd : decode M.2.1 pc = .ok (.iushr, 1)) (kk : RJ M mc ms n0 Q ce sl sh (pc + 1) ls (vI (bUshr a b) :: st) g z r) : RJ M mc ms n0 Q ce sl sh pc ls (vI b :: vI a :: st) g z r := by
  intro p l e s m args below meth cd dC dI cy ad0 ad adK adV A H locs Ls hC hn hd0 hst hW hS hO hl hs hL
  have hx := hC.1
  have hb := hC.2.1
  exact lv_iushr hx hb hd (v := i32 (bUshr a b)) (by rw [bUshr, o32]) (kk p l e s m args below meth cd dC dI cy ad0 ad adK adV A H locs Ls hC hn hd0 hst hW hS hO hl (okc (v := vI (bUshr a b)) (in32 _) (okt (okt hs))) hL)
end USHR
def yJ6_bitCount_0f7a4 : MethodName := ⟨"java/lang/Integer", "bitCount", "(I)I"⟩
abbrev cJ6_bitCount_0f7a4 : ByteArray := prog_16_method_49_code
theorem dJ6_bitCount_0f7a4_0 : decode cJ6_bitCount_0f7a4 0 = .ok (.iload_n 0, 1) := by decide +kernel
theorem dJ6_bitCount_0f7a4_1 : decode cJ6_bitCount_0f7a4 1 = .ok (.iload_n 0, 1) := by decide +kernel
theorem dJ6_bitCount_0f7a4_2 : decode cJ6_bitCount_0f7a4 2 = .ok (.iconst 1, 1) := by decide +kernel
theorem dJ6_bitCount_0f7a4_3 : decode cJ6_bitCount_0f7a4 3 = .ok (.iushr, 1) := by decide +kernel
theorem dJ6_bitCount_0f7a4_4 : decode cJ6_bitCount_0f7a4 4 = .ok (.ldc_w 265, 3) := by decide +kernel
theorem dJ6_bitCount_0f7a4_7 : decode cJ6_bitCount_0f7a4 7 = .ok (.iand, 1) := by decide +kernel
theorem dJ6_bitCount_0f7a4_8 : decode cJ6_bitCount_0f7a4 8 = .ok (.isub, 1) := by decide +kernel
theorem dJ6_bitCount_0f7a4_9 : decode cJ6_bitCount_0f7a4 9 = .ok (.istore_n 0, 1) := by decide +kernel
theorem dJ6_bitCount_0f7a4_10 : decode cJ6_bitCount_0f7a4 10 = .ok (.iload_n 0, 1) := by decide +kernel
theorem dJ6_bitCount_0f7a4_11 : decode cJ6_bitCount_0f7a4 11 = .ok (.ldc_w 266, 3) := by decide +kernel
theorem dJ6_bitCount_0f7a4_14 : decode cJ6_bitCount_0f7a4 14 = .ok (.iand, 1) := by decide +kernel
theorem dJ6_bitCount_0f7a4_15 : decode cJ6_bitCount_0f7a4 15 = .ok (.iload_n 0, 1) := by decide +kernel
theorem dJ6_bitCount_0f7a4_16 : decode cJ6_bitCount_0f7a4 16 = .ok (.iconst 2, 1) := by decide +kernel
theorem dJ6_bitCount_0f7a4_17 : decode cJ6_bitCount_0f7a4 17 = .ok (.iushr, 1) := by decide +kernel
theorem dJ6_bitCount_0f7a4_18 : decode cJ6_bitCount_0f7a4 18 = .ok (.ldc_w 266, 3) := by decide +kernel
theorem dJ6_bitCount_0f7a4_21 : decode cJ6_bitCount_0f7a4 21 = .ok (.iand, 1) := by decide +kernel
theorem dJ6_bitCount_0f7a4_22 : decode cJ6_bitCount_0f7a4 22 = .ok (.iadd, 1) := by decide +kernel
theorem dJ6_bitCount_0f7a4_23 : decode cJ6_bitCount_0f7a4 23 = .ok (.istore_n 0, 1) := by decide +kernel
theorem dJ6_bitCount_0f7a4_24 : decode cJ6_bitCount_0f7a4 24 = .ok (.iload_n 0, 1) := by decide +kernel
theorem dJ6_bitCount_0f7a4_25 : decode cJ6_bitCount_0f7a4 25 = .ok (.iload_n 0, 1) := by decide +kernel
theorem dJ6_bitCount_0f7a4_26 : decode cJ6_bitCount_0f7a4 26 = .ok (.iconst 4, 1) := by decide +kernel
theorem dJ6_bitCount_0f7a4_27 : decode cJ6_bitCount_0f7a4 27 = .ok (.iushr, 1) := by decide +kernel
theorem dJ6_bitCount_0f7a4_28 : decode cJ6_bitCount_0f7a4 28 = .ok (.iadd, 1) := by decide +kernel
theorem dJ6_bitCount_0f7a4_29 : decode cJ6_bitCount_0f7a4 29 = .ok (.ldc_w 267, 3) := by decide +kernel
theorem dJ6_bitCount_0f7a4_32 : decode cJ6_bitCount_0f7a4 32 = .ok (.iand, 1) := by decide +kernel
theorem dJ6_bitCount_0f7a4_33 : decode cJ6_bitCount_0f7a4 33 = .ok (.istore_n 0, 1) := by decide +kernel
theorem dJ6_bitCount_0f7a4_34 : decode cJ6_bitCount_0f7a4 34 = .ok (.iload_n 0, 1) := by decide +kernel
theorem dJ6_bitCount_0f7a4_35 : decode cJ6_bitCount_0f7a4 35 = .ok (.iload_n 0, 1) := by decide +kernel
theorem dJ6_bitCount_0f7a4_36 : decode cJ6_bitCount_0f7a4 36 = .ok (.bipush 8, 2) := by decide +kernel
theorem dJ6_bitCount_0f7a4_38 : decode cJ6_bitCount_0f7a4 38 = .ok (.iushr, 1) := by decide +kernel
theorem dJ6_bitCount_0f7a4_39 : decode cJ6_bitCount_0f7a4 39 = .ok (.iadd, 1) := by decide +kernel
theorem dJ6_bitCount_0f7a4_40 : decode cJ6_bitCount_0f7a4 40 = .ok (.istore_n 0, 1) := by decide +kernel
theorem dJ6_bitCount_0f7a4_41 : decode cJ6_bitCount_0f7a4 41 = .ok (.iload_n 0, 1) := by decide +kernel
theorem dJ6_bitCount_0f7a4_42 : decode cJ6_bitCount_0f7a4 42 = .ok (.iload_n 0, 1) := by decide +kernel
theorem dJ6_bitCount_0f7a4_43 : decode cJ6_bitCount_0f7a4 43 = .ok (.bipush 16, 2) := by decide +kernel
theorem dJ6_bitCount_0f7a4_45 : decode cJ6_bitCount_0f7a4 45 = .ok (.iushr, 1) := by decide +kernel
theorem dJ6_bitCount_0f7a4_46 : decode cJ6_bitCount_0f7a4 46 = .ok (.iadd, 1) := by decide +kernel
theorem dJ6_bitCount_0f7a4_47 : decode cJ6_bitCount_0f7a4 47 = .ok (.istore_n 0, 1) := by decide +kernel
theorem dJ6_bitCount_0f7a4_48 : decode cJ6_bitCount_0f7a4 48 = .ok (.iload_n 0, 1) := by decide +kernel
theorem dJ6_bitCount_0f7a4_49 : decode cJ6_bitCount_0f7a4 49 = .ok (.bipush 63, 2) := by decide +kernel
theorem dJ6_bitCount_0f7a4_51 : decode cJ6_bitCount_0f7a4 51 = .ok (.iand, 1) := by decide +kernel
theorem dJ6_bitCount_0f7a4_52 : decode cJ6_bitCount_0f7a4 52 = .ok (.ireturn, 1) := by decide +kernel
theorem knJ6 : (.initialized "java/lang/Integer" : Cond) ∈ TB := TB_mem 104 (by decide +kernel) (by decide +kernel)
theorem ksJ6 : (.static yJ6_bitCount_0f7a4 : Cond) ∈ TB := TB_mem 916 (by decide +kernel) (by decide +kernel)
theorem kcJ6 : (.code yJ6_bitCount_0f7a4 cJ6_bitCount_0f7a4 1 (some .int) : Cond) ∈ TB := TB_mem 917 (by decide +kernel) (by decide +kernel)
theorem kkJ6_265 : (.constant "java/lang/Integer" 265 1431655765 : Cond) ∈ TB := TB_mem 918 (by decide +kernel) (by decide +kernel)
theorem kkJ6_266 : (.constant "java/lang/Integer" 266 858993459 : Cond) ∈ TB := TB_mem 919 (by decide +kernel) (by decide +kernel)
theorem kkJ6_267 : (.constant "java/lang/Integer" 267 252645135 : Cond) ∈ TB := TB_mem 920 (by decide +kernel) (by decide +kernel)
def mJ6_bitCount (R : Room) : MI := (yJ6_bitCount_0f7a4, cJ6_bitCount_0f7a4, 1, some .int, R)
theorem mvJ6_bitCount (R : Room) : MV (mJ6_bitCount R) 1 := ⟨knJ6, kcJ6, (by decide +kernel : yJ6_bitCount_0f7a4.cls ≠ "java/lang/invoke/MethodHandle" ∧ yJ6_bitCount_0f7a4.cls ≠ "java/lang/invoke/VarHandle" ∧ (parseMethodDescriptor yJ6_bitCount_0f7a4.desc).map (fun d => d.parameters.length) = some 1)⟩
def bc1 (x : Int) : Int := w32 (x - bAnd (bUshr x 1) 1431655765)
def bc2 (x : Int) : Int := w32 (bAnd x 858993459 + bAnd (bUshr x 2) 858993459)
def bc3 (x : Int) : Int := bAnd (w32 (x + bUshr x 4)) 252645135
def bc4 (x : Int) : Int := w32 (x + bUshr x 8)
def bc5 (x : Int) : Int := w32 (x + bUshr x 16)
def bcF (x : Int) : Int := bAnd (bc5 (bc4 (bc3 (bc2 (bc1 x))))) 63
def cnt1 (b : Nat) : Nat → Nat
  | 0 => 0
  | n + 1 => cnt1 b n + (if b.testBit n then 1 else 0)
/-- how many bits are set -/
def popS (b : Nat) : Nat := cnt1 b 10
theorem bcF_ok : ∀ b : Nat, b < 1024 → bcF (b : Int) = (popS b : Int) := by decide +kernel
section BC
variable {g z : GG} {r : RR}
theorem c_bitCount (b : Nat) (hb : b < 1024) : CT (mJ6_bitCount (rmD 0 0 0)) 0 0 shW [vI (b : Int)] g z r (qP shW g z r (some (vI (popS b : Nat)))) := by
  refine CT.of 0 rfl rfl ?_
  rw [← bcF_ok b hb]
  refine R_iload_n dJ6_bitCount_0f7a4_0 rfl ?_
  refine R_iload_n dJ6_bitCount_0f7a4_1 rfl ?_
  refine R_iconst dJ6_bitCount_0f7a4_2 rfl rfl ?_
  refine R_iushr dJ6_bitCount_0f7a4_3 ?_
  refine R_ldc_w (v := 1431655765) kkJ6_265 dJ6_bitCount_0f7a4_4 (by decide) ?_
  refine R_iand dJ6_bitCount_0f7a4_7 ?_
  refine R_isub dJ6_bitCount_0f7a4_8 ?_
  refine R_istore_n dJ6_bitCount_0f7a4_9 (by decide) rfl [_] rfl ?_
  refine R_iload_n dJ6_bitCount_0f7a4_10 rfl ?_
  refine R_ldc_w (v := 858993459) kkJ6_266 dJ6_bitCount_0f7a4_11 (by decide) ?_
  refine R_iand dJ6_bitCount_0f7a4_14 ?_
  refine R_iload_n dJ6_bitCount_0f7a4_15 rfl ?_
  refine R_iconst dJ6_bitCount_0f7a4_16 rfl rfl ?_
  refine R_iushr dJ6_bitCount_0f7a4_17 ?_
  refine R_ldc_w (v := 858993459) kkJ6_266 dJ6_bitCount_0f7a4_18 (by decide) ?_
  refine R_iand dJ6_bitCount_0f7a4_21 ?_
  refine R_iadd dJ6_bitCount_0f7a4_22 ?_
  refine R_istore_n dJ6_bitCount_0f7a4_23 (by decide) rfl [_] rfl ?_
  refine R_iload_n dJ6_bitCount_0f7a4_24 rfl ?_
  refine R_iload_n dJ6_bitCount_0f7a4_25 rfl ?_
  refine R_iconst dJ6_bitCount_0f7a4_26 rfl rfl ?_
  refine R_iushr dJ6_bitCount_0f7a4_27 ?_
  refine R_iadd dJ6_bitCount_0f7a4_28 ?_
  refine R_ldc_w (v := 252645135) kkJ6_267 dJ6_bitCount_0f7a4_29 (by decide) ?_
  refine R_iand dJ6_bitCount_0f7a4_32 ?_
  refine R_istore_n dJ6_bitCount_0f7a4_33 (by decide) rfl [_] rfl ?_
  refine R_iload_n dJ6_bitCount_0f7a4_34 rfl ?_
  refine R_iload_n dJ6_bitCount_0f7a4_35 rfl ?_
  refine R_bipush dJ6_bitCount_0f7a4_36 rfl (by decide +kernel) ?_
  refine R_iushr dJ6_bitCount_0f7a4_38 ?_
  refine R_iadd dJ6_bitCount_0f7a4_39 ?_
  refine R_istore_n dJ6_bitCount_0f7a4_40 (by decide) rfl [_] rfl ?_
  refine R_iload_n dJ6_bitCount_0f7a4_41 rfl ?_
  refine R_iload_n dJ6_bitCount_0f7a4_42 rfl ?_
  refine R_bipush dJ6_bitCount_0f7a4_43 rfl (by decide +kernel) ?_
  refine R_iushr dJ6_bitCount_0f7a4_45 ?_
  refine R_iadd dJ6_bitCount_0f7a4_46 ?_
  refine R_istore_n dJ6_bitCount_0f7a4_47 (by decide) rfl [_] rfl ?_
  refine R_iload_n dJ6_bitCount_0f7a4_48 rfl ?_
  refine R_bipush dJ6_bitCount_0f7a4_49 rfl (by decide +kernel) ?_
  refine R_iand dJ6_bitCount_0f7a4_51 ?_
  refine R_ireturn rfl (by first | rfl | exact nar_b2i | exact nar_bi) (by decide) (by decide) dJ6_bitCount_0f7a4_52 ?_
  exact ⟨rfl, rfl, rfl, rfl, rfl⟩
end BC
