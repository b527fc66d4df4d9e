/-! CONSTRUCTORS -/
section CTOR
/-- nothing lies at the cells from n on -/
def Z0 (n : Nat) (g z : GG) (r : RR) : Prop := ∀ c, n ≤ c → ∀ j, g c j = 0 ∧ z c j = 0 ∧ r c j = none
theorem Z0.mono {n n' : Nat} {g z : GG} {r : RR} (h : n ≤ n') (q : Z0 n g z r) : Z0 n' g z r := fun c hc j => q c (Nat.le_trans h hc) j
theorem Z0_upR {n c k : Nat} {v : Option Nat} {g z : GG} {r : RR} (h : c < n) (q : Z0 n g z r) : Z0 n g z (upR r c k v) := fun c' hc j => by rw [upR_ne (by omega)]; exact q c' hc j
theorem Z0_up2 {n c k : Nat} {v : Int} {g z : GG} {r : RR} (h : c < n) (q : Z0 n g z r) : Z0 n (up2 g c k v) z r := fun c' hc j => by rw [up2_ne (by omega)]; exact q c' hc j
def fillS (g : GG) (m : Nat) : GG := fun c k => if c = 43 ∧ k < m then ((sprd k : Nat) : Int) else g c k
theorem Z0_fillS {n m : Nat} {g z : GG} {r : RR} (h : 43 < n) (q : Z0 n g z r) : Z0 n (fillS g m) z r := fun c' hc j => by
  have : fillS g m c' j = g c' j := by unfold fillS; rw [if_neg (by omega)]
  rw [this]; exact q c' hc j
theorem sp_step : ∀ i : Nat, i < 10 → ∀ s : Nat, s < 2 ^ i → bOr (bShl 1 (i : Int)) (s : Int) = ((2 ^ i + s : Nat) : Int) ∧ bOr (bShl 1 ((3 * (9 - i) : Nat) : Int)) ((sprd s : Nat) : Int) = ((sprd (2 ^ i + s) : Nat) : Int) := by decide +kernel
section JD
variable {sh : SH} {g z : GG} {r : RR}
theorem j_coderS (i : Nat) (hi : i < 6) : CT (mJ0_coder_7d493 (rmD 0 0 0)) 0 0 sh [vR (some (100000 + i))] g z r (qP sh g z r (some (vI 0))) := by
  refine CT.of 0 rfl rfl ?_
  refine R_gsC kfJ0_38 dJ0_coder_7d493_0 ?_
  refine R_if_eq 13 dJ0_coder_7d493_3 (by decide) (fun hc3 => ?_) (fun hc3 => ?_)
  · exact absurd hc3 (by decide)
  refine R_aload_n dJ0_coder_7d493_6 rfl ?_
  refine R_getCod hi kfJ0_15 dJ0_coder_7d493_7 ?_
  refine R_goto 14 dJ0_coder_7d493_10 (by decide) ?_
  refine R_ireturn rfl (by first | rfl | exact nar_b2i | exact nar_bi) (by decide) (by decide) dJ0_coder_7d493_14 ?_
  exact ⟨rfl, rfl, rfl, rfl, rfl⟩
theorem j_lengthS (i : Nat) (hi : i < 6) : CT (mJ0_length_8abf5 (rmD 1 0 0)) 0 0 sh [vR (some (100000 + i))] g z r (qP sh g z r (some (vI ((sxL.getD i 0 : Nat) : Int)))) := by
  refine CT.of 0 rfl rfl ?_
  refine R_aload_n dJ0_length_8abf5_0 rfl ?_
  refine R_getVal hi kfJ0_9 dJ0_length_8abf5_1 ?_
  refine R_alenT hi dJ0_length_8abf5_4 ?_
  refine R_aload_n dJ0_length_8abf5_5 rfl ?_
  refine R_callT (as := []) hi (j_coderS i hi) rfl (mvJ0_coder_7d493 _) kiJ0_coder_7d493 kvJ0_coder_7d493 kmJ0_335 ⟨rfl, rfl, by decide, by decide⟩ (Nat.le_of_ble_eq_true rfl) dJ0_length_8abf5_6 (fun v1 sh1 g1 z1 r1 hq => ?_)
  obtain ⟨rfl, rfl, rfl, rfl, rfl⟩ := hq
  refine R_ishr dJ0_length_8abf5_9 ?_
  rw [show bShr ((sxL.getD i 0 : Nat) : Int) 0 = ((sxL.getD i 0 : Nat) : Int) by rcases cases6 hi with rfl | rfl | rfl | rfl | rfl | rfl <;> decide +kernel]
  refine R_ireturn rfl (by first | rfl | exact nar_b2i | exact nar_bi) (by decide) (by decide) dJ0_length_8abf5_10 ?_
  exact ⟨rfl, rfl, rfl, rfl, rfl⟩
theorem c_shiftOfS (i : Nat) (hi : i < 10) : CT (mX10_shiftOf (rmD 0 0 0)) 0 0 sh [vI (i : Int)] g z r (qP sh g z r (some (vI ((3 * (9 - i) : Nat) : Int)))) := by
  refine CT.of 0 rfl rfl ?_
  refine R_iconst dX10_shiftOf_0 rfl rfl ?_
  refine R_bipush dX10_shiftOf_1 rfl (by decide +kernel) ?_
  refine R_iload_n dX10_shiftOf_3 rfl ?_
  refine R_isubN dX10_shiftOf_4 (by unfold inI; omega) ?_
  refine R_imulN dX10_shiftOf_5 (by unfold inI; omega) ?_
  refine R_ireturn rfl (by first | rfl | exact nar_b2i | exact nar_bi) (by decide) (by decide) dX10_shiftOf_6 ?_
  exact ⟨by rw [show (3 : Int) * (9 - (i : Int)) = ((3 * (9 - i) : Nat) : Int) by omega], rfl, rfl, rfl, rfl⟩
end JD
section SPR
variable {n0 : Nat} {Q : PQ} {ce sl : Nat} {g z : GG} {r : RR}
abbrev spL (i s : Int) : List (Option AV) := [some (vR (some 41)), some (vR (some 1)), some (vR (some 32)), some (vI i), some (vI s)]
abbrev MX : MI := mX10_init (rmD 1 8 8192)
theorem i_X10_in (hce : ce ≤ 8) (hsl : sl ≤ 8192) (hr : r 41 3 = some 43) (i : Nat) (hi : i < 10) (kk : RJ MX 8 8192 n0 Q ce sl (shW.take 50) 136 (spL i ((2 ^ i : Nat) : Int)) [] (fillS g (2 ^ (i + 1))) z r) : ∀ (f s : Nat), s + f = 2 ^ i → RJ MX 8 8192 n0 Q ce sl (shW.take 50) 97 (spL i (s : Int)) [] (fillS g (2 ^ i + s)) z r := by
  have hb := bShl_1 (k := i) (by omega)
  have hp : 2 ^ i ≤ 512 := by
    have := Nat.pow_le_pow_right (n := 2) (by decide) (show i ≤ 9 by omega)
    exact this
  intro f
  induction f with
  | zero =>
    intro s hs
    have hs : s = 2 ^ i := by omega
    subst hs
    refine R_iload dX10_init_97 rfl ?_
    refine R_iconst dX10_init_99 rfl rfl ?_
    refine R_iload_n dX10_init_100 rfl ?_
    refine R_ishl dX10_init_101 ?_
    refine R_icmp_ge 136 dX10_init_102 (by decide) (fun hc102 => ?_) (fun hc102 => ?_)
    · rw [show 2 ^ i + 2 ^ i = 2 ^ (i + 1) by rw [Nat.pow_succ]; omega]
      exact kk
    · rw [hb] at hc102; exact absurd hc102 (by omega)
  | succ f ih =>
    intro s hs
    obtain ⟨e1, e2⟩ := sp_step i hi s (by omega)
    refine R_iload dX10_init_97 rfl ?_
    refine R_iconst dX10_init_99 rfl rfl ?_
    refine R_iload_n dX10_init_100 rfl ?_
    refine R_ishl dX10_init_101 ?_
    refine R_icmp_ge 136 dX10_init_102 (by decide) (fun hc102 => ?_) (fun hc102 => ?_)
    · rw [hb] at hc102; exact absurd hc102 (by omega)
    refine R_aload_n dX10_init_105 rfl ?_
    refine R_getR (some 43) hr fd10_3 kf10_15 rfl dX10_init_106 ?_
    refine R_iconst dX10_init_109 rfl rfl ?_
    refine R_iload_n dX10_init_110 rfl ?_
    refine R_ishl dX10_init_111 ?_
    refine R_iload dX10_init_112 rfl ?_
    refine R_ior dX10_init_114 ?_
    rw [e1]
    refine R_iconst dX10_init_115 rfl rfl ?_
    refine R_iload_n dX10_init_116 rfl ?_
    refine R_callS (c_shiftOfS i hi) (mvX10_shiftOf _) ksX10_shiftOf km10_45 ⟨rfl, rfl, by decide, hce, hsl⟩ (Nat.le_of_ble_eq_true rfl) dX10_init_117 (fun v1 sh1 g1 z1 r1 hq => ?_)
    obtain ⟨rfl, rfl, rfl, rfl, rfl⟩ := hq
    refine R_ishl dX10_init_120 ?_
    refine R_aload_n dX10_init_121 rfl ?_
    refine R_getR (some 43) hr fd10_3 kf10_15 rfl dX10_init_122 ?_
    refine R_iload dX10_init_125 rfl ?_
    refine R_iald rfl (by omega) (by omega) dX10_init_127 ?_
    rw [show fillS g (2 ^ i + s) 43 (Int.toNat (s : Int)) = ((sprd s : Nat) : Int) by rw [Int.toNat_natCast]; unfold fillS; rw [if_pos (by omega)]]
    refine R_ior dX10_init_128 ?_
    rw [e2]
    refine R_iast rfl (by omega) (by omega) dX10_init_129 ?_
    refine R_iincN dX10_init_130 rfl (by decide) rfl (by unfold inI; omega) [_, _, _, _, _] rfl ?_
    refine R_goto 97 dX10_init_133 (by decide) ?_
    rw [Int.toNat_natCast]
    have hg : up2 (fillS g (2 ^ i + s)) 43 (2 ^ i + s) ((sprd (2 ^ i + s) : Nat) : Int) = fillS g (2 ^ i + (s + 1)) := by
      funext c k
      unfold up2 fillS
      by_cases h1 : c = 43 ∧ k = 2 ^ i + s
      · rw [if_pos h1, if_pos (by omega), h1.2]
      · rw [if_neg h1]
        by_cases h2 : c = 43 ∧ k < 2 ^ i + s
        · rw [if_pos h2, if_pos (by omega)]
        · rw [if_neg h2, if_neg (by omega)]
    rw [hg]
    exact ih (s + 1) (by omega)
theorem i_X10_out (hce : ce ≤ 8) (hsl : sl ≤ 8192) (hr : r 41 3 = some 43) (kk : ∀ o, RJ MX 8 8192 n0 Q ce sl (shW.take 50) 142 [some (vR (some 41)), some (vR (some 1)), some (vR (some 32)), some (vI 10), o] [] (fillS g 1024) z r) : ∀ (f i : Nat) (o : Option AV), i + f = 10 → RJ MX 8 8192 n0 Q ce sl (shW.take 50) 88 [some (vR (some 41)), some (vR (some 1)), some (vR (some 32)), some (vI (i : Int)), o] [] (fillS g (2 ^ i)) z r := by
  intro f
  induction f with
  | zero =>
    intro i o hi
    have hi : i = 10 := by omega
    subst hi
    refine R_iload_n dX10_init_88 rfl ?_
    refine R_bipush dX10_init_89 rfl (by decide +kernel) ?_
    refine R_icmp_ge 142 dX10_init_91 (by decide) (fun hc91 => ?_) (fun hc91 => ?_)
    · exact kk o
    · exact absurd hc91 (by decide)
  | succ f ih =>
    intro i o hi
    refine R_iload_n dX10_init_88 rfl ?_
    refine R_bipush dX10_init_89 rfl (by decide +kernel) ?_
    refine R_icmp_ge 142 dX10_init_91 (by decide) (fun hc91 => ?_) (fun hc91 => ?_)
    · exact absurd hc91 (by omega)
    refine R_iconst dX10_init_94 rfl rfl ?_
    refine R_istore dX10_init_95 (by decide) rfl [_, _, _, _, _] rfl ?_
    refine i_X10_in hce hsl hr i (by omega) ?_ (2 ^ i) 0 (by omega)
    refine R_iincN dX10_init_136 rfl (by decide) rfl (by unfold inI; omega) [_, _, _, _, _] rfl ?_
    refine R_goto 88 dX10_init_139 (by decide) ?_
    exact ih (i + 1) _ (by omega)
theorem i_X10_loop (hce : ce ≤ 8) (hsl : sl ≤ 8192) (hr : r 41 3 = some 43) (h0 : g 43 0 = 0) (kk : ∀ o o', RJ MX 8 8192 n0 Q ce sl (shW.take 50) 142 [some (vR (some 41)), some (vR (some 1)), some (vR (some 32)), o, o'] [] (fillS g 1024) z r) : RJ MX 8 8192 n0 Q ce sl (shW.take 50) 86 [some (vR (some 41)), some (vR (some 1)), some (vR (some 32)), none, none] [] g z r := by
  refine R_iconst dX10_init_86 rfl rfl ?_
  refine R_istore_n dX10_init_87 (by decide) rfl [_, _, _, _, _] rfl ?_
  have hg : fillS g (2 ^ 0) = g := by
    funext c k
    unfold fillS
    by_cases h : c = 43 ∧ k < 2 ^ 0
    · rw [if_pos h, h.1, show k = 0 by omega, h0]; decide
    · rw [if_neg h]
  have := i_X10_out (g := g) hce hsl hr (fun o => kk _ o) 10 0 none rfl
  rw [hg] at this
  exact this
end SPR
theorem i_X5_2 {g z : GG} {r : RR} (hz : Z0 3 g z r) : CT (mX5_init (rmD 1 2 32)) 2 32 (shW.take 3) [vR (some 2)] g z r (qP (shW.take 5) (g) z (upR (upR (r) 2 0 (some 3)) 2 1 (some 4)) none) := by
  refine CT.of 0 rfl rfl ?_
  refine R_aload_n dX5_init_0 rfl ?_
  refine R_objInit km5_3 (by decide) (by decide) dX5_init_1 ?_
  refine R_aload_n dX5_init_4 rfl ?_
  refine R_bipush dX5_init_5 rfl (by decide +kernel) ?_
  refine R_newI (atype := .int) (t := .int) (N := 16) 3 2 15 (shW.take 4) rfl (by decide +kernel) (by decide +kernel) (by decide) (by decide) (fun _ => rfl) (fun _ _ h => h) rfl ky_int (by decide) (by decide) (by decide) (by decide) (by decide) dX5_init_7 (fun j => (hz 3 (by decide) j).1) ?_
  refine R_putAF fd5_0 rfl rfl rfl kf5_9 rfl dX5_init_9 ?_
  refine R_aload_n dX5_init_12 rfl ?_
  refine R_bipush dX5_init_13 rfl (by decide +kernel) ?_
  refine R_newI (atype := .int) (t := .int) (N := 16) 4 2 15 (shW.take 5) rfl (by decide +kernel) (by decide +kernel) (by decide) (by decide) (fun _ => rfl) (fun _ _ h => h) rfl ky_int (by decide) (by decide) (by decide) (by decide) (by decide) dX5_init_15 (fun j => (hz 4 (by decide) j).1) ?_
  refine R_putAF fd5_1 rfl rfl rfl kf5_15 rfl dX5_init_17 ?_
  refine R_return rfl (by decide) (by decide) dX5_init_20 ?_
  exact ⟨rfl, rfl, rfl, rfl, rfl⟩
theorem i_X1_5 {g z : GG} {r : RR} (hz : Z0 6 g z r) : CT (mX1_init (rmD 1 5 48)) 5 48 (shW.take 6) [vR (some 5)] g z r (qP (shW.take 11) (g) z (upR (upR (upR (upR (upR (r) 5 0 (some 6)) 5 1 (some 7)) 5 2 (some 8)) 5 3 (some 9)) 5 4 (some 10)) none) := by
  refine CT.of 0 rfl rfl ?_
  refine R_aload_n dX1_init_0 rfl ?_
  refine R_objInit km1_3 (by decide) (by decide) dX1_init_1 ?_
  refine R_aload_n dX1_init_4 rfl ?_
  refine R_bipush dX1_init_5 rfl (by decide +kernel) ?_
  refine R_newI (atype := .int) (t := .int) (N := 6) 6 2 15 (shW.take 7) rfl (by decide +kernel) (by decide +kernel) (by decide) (by decide) (fun _ => rfl) (fun _ _ h => h) rfl ky_int (by decide) (by decide) (by decide) (by decide) (by decide) dX1_init_7 (fun j => (hz 6 (by decide) j).1) ?_
  refine R_putAF fd1_0 rfl rfl rfl kf1_9 rfl dX1_init_9 ?_
  refine R_aload_n dX1_init_12 rfl ?_
  refine R_bipush dX1_init_13 rfl (by decide +kernel) ?_
  refine R_newI (atype := .int) (t := .int) (N := 6) 7 2 15 (shW.take 8) rfl (by decide +kernel) (by decide +kernel) (by decide) (by decide) (fun _ => rfl) (fun _ _ h => h) rfl ky_int (by decide) (by decide) (by decide) (by decide) (by decide) dX1_init_15 (fun j => (hz 7 (by decide) j).1) ?_
  refine R_putAF fd1_1 rfl rfl rfl kf1_15 rfl dX1_init_17 ?_
  refine R_aload_n dX1_init_20 rfl ?_
  refine R_bipush dX1_init_21 rfl (by decide +kernel) ?_
  refine R_newI (atype := .int) (t := .int) (N := 6) 8 2 15 (shW.take 9) rfl (by decide +kernel) (by decide +kernel) (by decide) (by decide) (fun _ => rfl) (fun _ _ h => h) rfl ky_int (by decide) (by decide) (by decide) (by decide) (by decide) dX1_init_23 (fun j => (hz 8 (by decide) j).1) ?_
  refine R_putAF fd1_2 rfl rfl rfl kf1_18 rfl dX1_init_25 ?_
  refine R_aload_n dX1_init_28 rfl ?_
  refine R_bipush dX1_init_29 rfl (by decide +kernel) ?_
  refine R_newI (atype := .int) (t := .int) (N := 6) 9 2 15 (shW.take 10) rfl (by decide +kernel) (by decide +kernel) (by decide) (by decide) (fun _ => rfl) (fun _ _ h => h) rfl ky_int (by decide) (by decide) (by decide) (by decide) (by decide) dX1_init_31 (fun j => (hz 9 (by decide) j).1) ?_
  refine R_putAF fd1_3 rfl rfl rfl kf1_21 rfl dX1_init_33 ?_
  refine R_aload_n dX1_init_36 rfl ?_
  refine R_bipush dX1_init_37 rfl (by decide +kernel) ?_
  refine R_newI (atype := .int) (t := .int) (N := 24) 10 2 15 (shW.take 11) rfl (by decide +kernel) (by decide +kernel) (by decide) (by decide) (fun _ => rfl) (fun _ _ h => h) rfl ky_int (by decide) (by decide) (by decide) (by decide) (by decide) dX1_init_39 (fun j => (hz 10 (by decide) j).1) ?_
  refine R_putAF fd1_4 rfl rfl rfl kf1_24 rfl dX1_init_41 ?_
  refine R_return rfl (by decide) (by decide) dX1_init_44 ?_
  exact ⟨rfl, rfl, rfl, rfl, rfl⟩
theorem i_X4_11 {g z : GG} {r : RR} (hz : Z0 12 g z r) : CT (mX4_init (rmD 1 7 70)) 7 70 (shW.take 12) [vR (some 11)] g z r (qP (shW.take 19) (g) z (upR (upR (upR (upR (upR (upR (upR (r) 11 0 (some 12)) 11 1 (some 13)) 11 2 (some 14)) 11 3 (some 15)) 11 4 (some 16)) 11 5 (some 17)) 11 6 (some 18)) none) := by
  refine CT.of 0 rfl rfl ?_
  refine R_aload_n dX4_init_0 rfl ?_
  refine R_objInit km4_3 (by decide) (by decide) dX4_init_1 ?_
  refine R_aload_n dX4_init_4 rfl ?_
  refine R_bipush dX4_init_5 rfl (by decide +kernel) ?_
  refine R_newI (atype := .int) (t := .int) (N := 10) 12 2 15 (shW.take 13) rfl (by decide +kernel) (by decide +kernel) (by decide) (by decide) (fun _ => rfl) (fun _ _ h => h) rfl ky_int (by decide) (by decide) (by decide) (by decide) (by decide) dX4_init_7 (fun j => (hz 12 (by decide) j).1) ?_
  refine R_putAF fd4_0 rfl rfl rfl kf4_9 rfl dX4_init_9 ?_
  refine R_aload_n dX4_init_12 rfl ?_
  refine R_bipush dX4_init_13 rfl (by decide +kernel) ?_
  refine R_newI (atype := .int) (t := .int) (N := 10) 13 2 15 (shW.take 14) rfl (by decide +kernel) (by decide +kernel) (by decide) (by decide) (fun _ => rfl) (fun _ _ h => h) rfl ky_int (by decide) (by decide) (by decide) (by decide) (by decide) dX4_init_15 (fun j => (hz 13 (by decide) j).1) ?_
  refine R_putAF fd4_1 rfl rfl rfl kf4_15 rfl dX4_init_17 ?_
  refine R_aload_n dX4_init_20 rfl ?_
  refine R_bipush dX4_init_21 rfl (by decide +kernel) ?_
  refine R_newI (atype := .int) (t := .int) (N := 10) 14 2 15 (shW.take 15) rfl (by decide +kernel) (by decide +kernel) (by decide) (by decide) (fun _ => rfl) (fun _ _ h => h) rfl ky_int (by decide) (by decide) (by decide) (by decide) (by decide) dX4_init_23 (fun j => (hz 14 (by decide) j).1) ?_
  refine R_putAF fd4_2 rfl rfl rfl kf4_18 rfl dX4_init_25 ?_
  refine R_aload_n dX4_init_28 rfl ?_
  refine R_bipush dX4_init_29 rfl (by decide +kernel) ?_
  refine R_newI (atype := .int) (t := .int) (N := 10) 15 2 15 (shW.take 16) rfl (by decide +kernel) (by decide +kernel) (by decide) (by decide) (fun _ => rfl) (fun _ _ h => h) rfl ky_int (by decide) (by decide) (by decide) (by decide) (by decide) dX4_init_31 (fun j => (hz 15 (by decide) j).1) ?_
  refine R_putAF fd4_3 rfl rfl rfl kf4_21 rfl dX4_init_33 ?_
  refine R_aload_n dX4_init_36 rfl ?_
  refine R_bipush dX4_init_37 rfl (by decide +kernel) ?_
  refine R_newI (atype := .int) (t := .int) (N := 10) 16 2 15 (shW.take 17) rfl (by decide +kernel) (by decide +kernel) (by decide) (by decide) (fun _ => rfl) (fun _ _ h => h) rfl ky_int (by decide) (by decide) (by decide) (by decide) (by decide) dX4_init_39 (fun j => (hz 16 (by decide) j).1) ?_
  refine R_putAF fd4_4 rfl rfl rfl kf4_24 rfl dX4_init_41 ?_
  refine R_aload_n dX4_init_44 rfl ?_
  refine R_bipush dX4_init_45 rfl (by decide +kernel) ?_
  refine R_newI (atype := .int) (t := .int) (N := 10) 17 2 15 (shW.take 18) rfl (by decide +kernel) (by decide +kernel) (by decide) (by decide) (fun _ => rfl) (fun _ _ h => h) rfl ky_int (by decide) (by decide) (by decide) (by decide) (by decide) dX4_init_47 (fun j => (hz 17 (by decide) j).1) ?_
  refine R_putAF fd4_5 rfl rfl rfl kf4_27 rfl dX4_init_49 ?_
  refine R_aload_n dX4_init_52 rfl ?_
  refine R_bipush dX4_init_53 rfl (by decide +kernel) ?_
  refine R_newI (atype := .int) (t := .int) (N := 10) 18 2 15 (shW.take 19) rfl (by decide +kernel) (by decide +kernel) (by decide) (by decide) (fun _ => rfl) (fun _ _ h => h) rfl ky_int (by decide) (by decide) (by decide) (by decide) (by decide) dX4_init_55 (fun j => (hz 18 (by decide) j).1) ?_
  refine R_putAF fd4_6 rfl rfl rfl kf4_30 rfl dX4_init_57 ?_
  refine R_return rfl (by decide) (by decide) dX4_init_60 ?_
  exact ⟨rfl, rfl, rfl, rfl, rfl⟩
theorem i_X0_1 {g z : GG} {r : RR} (hz : Z0 2 g z r) : CT (mX0_init (rmD 2 17 167)) 17 167 (shW.take 2) [vR (some 1)] g z r (qP (shW.take 19) (up2 (up2 (g) 1 3 (10)) 1 4 (20)) z (upR (upR (upR (upR (upR (upR (upR (upR (upR (upR (upR (upR (upR (upR (upR (upR (upR (r) 2 0 (some 3)) 2 1 (some 4)) 1 0 (some 2)) 5 0 (some 6)) 5 1 (some 7)) 5 2 (some 8)) 5 3 (some 9)) 5 4 (some 10)) 1 1 (some 5)) 11 0 (some 12)) 11 1 (some 13)) 11 2 (some 14)) 11 3 (some 15)) 11 4 (some 16)) 11 5 (some 17)) 11 6 (some 18)) 1 2 (some 11)) none) := by
  refine CT.of 0 rfl rfl ?_
  refine R_aload_n dX0_init_0 rfl ?_
  refine R_objInit km0_3 (by decide) (by decide) dX0_init_1 ?_
  refine R_aload_n dX0_init_4 rfl ?_
  refine R_new (ci := 5) 2 (shW.take 3) (by decide +kernel) (by decide +kernel) (by decide) inX5 tyX5_ok kl0_9 kaX5 knX5 rfl (by decide) (by decide +kernel) (by decide) (by decide) dX0_init_5 (fun j => hz 2 (by decide) j) ?_
  refine R_dup dX0_init_8 (fun _ h => by cases h) ?_
  refine R_callN (i_X5_2 (by repeat (first | assumption | exact Z0.mono (by decide) hz | refine Z0_upR (by decide) ?_ | refine Z0_up2 (by decide) ?_ | refine Z0_fillS (by decide) ?_))) (mvX5_init _) rfl rfl kiX5_init (fun _ _ h => h.2.1.2.1) ⟨rfl, rfl, by decide, by decide⟩ (Nat.le_of_ble_eq_true rfl) dX0_init_9 (fun v1 sh1 g1 z1 r1 hq => ?_)
  obtain ⟨rfl, rfl, rfl, rfl, rfl⟩ := hq
  refine R_putRF fd0_0 rfl rfl rfl kf0_12 rfl dX0_init_12 ?_
  refine R_aload_n dX0_init_15 rfl ?_
  refine R_new (ci := 1) 5 (shW.take 6) (by decide +kernel) (by decide +kernel) (by decide) inX1 tyX1_ok kl0_18 kaX1 knX1 rfl (by decide) (by decide +kernel) (by decide) (by decide) dX0_init_16 (fun j => hz 5 (by decide) j) ?_
  refine R_dup dX0_init_19 (fun _ h => by cases h) ?_
  refine R_callN (i_X1_5 (by repeat (first | assumption | exact Z0.mono (by decide) hz | refine Z0_upR (by decide) ?_ | refine Z0_up2 (by decide) ?_ | refine Z0_fillS (by decide) ?_))) (mvX1_init _) rfl rfl kiX1_init (fun _ _ h => h.2.1.2.2.1) ⟨rfl, rfl, by decide, by decide⟩ (Nat.le_of_ble_eq_true rfl) dX0_init_20 (fun v1 sh1 g1 z1 r1 hq => ?_)
  obtain ⟨rfl, rfl, rfl, rfl, rfl⟩ := hq
  refine R_putRF fd0_1 rfl rfl rfl kf0_21 rfl dX0_init_23 ?_
  refine R_aload_n dX0_init_26 rfl ?_
  refine R_new (ci := 4) 11 (shW.take 12) (by decide +kernel) (by decide +kernel) (by decide) inX4 tyX4_ok kl0_25 kaX4 knX4 rfl (by decide) (by decide +kernel) (by decide) (by decide) dX0_init_27 (fun j => hz 11 (by decide) j) ?_
  refine R_dup dX0_init_30 (fun _ h => by cases h) ?_
  refine R_callN (i_X4_11 (by repeat (first | assumption | exact Z0.mono (by decide) hz | refine Z0_upR (by decide) ?_ | refine Z0_up2 (by decide) ?_ | refine Z0_fillS (by decide) ?_))) (mvX4_init _) rfl rfl kiX4_init (fun _ _ h => h.2.1.2.2.2.1) ⟨rfl, rfl, by decide, by decide⟩ (Nat.le_of_ble_eq_true rfl) dX0_init_31 (fun v1 sh1 g1 z1 r1 hq => ?_)
  obtain ⟨rfl, rfl, rfl, rfl, rfl⟩ := hq
  refine R_putRF fd0_2 rfl rfl rfl kf0_28 rfl dX0_init_34 ?_
  refine R_aload_n dX0_init_37 rfl ?_
  refine R_bipush dX0_init_38 rfl (by decide +kernel) ?_
  refine R_putI fd0_3 rfl kf0_32 rfl dX0_init_40 ?_
  refine R_aload_n dX0_init_43 rfl ?_
  refine R_bipush dX0_init_44 rfl (by decide +kernel) ?_
  refine R_putI fd0_4 rfl kf0_36 rfl dX0_init_46 ?_
  refine R_return rfl (by decide) (by decide) dX0_init_49 ?_
  exact ⟨rfl, rfl, rfl, rfl, rfl⟩
theorem i_X8_19 {g z : GG} {r : RR} (hz : Z0 20 g z r) : CT (mX8_init (rmD 1 1 200)) 1 200 (shW.take 20) [vR (some 19)] g z r (qP (shW.take 21) (g) z (upR (r) 19 0 (some 20)) none) := by
  refine CT.of 0 rfl rfl ?_
  refine R_aload_n dX8_init_0 rfl ?_
  refine R_objInit km8_3 (by decide) (by decide) dX8_init_1 ?_
  refine R_aload_n dX8_init_4 rfl ?_
  refine R_sipush dX8_init_5 rfl (by decide +kernel) ?_
  refine R_newI (atype := .int) (t := .int) (N := 200) 20 2 15 (shW.take 21) rfl (by decide +kernel) (by decide +kernel) (by decide) (by decide) (fun _ => rfl) (fun _ _ h => h) rfl ky_int (by decide) (by decide) (by decide) (by decide) (by decide) dX8_init_8 (fun j => (hz 20 (by decide) j).1) ?_
  refine R_putAF fd8_0 rfl rfl rfl kf8_11 rfl dX8_init_10 ?_
  refine R_return rfl (by decide) (by decide) dX8_init_13 ?_
  exact ⟨rfl, rfl, rfl, rfl, rfl⟩
theorem i_X2_24 {g z : GG} {r : RR} (hz : Z0 25 g z r) : CT (mX2_init (rmD 1 5 360)) 5 360 (shW.take 25) [vR (some 24)] g z r (qP (shW.take 30) (g) z (upR (upR (upR (upR (upR (r) 24 0 (some 25)) 24 1 (some 26)) 24 2 (some 27)) 24 3 (some 28)) 24 4 (some 29)) none) := by
  refine CT.of 0 rfl rfl ?_
  refine R_aload_n dX2_init_0 rfl ?_
  refine R_objInit km2_3 (by decide) (by decide) dX2_init_1 ?_
  refine R_aload_n dX2_init_4 rfl ?_
  refine R_bipush dX2_init_5 rfl (by decide +kernel) ?_
  refine R_newI (atype := .int) (t := .int) (N := 12) 25 2 15 (shW.take 26) rfl (by decide +kernel) (by decide +kernel) (by decide) (by decide) (fun _ => rfl) (fun _ _ h => h) rfl ky_int (by decide) (by decide) (by decide) (by decide) (by decide) dX2_init_7 (fun j => (hz 25 (by decide) j).1) ?_
  refine R_putAF fd2_0 rfl rfl rfl kf2_9 rfl dX2_init_9 ?_
  refine R_aload_n dX2_init_12 rfl ?_
  refine R_bipush dX2_init_13 rfl (by decide +kernel) ?_
  refine R_newI (atype := .int) (t := .int) (N := 12) 26 2 15 (shW.take 27) rfl (by decide +kernel) (by decide +kernel) (by decide) (by decide) (fun _ => rfl) (fun _ _ h => h) rfl ky_int (by decide) (by decide) (by decide) (by decide) (by decide) dX2_init_15 (fun j => (hz 26 (by decide) j).1) ?_
  refine R_putAF fd2_1 rfl rfl rfl kf2_15 rfl dX2_init_17 ?_
  refine R_aload_n dX2_init_20 rfl ?_
  refine R_sipush dX2_init_21 rfl (by decide +kernel) ?_
  refine R_newI (atype := .int) (t := .int) (N := 160) 27 2 15 (shW.take 28) rfl (by decide +kernel) (by decide +kernel) (by decide) (by decide) (fun _ => rfl) (fun _ _ h => h) rfl ky_int (by decide) (by decide) (by decide) (by decide) (by decide) dX2_init_24 (fun j => (hz 27 (by decide) j).1) ?_
  refine R_putAF fd2_2 rfl rfl rfl kf2_18 rfl dX2_init_26 ?_
  refine R_aload_n dX2_init_29 rfl ?_
  refine R_sipush dX2_init_30 rfl (by decide +kernel) ?_
  refine R_newI (atype := .int) (t := .int) (N := 160) 28 2 15 (shW.take 29) rfl (by decide +kernel) (by decide +kernel) (by decide) (by decide) (fun _ => rfl) (fun _ _ h => h) rfl ky_int (by decide) (by decide) (by decide) (by decide) (by decide) dX2_init_33 (fun j => (hz 28 (by decide) j).1) ?_
  refine R_putAF fd2_3 rfl rfl rfl kf2_21 rfl dX2_init_35 ?_
  refine R_aload_n dX2_init_38 rfl ?_
  refine R_bipush dX2_init_39 rfl (by decide +kernel) ?_
  refine R_newI (atype := .int) (t := .int) (N := 16) 29 2 15 (shW.take 30) rfl (by decide +kernel) (by decide +kernel) (by decide) (by decide) (fun _ => rfl) (fun _ _ h => h) rfl ky_int (by decide) (by decide) (by decide) (by decide) (by decide) dX2_init_41 (fun j => (hz 29 (by decide) j).1) ?_
  refine R_putAF fd2_4 rfl rfl rfl kf2_24 rfl dX2_init_43 ?_
  refine R_return rfl (by decide) (by decide) dX2_init_46 ?_
  exact ⟨rfl, rfl, rfl, rfl, rfl⟩
theorem i_X6_22 {g z : GG} {r : RR} (hz : Z0 23 g z r) : CT (mX6_init (rmD 2 7 527)) 7 527 (shW.take 23) [vR (some 22)] g z r (qP (shW.take 30) (g) z (upR (upR (upR (upR (upR (upR (upR (r) 22 0 (some 23)) 24 0 (some 25)) 24 1 (some 26)) 24 2 (some 27)) 24 3 (some 28)) 24 4 (some 29)) 22 1 (some 24)) none) := by
  refine CT.of 0 rfl rfl ?_
  refine R_aload_n dX6_init_0 rfl ?_
  refine R_objInit km6_3 (by decide) (by decide) dX6_init_1 ?_
  refine R_aload_n dX6_init_4 rfl ?_
  refine R_sipush dX6_init_5 rfl (by decide +kernel) ?_
  refine R_newI (atype := .char) (t := .char) (N := 160) 23 1 14 (shW.take 24) rfl (by decide +kernel) (by decide +kernel) (by decide) (by decide) (fun _ => rfl) (fun _ _ h => h) rfl ky_char (by decide) (by decide) (by decide) (by decide) (by decide) dX6_init_8 (fun j => (hz 23 (by decide) j).1) ?_
  refine R_putAF fd6_0 rfl rfl rfl kf6_9 rfl dX6_init_10 ?_
  refine R_aload_n dX6_init_13 rfl ?_
  refine R_new (ci := 2) 24 (shW.take 25) (by decide +kernel) (by decide +kernel) (by decide) inX2 tyX2_ok kl6_15 kaX2 knX2 rfl (by decide) (by decide +kernel) (by decide) (by decide) dX6_init_14 (fun j => hz 24 (by decide) j) ?_
  refine R_dup dX6_init_17 (fun _ h => by cases h) ?_
  refine R_callN (i_X2_24 (by repeat (first | assumption | exact Z0.mono (by decide) hz | refine Z0_upR (by decide) ?_ | refine Z0_up2 (by decide) ?_ | refine Z0_fillS (by decide) ?_))) (mvX2_init _) rfl rfl kiX2_init (fun _ _ h => h.2.1.2.2.2.2.2.2.1) ⟨rfl, rfl, by decide, by decide⟩ (Nat.le_of_ble_eq_true rfl) dX6_init_18 (fun v1 sh1 g1 z1 r1 hq => ?_)
  obtain ⟨rfl, rfl, rfl, rfl, rfl⟩ := hq
  refine R_putR fd6_1 rfl kf6_18 rfl dX6_init_21 ?_
  refine R_return rfl (by decide) (by decide) dX6_init_24 ?_
  exact ⟨rfl, rfl, rfl, rfl, rfl⟩
theorem i_X9_30 {g z : GG} {r : RR} (hz : Z0 31 g z r) : CT (mX9_init (rmD 1 0 0)) 0 0 (shW.take 31) [vR (some 30), vR (some 21)] g z r (qP (shW.take 31) (up2 (up2 (up2 (g) 30 1 (-1)) 30 2 (-1)) 30 3 (-1)) z (upR (r) 30 0 (some 21)) none) := by
  refine CT.of 0 rfl rfl ?_
  refine R_aload_n dX9_init_0 rfl ?_
  refine R_objInit km9_3 (by decide) (by decide) dX9_init_1 ?_
  refine R_aload_n dX9_init_4 rfl ?_
  refine R_iconst dX9_init_5 rfl rfl ?_
  refine R_putI fd9_1 rfl kf9_9 rfl dX9_init_6 ?_
  refine R_aload_n dX9_init_9 rfl ?_
  refine R_iconst dX9_init_10 rfl rfl ?_
  refine R_putI fd9_2 rfl kf9_15 rfl dX9_init_11 ?_
  refine R_aload_n dX9_init_14 rfl ?_
  refine R_iconst dX9_init_15 rfl rfl ?_
  refine R_putI fd9_3 rfl kf9_18 rfl dX9_init_16 ?_
  refine R_aload_n dX9_init_19 rfl ?_
  refine R_aload_n dX9_init_20 rfl ?_
  refine R_putAF fd9_0 rfl rfl rfl kf9_21 rfl dX9_init_21 ?_
  refine R_return rfl (by decide) (by decide) dX9_init_24 ?_
  exact ⟨rfl, rfl, rfl, rfl, rfl⟩
theorem i_X9_31 {g z : GG} {r : RR} (hz : Z0 32 g z r) : CT (mX9_init (rmD 1 0 0)) 0 0 (shW.take 32) [vR (some 31), vR (some 21)] g z r (qP (shW.take 32) (up2 (up2 (up2 (g) 31 1 (-1)) 31 2 (-1)) 31 3 (-1)) z (upR (r) 31 0 (some 21)) none) := by
  refine CT.of 0 rfl rfl ?_
  refine R_aload_n dX9_init_0 rfl ?_
  refine R_objInit km9_3 (by decide) (by decide) dX9_init_1 ?_
  refine R_aload_n dX9_init_4 rfl ?_
  refine R_iconst dX9_init_5 rfl rfl ?_
  refine R_putI fd9_1 rfl kf9_9 rfl dX9_init_6 ?_
  refine R_aload_n dX9_init_9 rfl ?_
  refine R_iconst dX9_init_10 rfl rfl ?_
  refine R_putI fd9_2 rfl kf9_15 rfl dX9_init_11 ?_
  refine R_aload_n dX9_init_14 rfl ?_
  refine R_iconst dX9_init_15 rfl rfl ?_
  refine R_putI fd9_3 rfl kf9_18 rfl dX9_init_16 ?_
  refine R_aload_n dX9_init_19 rfl ?_
  refine R_aload_n dX9_init_20 rfl ?_
  refine R_putAF fd9_0 rfl rfl rfl kf9_21 rfl dX9_init_21 ?_
  refine R_return rfl (by decide) (by decide) dX9_init_24 ?_
  exact ⟨rfl, rfl, rfl, rfl, rfl⟩
theorem i_X3_32 {g z : GG} {r : RR} (hz : Z0 33 g z r) : CT (mX3_init (rmD 2 6 103)) 6 103 (shW.take 33) [vR (some 32), vR (some 1)] g z r (qP (shW.take 39) (g) z (upR (upR (upR (upR (upR (upR (upR (r) 32 1 (some 33)) 32 2 (some 34)) 32 3 (some 35)) 32 4 (some 36)) 32 5 (some 37)) 32 6 (some 38)) 32 0 (some 1)) none) := by
  refine CT.of 0 rfl rfl ?_
  refine R_aload_n dX3_init_0 rfl ?_
  refine R_objInit km3_3 (by decide) (by decide) dX3_init_1 ?_
  refine R_aload_n dX3_init_4 rfl ?_
  refine R_bipush dX3_init_5 rfl (by decide +kernel) ?_
  refine R_newI (atype := .int) (t := .int) (N := 10) 33 2 15 (shW.take 34) rfl (by decide +kernel) (by decide +kernel) (by decide) (by decide) (fun _ => rfl) (fun _ _ h => h) rfl ky_int (by decide) (by decide) (by decide) (by decide) (by decide) dX3_init_7 (fun j => (hz 33 (by decide) j).1) ?_
  refine R_putAF fd3_1 rfl rfl rfl kf3_9 rfl dX3_init_9 ?_
  refine R_aload_n dX3_init_12 rfl ?_
  refine R_bipush dX3_init_13 rfl (by decide +kernel) ?_
  refine R_newI (atype := .int) (t := .int) (N := 10) 34 2 15 (shW.take 35) rfl (by decide +kernel) (by decide +kernel) (by decide) (by decide) (fun _ => rfl) (fun _ _ h => h) rfl ky_int (by decide) (by decide) (by decide) (by decide) (by decide) dX3_init_15 (fun j => (hz 34 (by decide) j).1) ?_
  refine R_putAF fd3_2 rfl rfl rfl kf3_15 rfl dX3_init_17 ?_
  refine R_aload_n dX3_init_20 rfl ?_
  refine R_bipush dX3_init_21 rfl (by decide +kernel) ?_
  refine R_newI (atype := .int) (t := .int) (N := 10) 35 2 15 (shW.take 36) rfl (by decide +kernel) (by decide +kernel) (by decide) (by decide) (fun _ => rfl) (fun _ _ h => h) rfl ky_int (by decide) (by decide) (by decide) (by decide) (by decide) dX3_init_23 (fun j => (hz 35 (by decide) j).1) ?_
  refine R_putAF fd3_3 rfl rfl rfl kf3_18 rfl dX3_init_25 ?_
  refine R_aload_n dX3_init_28 rfl ?_
  refine R_iconst dX3_init_29 rfl rfl ?_
  refine R_newI (atype := .int) (t := .int) (N := 4) 36 2 15 (shW.take 37) rfl (by decide +kernel) (by decide +kernel) (by decide) (by decide) (fun _ => rfl) (fun _ _ h => h) rfl ky_int (by decide) (by decide) (by decide) (by decide) (by decide) dX3_init_30 (fun j => (hz 36 (by decide) j).1) ?_
  refine R_putAF fd3_4 rfl rfl rfl kf3_21 rfl dX3_init_32 ?_
  refine R_aload_n dX3_init_35 rfl ?_
  refine R_ldcS (i := 0) (by decide) (fun _ _ h => h.1.1) dX3_init_36 ?_
  refine R_callT (as := []) (i := 0) (by decide) (j_lengthS 0 (by decide)) rfl (mvJ0_length_8abf5 _) kiJ0_length_8abf5 kvJ0_length_8abf5 km3_26 ⟨rfl, rfl, by decide, by decide⟩ (Nat.le_of_ble_eq_true rfl) dX3_init_38 (fun v1 sh1 g1 z1 r1 hq => ?_)
  obtain ⟨rfl, rfl, rfl, rfl, rfl⟩ := hq
  refine R_newI (atype := .int) (t := .int) (N := 9) 37 2 15 (shW.take 38) rfl (by decide +kernel) (by decide +kernel) (by decide) (by decide) (fun _ => rfl) (fun _ _ h => h) rfl ky_int (by decide) (by decide) (by decide) (by decide) (by decide) dX3_init_41 (fun j => (hz 37 (by decide) j).1) ?_
  refine R_putAF fd3_5 rfl rfl rfl kf3_32 rfl dX3_init_43 ?_
  refine R_aload_n dX3_init_46 rfl ?_
  refine R_bipush dX3_init_47 rfl (by decide +kernel) ?_
  refine R_newI (atype := .int) (t := .int) (N := 60) 38 2 15 (shW.take 39) rfl (by decide +kernel) (by decide +kernel) (by decide) (by decide) (fun _ => rfl) (fun _ _ h => h) rfl ky_int (by decide) (by decide) (by decide) (by decide) (by decide) dX3_init_49 (fun j => (hz 38 (by decide) j).1) ?_
  refine R_putAF fd3_6 rfl rfl rfl kf3_35 rfl dX3_init_51 ?_
  refine R_aload_n dX3_init_54 rfl ?_
  refine R_aload_n dX3_init_55 rfl ?_
  refine R_putRF fd3_0 rfl rfl rfl kf3_38 rfl dX3_init_56 ?_
  refine R_return rfl (by decide) (by decide) dX3_init_59 ?_
  exact ⟨rfl, rfl, rfl, rfl, rfl⟩
theorem i_X7_39 {g z : GG} {r : RR} (hz : Z0 40 g z r) : CT (mX7_init (rmD 1 1 7)) 1 7 (shW.take 40) [vR (some 39), vR (some 1), vR (some 32)] g z r (qP (shW.take 41) (g) z (upR (upR (upR (r) 39 2 (some 40)) 39 0 (some 1)) 39 1 (some 32)) none) := by
  refine CT.of 0 rfl rfl ?_
  refine R_aload_n dX7_init_0 rfl ?_
  refine R_objInit km7_3 (by decide) (by decide) dX7_init_1 ?_
  refine R_aload_n dX7_init_4 rfl ?_
  refine R_bipush dX7_init_5 rfl (by decide +kernel) ?_
  refine R_newI (atype := .int) (t := .int) (N := 7) 40 2 15 (shW.take 41) rfl (by decide +kernel) (by decide +kernel) (by decide) (by decide) (fun _ => rfl) (fun _ _ h => h) rfl ky_int (by decide) (by decide) (by decide) (by decide) (by decide) dX7_init_7 (fun j => (hz 40 (by decide) j).1) ?_
  refine R_putAF fd7_2 rfl rfl rfl kf7_9 rfl dX7_init_9 ?_
  refine R_aload_n dX7_init_12 rfl ?_
  refine R_aload_n dX7_init_13 rfl ?_
  refine R_putRF fd7_0 rfl rfl rfl kf7_15 rfl dX7_init_14 ?_
  refine R_aload_n dX7_init_17 rfl ?_
  refine R_aload_n dX7_init_18 rfl ?_
  refine R_putRF fd7_1 rfl rfl rfl kf7_19 rfl dX7_init_19 ?_
  refine R_return rfl (by decide) (by decide) dX7_init_22 ?_
  exact ⟨rfl, rfl, rfl, rfl, rfl⟩
theorem i_X10_41 {g z : GG} {r : RR} (hz : Z0 42 g z r) : CT (mX10_init (rmD 1 8 8192)) 8 8192 (shW.take 42) [vR (some 41), vR (some 1), vR (some 32)] g z r (qP (shW.take 50) (fillS (g) 1024) z (upR (upR (upR (upR (upR (upR (upR (upR (upR (upR (r) 41 2 (some 42)) 41 3 (some 43)) 41 4 (some 44)) 41 5 (some 45)) 41 6 (some 46)) 41 7 (some 47)) 41 8 (some 48)) 41 9 (some 49)) 41 0 (some 1)) 41 1 (some 32)) none) := by
  refine CT.of 2 rfl rfl ?_
  refine R_aload_n dX10_init_0 rfl ?_
  refine R_objInit km10_3 (by decide) (by decide) dX10_init_1 ?_
  refine R_aload_n dX10_init_4 rfl ?_
  refine R_sipush dX10_init_5 rfl (by decide +kernel) ?_
  refine R_newI (atype := .int) (t := .int) (N := 1024) 42 2 15 (shW.take 43) rfl (by decide +kernel) (by decide +kernel) (by decide) (by decide) (fun _ => rfl) (fun _ _ h => h) rfl ky_int (by decide) (by decide) (by decide) (by decide) (by decide) dX10_init_8 (fun j => (hz 42 (by decide) j).1) ?_
  refine R_putAF fd10_2 rfl rfl rfl kf10_11 rfl dX10_init_10 ?_
  refine R_aload_n dX10_init_13 rfl ?_
  refine R_sipush dX10_init_14 rfl (by decide +kernel) ?_
  refine R_newI (atype := .int) (t := .int) (N := 1024) 43 2 15 (shW.take 44) rfl (by decide +kernel) (by decide +kernel) (by decide) (by decide) (fun _ => rfl) (fun _ _ h => h) rfl ky_int (by decide) (by decide) (by decide) (by decide) (by decide) dX10_init_17 (fun j => (hz 43 (by decide) j).1) ?_
  refine R_putAF fd10_3 rfl rfl rfl kf10_15 rfl dX10_init_19 ?_
  refine R_aload_n dX10_init_22 rfl ?_
  refine R_sipush dX10_init_23 rfl (by decide +kernel) ?_
  refine R_newI (atype := .int) (t := .int) (N := 1024) 44 2 15 (shW.take 45) rfl (by decide +kernel) (by decide +kernel) (by decide) (by decide) (fun _ => rfl) (fun _ _ h => h) rfl ky_int (by decide) (by decide) (by decide) (by decide) (by decide) dX10_init_26 (fun j => (hz 44 (by decide) j).1) ?_
  refine R_putAF fd10_4 rfl rfl rfl kf10_18 rfl dX10_init_28 ?_
  refine R_aload_n dX10_init_31 rfl ?_
  refine R_sipush dX10_init_32 rfl (by decide +kernel) ?_
  refine R_newI (atype := .int) (t := .int) (N := 1024) 45 2 15 (shW.take 46) rfl (by decide +kernel) (by decide +kernel) (by decide) (by decide) (fun _ => rfl) (fun _ _ h => h) rfl ky_int (by decide) (by decide) (by decide) (by decide) (by decide) dX10_init_35 (fun j => (hz 45 (by decide) j).1) ?_
  refine R_putAF fd10_5 rfl rfl rfl kf10_21 rfl dX10_init_37 ?_
  refine R_aload_n dX10_init_40 rfl ?_
  refine R_sipush dX10_init_41 rfl (by decide +kernel) ?_
  refine R_newI (atype := .int) (t := .int) (N := 1024) 46 2 15 (shW.take 47) rfl (by decide +kernel) (by decide +kernel) (by decide) (by decide) (fun _ => rfl) (fun _ _ h => h) rfl ky_int (by decide) (by decide) (by decide) (by decide) (by decide) dX10_init_44 (fun j => (hz 46 (by decide) j).1) ?_
  refine R_putAF fd10_6 rfl rfl rfl kf10_24 rfl dX10_init_46 ?_
  refine R_aload_n dX10_init_49 rfl ?_
  refine R_sipush dX10_init_50 rfl (by decide +kernel) ?_
  refine R_newI (atype := .int) (t := .int) (N := 1024) 47 2 15 (shW.take 48) rfl (by decide +kernel) (by decide +kernel) (by decide) (by decide) (fun _ => rfl) (fun _ _ h => h) rfl ky_int (by decide) (by decide) (by decide) (by decide) (by decide) dX10_init_53 (fun j => (hz 47 (by decide) j).1) ?_
  refine R_putAF fd10_7 rfl rfl rfl kf10_27 rfl dX10_init_55 ?_
  refine R_aload_n dX10_init_58 rfl ?_
  refine R_sipush dX10_init_59 rfl (by decide +kernel) ?_
  refine R_newJ (N := 1024) 48 (shW.take 49) (by decide +kernel) (by decide +kernel) (by decide) (by decide) (by decide) (by decide) (by decide) (by decide) dX10_init_62 (fun j => (hz 48 (by decide) j).2.1) ?_
  refine R_putAF fd10_8 rfl rfl rfl kf10_30 rfl dX10_init_64 ?_
  refine R_aload_n dX10_init_67 rfl ?_
  refine R_sipush dX10_init_68 rfl (by decide +kernel) ?_
  refine R_newJ (N := 1024) 49 (shW.take 50) (by decide +kernel) (by decide +kernel) (by decide) (by decide) (by decide) (by decide) (by decide) (by decide) dX10_init_71 (fun j => (hz 49 (by decide) j).2.1) ?_
  refine R_putAF fd10_9 rfl rfl rfl kf10_34 rfl dX10_init_73 ?_
  refine R_aload_n dX10_init_76 rfl ?_
  refine R_aload_n dX10_init_77 rfl ?_
  refine R_putRF fd10_0 rfl rfl rfl kf10_37 rfl dX10_init_78 ?_
  refine R_aload_n dX10_init_81 rfl ?_
  refine R_aload_n dX10_init_82 rfl ?_
  refine R_putRF fd10_1 rfl rfl rfl kf10_41 rfl dX10_init_83 ?_
  refine i_X10_loop (Nat.le_of_ble_eq_true rfl) (Nat.le_of_ble_eq_true rfl) rfl (hz 43 (by decide) 0).1 (fun _ _ => ?_)
  refine R_return rfl (by decide) (by decide) dX10_init_142 ?_
  exact ⟨rfl, rfl, rfl, rfl, rfl⟩
theorem i_X2_50 {g z : GG} {r : RR} (hz : Z0 51 g z r) : CT (mX2_init (rmD 1 5 360)) 5 360 (shW.take 51) [vR (some 50)] g z r (qP (shW.take 56) (g) z (upR (upR (upR (upR (upR (r) 50 0 (some 51)) 50 1 (some 52)) 50 2 (some 53)) 50 3 (some 54)) 50 4 (some 55)) none) := by
  refine CT.of 0 rfl rfl ?_
  refine R_aload_n dX2_init_0 rfl ?_
  refine R_objInit km2_3 (by decide) (by decide) dX2_init_1 ?_
  refine R_aload_n dX2_init_4 rfl ?_
  refine R_bipush dX2_init_5 rfl (by decide +kernel) ?_
  refine R_newI (atype := .int) (t := .int) (N := 12) 51 2 15 (shW.take 52) rfl (by decide +kernel) (by decide +kernel) (by decide) (by decide) (fun _ => rfl) (fun _ _ h => h) rfl ky_int (by decide) (by decide) (by decide) (by decide) (by decide) dX2_init_7 (fun j => (hz 51 (by decide) j).1) ?_
  refine R_putAF fd2_0 rfl rfl rfl kf2_9 rfl dX2_init_9 ?_
  refine R_aload_n dX2_init_12 rfl ?_
  refine R_bipush dX2_init_13 rfl (by decide +kernel) ?_
  refine R_newI (atype := .int) (t := .int) (N := 12) 52 2 15 (shW.take 53) rfl (by decide +kernel) (by decide +kernel) (by decide) (by decide) (fun _ => rfl) (fun _ _ h => h) rfl ky_int (by decide) (by decide) (by decide) (by decide) (by decide) dX2_init_15 (fun j => (hz 52 (by decide) j).1) ?_
  refine R_putAF fd2_1 rfl rfl rfl kf2_15 rfl dX2_init_17 ?_
  refine R_aload_n dX2_init_20 rfl ?_
  refine R_sipush dX2_init_21 rfl (by decide +kernel) ?_
  refine R_newI (atype := .int) (t := .int) (N := 160) 53 2 15 (shW.take 54) rfl (by decide +kernel) (by decide +kernel) (by decide) (by decide) (fun _ => rfl) (fun _ _ h => h) rfl ky_int (by decide) (by decide) (by decide) (by decide) (by decide) dX2_init_24 (fun j => (hz 53 (by decide) j).1) ?_
  refine R_putAF fd2_2 rfl rfl rfl kf2_18 rfl dX2_init_26 ?_
  refine R_aload_n dX2_init_29 rfl ?_
  refine R_sipush dX2_init_30 rfl (by decide +kernel) ?_
  refine R_newI (atype := .int) (t := .int) (N := 160) 54 2 15 (shW.take 55) rfl (by decide +kernel) (by decide +kernel) (by decide) (by decide) (fun _ => rfl) (fun _ _ h => h) rfl ky_int (by decide) (by decide) (by decide) (by decide) (by decide) dX2_init_33 (fun j => (hz 54 (by decide) j).1) ?_
  refine R_putAF fd2_3 rfl rfl rfl kf2_21 rfl dX2_init_35 ?_
  refine R_aload_n dX2_init_38 rfl ?_
  refine R_bipush dX2_init_39 rfl (by decide +kernel) ?_
  refine R_newI (atype := .int) (t := .int) (N := 16) 55 2 15 (shW.take 56) rfl (by decide +kernel) (by decide +kernel) (by decide) (by decide) (fun _ => rfl) (fun _ _ h => h) rfl ky_int (by decide) (by decide) (by decide) (by decide) (by decide) dX2_init_41 (fun j => (hz 55 (by decide) j).1) ?_
  refine R_putAF fd2_4 rfl rfl rfl kf2_24 rfl dX2_init_43 ?_
  refine R_return rfl (by decide) (by decide) dX2_init_46 ?_
  exact ⟨rfl, rfl, rfl, rfl, rfl⟩
theorem i_X2_56 {g z : GG} {r : RR} (hz : Z0 57 g z r) : CT (mX2_init (rmD 1 5 360)) 5 360 (shW.take 57) [vR (some 56)] g z r (qP (shW.take 62) (g) z (upR (upR (upR (upR (upR (r) 56 0 (some 57)) 56 1 (some 58)) 56 2 (some 59)) 56 3 (some 60)) 56 4 (some 61)) none) := by
  refine CT.of 0 rfl rfl ?_
  refine R_aload_n dX2_init_0 rfl ?_
  refine R_objInit km2_3 (by decide) (by decide) dX2_init_1 ?_
  refine R_aload_n dX2_init_4 rfl ?_
  refine R_bipush dX2_init_5 rfl (by decide +kernel) ?_
  refine R_newI (atype := .int) (t := .int) (N := 12) 57 2 15 (shW.take 58) rfl (by decide +kernel) (by decide +kernel) (by decide) (by decide) (fun _ => rfl) (fun _ _ h => h) rfl ky_int (by decide) (by decide) (by decide) (by decide) (by decide) dX2_init_7 (fun j => (hz 57 (by decide) j).1) ?_
  refine R_putAF fd2_0 rfl rfl rfl kf2_9 rfl dX2_init_9 ?_
  refine R_aload_n dX2_init_12 rfl ?_
  refine R_bipush dX2_init_13 rfl (by decide +kernel) ?_
  refine R_newI (atype := .int) (t := .int) (N := 12) 58 2 15 (shW.take 59) rfl (by decide +kernel) (by decide +kernel) (by decide) (by decide) (fun _ => rfl) (fun _ _ h => h) rfl ky_int (by decide) (by decide) (by decide) (by decide) (by decide) dX2_init_15 (fun j => (hz 58 (by decide) j).1) ?_
  refine R_putAF fd2_1 rfl rfl rfl kf2_15 rfl dX2_init_17 ?_
  refine R_aload_n dX2_init_20 rfl ?_
  refine R_sipush dX2_init_21 rfl (by decide +kernel) ?_
  refine R_newI (atype := .int) (t := .int) (N := 160) 59 2 15 (shW.take 60) rfl (by decide +kernel) (by decide +kernel) (by decide) (by decide) (fun _ => rfl) (fun _ _ h => h) rfl ky_int (by decide) (by decide) (by decide) (by decide) (by decide) dX2_init_24 (fun j => (hz 59 (by decide) j).1) ?_
  refine R_putAF fd2_2 rfl rfl rfl kf2_18 rfl dX2_init_26 ?_
  refine R_aload_n dX2_init_29 rfl ?_
  refine R_sipush dX2_init_30 rfl (by decide +kernel) ?_
  refine R_newI (atype := .int) (t := .int) (N := 160) 60 2 15 (shW.take 61) rfl (by decide +kernel) (by decide +kernel) (by decide) (by decide) (fun _ => rfl) (fun _ _ h => h) rfl ky_int (by decide) (by decide) (by decide) (by decide) (by decide) dX2_init_33 (fun j => (hz 60 (by decide) j).1) ?_
  refine R_putAF fd2_3 rfl rfl rfl kf2_21 rfl dX2_init_35 ?_
  refine R_aload_n dX2_init_38 rfl ?_
  refine R_bipush dX2_init_39 rfl (by decide +kernel) ?_
  refine R_newI (atype := .int) (t := .int) (N := 16) 61 2 15 (shW.take 62) rfl (by decide +kernel) (by decide +kernel) (by decide) (by decide) (fun _ => rfl) (fun _ _ h => h) rfl ky_int (by decide) (by decide) (by decide) (by decide) (by decide) dX2_init_41 (fun j => (hz 61 (by decide) j).1) ?_
  refine R_putAF fd2_4 rfl rfl rfl kf2_24 rfl dX2_init_43 ?_
  refine R_return rfl (by decide) (by decide) dX2_init_46 ?_
  exact ⟨rfl, rfl, rfl, rfl, rfl⟩
theorem i_X2_62 {g z : GG} {r : RR} (hz : Z0 63 g z r) : CT (mX2_init (rmD 1 5 360)) 5 360 (shW.take 63) [vR (some 62)] g z r (qP (shW.take 68) (g) z (upR (upR (upR (upR (upR (r) 62 0 (some 63)) 62 1 (some 64)) 62 2 (some 65)) 62 3 (some 66)) 62 4 (some 67)) none) := by
  refine CT.of 0 rfl rfl ?_
  refine R_aload_n dX2_init_0 rfl ?_
  refine R_objInit km2_3 (by decide) (by decide) dX2_init_1 ?_
  refine R_aload_n dX2_init_4 rfl ?_
  refine R_bipush dX2_init_5 rfl (by decide +kernel) ?_
  refine R_newI (atype := .int) (t := .int) (N := 12) 63 2 15 (shW.take 64) rfl (by decide +kernel) (by decide +kernel) (by decide) (by decide) (fun _ => rfl) (fun _ _ h => h) rfl ky_int (by decide) (by decide) (by decide) (by decide) (by decide) dX2_init_7 (fun j => (hz 63 (by decide) j).1) ?_
  refine R_putAF fd2_0 rfl rfl rfl kf2_9 rfl dX2_init_9 ?_
  refine R_aload_n dX2_init_12 rfl ?_
  refine R_bipush dX2_init_13 rfl (by decide +kernel) ?_
  refine R_newI (atype := .int) (t := .int) (N := 12) 64 2 15 (shW.take 65) rfl (by decide +kernel) (by decide +kernel) (by decide) (by decide) (fun _ => rfl) (fun _ _ h => h) rfl ky_int (by decide) (by decide) (by decide) (by decide) (by decide) dX2_init_15 (fun j => (hz 64 (by decide) j).1) ?_
  refine R_putAF fd2_1 rfl rfl rfl kf2_15 rfl dX2_init_17 ?_
  refine R_aload_n dX2_init_20 rfl ?_
  refine R_sipush dX2_init_21 rfl (by decide +kernel) ?_
  refine R_newI (atype := .int) (t := .int) (N := 160) 65 2 15 (shW.take 66) rfl (by decide +kernel) (by decide +kernel) (by decide) (by decide) (fun _ => rfl) (fun _ _ h => h) rfl ky_int (by decide) (by decide) (by decide) (by decide) (by decide) dX2_init_24 (fun j => (hz 65 (by decide) j).1) ?_
  refine R_putAF fd2_2 rfl rfl rfl kf2_18 rfl dX2_init_26 ?_
  refine R_aload_n dX2_init_29 rfl ?_
  refine R_sipush dX2_init_30 rfl (by decide +kernel) ?_
  refine R_newI (atype := .int) (t := .int) (N := 160) 66 2 15 (shW.take 67) rfl (by decide +kernel) (by decide +kernel) (by decide) (by decide) (fun _ => rfl) (fun _ _ h => h) rfl ky_int (by decide) (by decide) (by decide) (by decide) (by decide) dX2_init_33 (fun j => (hz 66 (by decide) j).1) ?_
  refine R_putAF fd2_3 rfl rfl rfl kf2_21 rfl dX2_init_35 ?_
  refine R_aload_n dX2_init_38 rfl ?_
  refine R_bipush dX2_init_39 rfl (by decide +kernel) ?_
  refine R_newI (atype := .int) (t := .int) (N := 16) 67 2 15 (shW.take 68) rfl (by decide +kernel) (by decide +kernel) (by decide) (by decide) (fun _ => rfl) (fun _ _ h => h) rfl ky_int (by decide) (by decide) (by decide) (by decide) (by decide) dX2_init_41 (fun j => (hz 67 (by decide) j).1) ?_
  refine R_putAF fd2_4 rfl rfl rfl kf2_24 rfl dX2_init_43 ?_
  refine R_return rfl (by decide) (by decide) dX2_init_46 ?_
  exact ⟨rfl, rfl, rfl, rfl, rfl⟩
theorem i_X2_68 {g z : GG} {r : RR} (hz : Z0 69 g z r) : CT (mX2_init (rmD 1 5 360)) 5 360 (shW.take 69) [vR (some 68)] g z r (qP (shW.take 74) (g) z (upR (upR (upR (upR (upR (r) 68 0 (some 69)) 68 1 (some 70)) 68 2 (some 71)) 68 3 (some 72)) 68 4 (some 73)) none) := by
  refine CT.of 0 rfl rfl ?_
  refine R_aload_n dX2_init_0 rfl ?_
  refine R_objInit km2_3 (by decide) (by decide) dX2_init_1 ?_
  refine R_aload_n dX2_init_4 rfl ?_
  refine R_bipush dX2_init_5 rfl (by decide +kernel) ?_
  refine R_newI (atype := .int) (t := .int) (N := 12) 69 2 15 (shW.take 70) rfl (by decide +kernel) (by decide +kernel) (by decide) (by decide) (fun _ => rfl) (fun _ _ h => h) rfl ky_int (by decide) (by decide) (by decide) (by decide) (by decide) dX2_init_7 (fun j => (hz 69 (by decide) j).1) ?_
  refine R_putAF fd2_0 rfl rfl rfl kf2_9 rfl dX2_init_9 ?_
  refine R_aload_n dX2_init_12 rfl ?_
  refine R_bipush dX2_init_13 rfl (by decide +kernel) ?_
  refine R_newI (atype := .int) (t := .int) (N := 12) 70 2 15 (shW.take 71) rfl (by decide +kernel) (by decide +kernel) (by decide) (by decide) (fun _ => rfl) (fun _ _ h => h) rfl ky_int (by decide) (by decide) (by decide) (by decide) (by decide) dX2_init_15 (fun j => (hz 70 (by decide) j).1) ?_
  refine R_putAF fd2_1 rfl rfl rfl kf2_15 rfl dX2_init_17 ?_
  refine R_aload_n dX2_init_20 rfl ?_
  refine R_sipush dX2_init_21 rfl (by decide +kernel) ?_
  refine R_newI (atype := .int) (t := .int) (N := 160) 71 2 15 (shW.take 72) rfl (by decide +kernel) (by decide +kernel) (by decide) (by decide) (fun _ => rfl) (fun _ _ h => h) rfl ky_int (by decide) (by decide) (by decide) (by decide) (by decide) dX2_init_24 (fun j => (hz 71 (by decide) j).1) ?_
  refine R_putAF fd2_2 rfl rfl rfl kf2_18 rfl dX2_init_26 ?_
  refine R_aload_n dX2_init_29 rfl ?_
  refine R_sipush dX2_init_30 rfl (by decide +kernel) ?_
  refine R_newI (atype := .int) (t := .int) (N := 160) 72 2 15 (shW.take 73) rfl (by decide +kernel) (by decide +kernel) (by decide) (by decide) (fun _ => rfl) (fun _ _ h => h) rfl ky_int (by decide) (by decide) (by decide) (by decide) (by decide) dX2_init_33 (fun j => (hz 72 (by decide) j).1) ?_
  refine R_putAF fd2_3 rfl rfl rfl kf2_21 rfl dX2_init_35 ?_
  refine R_aload_n dX2_init_38 rfl ?_
  refine R_bipush dX2_init_39 rfl (by decide +kernel) ?_
  refine R_newI (atype := .int) (t := .int) (N := 16) 73 2 15 (shW.take 74) rfl (by decide +kernel) (by decide +kernel) (by decide) (by decide) (fun _ => rfl) (fun _ _ h => h) rfl ky_int (by decide) (by decide) (by decide) (by decide) (by decide) dX2_init_41 (fun j => (hz 73 (by decide) j).1) ?_
  refine R_putAF fd2_4 rfl rfl rfl kf2_24 rfl dX2_init_43 ?_
  refine R_return rfl (by decide) (by decide) dX2_init_46 ?_
  exact ⟨rfl, rfl, rfl, rfl, rfl⟩
theorem i_X11_0 {g z : GG} {r : RR} (hz : Z0 1 g z r) : CT (mX11_init (rmD 3 73 10711)) 73 10711 (shW.take 1) [vR (some 0)] g z r (qP (shW.take 74) (fillS (up2 (up2 (up2 (up2 (up2 (up2 (up2 (up2 (g) 1 3 (10)) 1 4 (20)) 30 1 (-1)) 30 2 (-1)) 30 3 (-1)) 31 1 (-1)) 31 2 (-1)) 31 3 (-1)) 1024) z (upR (upR (upR (upR (upR (upR (upR (upR (upR (upR (upR (upR (upR (upR (upR (upR (upR (upR (upR (upR (upR (upR (upR (upR (upR (upR (upR (upR (upR (upR (upR (upR (upR (upR (upR (upR (upR (upR (upR (upR (upR (upR (upR (upR (upR (upR (upR (upR (upR (upR (upR (upR (upR (upR (upR (upR (upR (upR (upR (upR (upR (upR (upR (upR (upR (upR (upR (upR (upR (upR (upR (upR (upR (upR (upR (upR (upR (upR (upR (upR (r) 2 0 (some 3)) 2 1 (some 4)) 1 0 (some 2)) 5 0 (some 6)) 5 1 (some 7)) 5 2 (some 8)) 5 3 (some 9)) 5 4 (some 10)) 1 1 (some 5)) 11 0 (some 12)) 11 1 (some 13)) 11 2 (some 14)) 11 3 (some 15)) 11 4 (some 16)) 11 5 (some 17)) 11 6 (some 18)) 1 2 (some 11)) 0 0 (some 1)) 19 0 (some 20)) 0 1 (some 19)) 0 2 (some 21)) 22 0 (some 23)) 24 0 (some 25)) 24 1 (some 26)) 24 2 (some 27)) 24 3 (some 28)) 24 4 (some 29)) 22 1 (some 24)) 0 3 (some 22)) 30 0 (some 21)) 0 4 (some 30)) 31 0 (some 21)) 0 5 (some 31)) 32 1 (some 33)) 32 2 (some 34)) 32 3 (some 35)) 32 4 (some 36)) 32 5 (some 37)) 32 6 (some 38)) 32 0 (some 1)) 0 6 (some 32)) 39 2 (some 40)) 39 0 (some 1)) 39 1 (some 32)) 0 7 (some 39)) 41 2 (some 42)) 41 3 (some 43)) 41 4 (some 44)) 41 5 (some 45)) 41 6 (some 46)) 41 7 (some 47)) 41 8 (some 48)) 41 9 (some 49)) 41 0 (some 1)) 41 1 (some 32)) 0 8 (some 41)) 50 0 (some 51)) 50 1 (some 52)) 50 2 (some 53)) 50 3 (some 54)) 50 4 (some 55)) 21 0 (some 50)) 56 0 (some 57)) 56 1 (some 58)) 56 2 (some 59)) 56 3 (some 60)) 56 4 (some 61)) 21 1 (some 56)) 62 0 (some 63)) 62 1 (some 64)) 62 2 (some 65)) 62 3 (some 66)) 62 4 (some 67)) 21 2 (some 62)) 68 0 (some 69)) 68 1 (some 70)) 68 2 (some 71)) 68 3 (some 72)) 68 4 (some 73)) 21 3 (some 68)) none) := by
  refine CT.of 1 rfl rfl ?_
  refine R_aload_n dX11_init_0 rfl ?_
  refine R_objInit km11_1 (by decide) (by decide) dX11_init_1 ?_
  refine R_aload_n dX11_init_4 rfl ?_
  refine R_new (ci := 0) 1 (shW.take 2) (by decide +kernel) (by decide +kernel) (by decide) inX0 tyX0_ok kl11_7 kaX0 knX0 rfl (by decide) (by decide +kernel) (by decide) (by decide) dX11_init_5 (fun j => hz 1 (by decide) j) ?_
  refine R_dup dX11_init_8 (fun _ h => by cases h) ?_
  refine R_callN (i_X0_1 (by repeat (first | assumption | exact Z0.mono (by decide) hz | refine Z0_upR (by decide) ?_ | refine Z0_up2 (by decide) ?_ | refine Z0_fillS (by decide) ?_))) (mvX0_init _) rfl rfl kiX0_init (fun _ _ h => h.2.1.1) ⟨rfl, rfl, by decide, by decide⟩ (Nat.le_of_ble_eq_true rfl) dX11_init_9 (fun v1 sh1 g1 z1 r1 hq => ?_)
  obtain ⟨rfl, rfl, rfl, rfl, rfl⟩ := hq
  refine R_putRF fd11_0 rfl rfl rfl kf11_10 rfl dX11_init_12 ?_
  refine R_aload_n dX11_init_15 rfl ?_
  refine R_new (ci := 8) 19 (shW.take 20) (by decide +kernel) (by decide +kernel) (by decide) inX8 tyX8_ok kl11_16 kaX8 knX8 rfl (by decide) (by decide +kernel) (by decide) (by decide) dX11_init_16 (fun j => hz 19 (by decide) j) ?_
  refine R_dup dX11_init_19 (fun _ h => by cases h) ?_
  refine R_callN (i_X8_19 (by repeat (first | assumption | exact Z0.mono (by decide) hz | refine Z0_upR (by decide) ?_ | refine Z0_up2 (by decide) ?_ | refine Z0_fillS (by decide) ?_))) (mvX8_init _) rfl rfl kiX8_init (fun _ _ h => h.2.1.2.2.2.2.1) ⟨rfl, rfl, by decide, by decide⟩ (Nat.le_of_ble_eq_true rfl) dX11_init_20 (fun v1 sh1 g1 z1 r1 hq => ?_)
  obtain ⟨rfl, rfl, rfl, rfl, rfl⟩ := hq
  refine R_putRF fd11_1 rfl rfl rfl kf11_19 rfl dX11_init_23 ?_
  refine R_aload_n dX11_init_26 rfl ?_
  refine R_iconst dX11_init_27 rfl rfl ?_
  refine R_newQ (N := 4) 21 (shW.take 22) (by decide +kernel) (by decide +kernel) (by decide) kl11_23 (by decide) (by decide) (by decide) (by decide) (by decide) dX11_init_28 (fun j => (hz 21 (by decide) j).2.2) ?_
  refine R_putAF fd11_2 rfl rfl rfl kf11_25 rfl dX11_init_31 ?_
  refine R_aload_n dX11_init_34 rfl ?_
  refine R_new (ci := 6) 22 (shW.take 23) (by decide +kernel) (by decide +kernel) (by decide) inX6 tyX6_ok kl11_29 kaX6 knX6 rfl (by decide) (by decide +kernel) (by decide) (by decide) dX11_init_35 (fun j => hz 22 (by decide) j) ?_
  refine R_dup dX11_init_38 (fun _ h => by cases h) ?_
  refine R_callN (i_X6_22 (by repeat (first | assumption | exact Z0.mono (by decide) hz | refine Z0_upR (by decide) ?_ | refine Z0_up2 (by decide) ?_ | refine Z0_fillS (by decide) ?_))) (mvX6_init _) rfl rfl kiX6_init (fun _ _ h => h.2.1.2.2.2.2.2.1) ⟨rfl, rfl, by decide, by decide⟩ (Nat.le_of_ble_eq_true rfl) dX11_init_39 (fun v1 sh1 g1 z1 r1 hq => ?_)
  obtain ⟨rfl, rfl, rfl, rfl, rfl⟩ := hq
  refine R_putRF fd11_3 rfl rfl rfl kf11_32 rfl dX11_init_42 ?_
  refine R_aload_n dX11_init_45 rfl ?_
  refine R_new (ci := 9) 30 (shW.take 31) (by decide +kernel) (by decide +kernel) (by decide) inX9 tyX9_ok kl11_36 kaX9 knX9 rfl (by decide) (by decide +kernel) (by decide) (by decide) dX11_init_46 (fun j => hz 30 (by decide) j) ?_
  refine R_dup dX11_init_49 (fun _ h => by cases h) ?_
  refine R_aload_n dX11_init_50 rfl ?_
  refine R_getR (some 21) (rfl) fd11_2 kf11_25 rfl dX11_init_51 ?_
  refine R_callI (i_X9_30 (by repeat (first | assumption | exact Z0.mono (by decide) hz | refine Z0_upR (by decide) ?_ | refine Z0_up2 (by decide) ?_ | refine Z0_fillS (by decide) ?_))) (mvX9_init _) rfl rfl kiX9_init km11_38 ⟨rfl, rfl, by decide, by decide⟩ (Nat.le_of_ble_eq_true rfl) dX11_init_54 (fun v1 sh1 g1 z1 r1 hq => ?_)
  obtain ⟨rfl, rfl, rfl, rfl, rfl⟩ := hq
  refine R_putRF fd11_4 rfl rfl rfl kf11_41 rfl dX11_init_57 ?_
  refine R_aload_n dX11_init_60 rfl ?_
  refine R_new (ci := 9) 31 (shW.take 32) (by decide +kernel) (by decide +kernel) (by decide) inX9 tyX9_ok kl11_36 kaX9 knX9 rfl (by decide) (by decide +kernel) (by decide) (by decide) dX11_init_61 (fun j => hz 31 (by decide) j) ?_
  refine R_dup dX11_init_64 (fun _ h => by cases h) ?_
  refine R_aload_n dX11_init_65 rfl ?_
  refine R_getR (some 21) (rfl) fd11_2 kf11_25 rfl dX11_init_66 ?_
  refine R_callI (i_X9_31 (by repeat (first | assumption | exact Z0.mono (by decide) hz | refine Z0_upR (by decide) ?_ | refine Z0_up2 (by decide) ?_ | refine Z0_fillS (by decide) ?_))) (mvX9_init _) rfl rfl kiX9_init km11_38 ⟨rfl, rfl, by decide, by decide⟩ (Nat.le_of_ble_eq_true rfl) dX11_init_69 (fun v1 sh1 g1 z1 r1 hq => ?_)
  obtain ⟨rfl, rfl, rfl, rfl, rfl⟩ := hq
  refine R_putRF fd11_5 rfl rfl rfl kf11_45 rfl dX11_init_72 ?_
  refine R_aload_n dX11_init_75 rfl ?_
  refine R_new (ci := 3) 32 (shW.take 33) (by decide +kernel) (by decide +kernel) (by decide) inX3 tyX3_ok kl11_48 kaX3 knX3 rfl (by decide) (by decide +kernel) (by decide) (by decide) dX11_init_76 (fun j => hz 32 (by decide) j) ?_
  refine R_dup dX11_init_79 (fun _ h => by cases h) ?_
  refine R_aload_n dX11_init_80 rfl ?_
  refine R_getR (some 1) (rfl) fd11_0 kf11_10 rfl dX11_init_81 ?_
  refine R_callI (i_X3_32 (by repeat (first | assumption | exact Z0.mono (by decide) hz | refine Z0_upR (by decide) ?_ | refine Z0_up2 (by decide) ?_ | refine Z0_fillS (by decide) ?_))) (mvX3_init _) rfl rfl kiX3_init km11_50 ⟨rfl, rfl, by decide, by decide⟩ (Nat.le_of_ble_eq_true rfl) dX11_init_84 (fun v1 sh1 g1 z1 r1 hq => ?_)
  obtain ⟨rfl, rfl, rfl, rfl, rfl⟩ := hq
  refine R_putRF fd11_6 rfl rfl rfl kf11_53 rfl dX11_init_87 ?_
  refine R_aload_n dX11_init_90 rfl ?_
  refine R_new (ci := 7) 39 (shW.take 40) (by decide +kernel) (by decide +kernel) (by decide) inX7 tyX7_ok kl11_57 kaX7 knX7 rfl (by decide) (by decide +kernel) (by decide) (by decide) dX11_init_91 (fun j => hz 39 (by decide) j) ?_
  refine R_dup dX11_init_94 (fun _ h => by cases h) ?_
  refine R_aload_n dX11_init_95 rfl ?_
  refine R_getR (some 1) (rfl) fd11_0 kf11_10 rfl dX11_init_96 ?_
  refine R_aload_n dX11_init_99 rfl ?_
  refine R_getR (some 32) (rfl) fd11_6 kf11_53 rfl dX11_init_100 ?_
  refine R_callI (i_X7_39 (by repeat (first | assumption | exact Z0.mono (by decide) hz | refine Z0_upR (by decide) ?_ | refine Z0_up2 (by decide) ?_ | refine Z0_fillS (by decide) ?_))) (mvX7_init _) rfl rfl kiX7_init km11_59 ⟨rfl, rfl, by decide, by decide⟩ (Nat.le_of_ble_eq_true rfl) dX11_init_103 (fun v1 sh1 g1 z1 r1 hq => ?_)
  obtain ⟨rfl, rfl, rfl, rfl, rfl⟩ := hq
  refine R_putRF fd11_7 rfl rfl rfl kf11_62 rfl dX11_init_106 ?_
  refine R_aload_n dX11_init_109 rfl ?_
  refine R_new (ci := 10) 41 (shW.take 42) (by decide +kernel) (by decide +kernel) (by decide) inX10 tyX10_ok kl11_66 kaX10 knX10 rfl (by decide) (by decide +kernel) (by decide) (by decide) dX11_init_110 (fun j => hz 41 (by decide) j) ?_
  refine R_dup dX11_init_113 (fun _ h => by cases h) ?_
  refine R_aload_n dX11_init_114 rfl ?_
  refine R_getR (some 1) (rfl) fd11_0 kf11_10 rfl dX11_init_115 ?_
  refine R_aload_n dX11_init_118 rfl ?_
  refine R_getR (some 32) (rfl) fd11_6 kf11_53 rfl dX11_init_119 ?_
  refine R_callI (i_X10_41 (by repeat (first | assumption | exact Z0.mono (by decide) hz | refine Z0_upR (by decide) ?_ | refine Z0_up2 (by decide) ?_ | refine Z0_fillS (by decide) ?_))) (mvX10_init _) rfl rfl kiX10_init km11_68 ⟨rfl, rfl, by decide, by decide⟩ (Nat.le_of_ble_eq_true rfl) dX11_init_122 (fun v1 sh1 g1 z1 r1 hq => ?_)
  obtain ⟨rfl, rfl, rfl, rfl, rfl⟩ := hq
  refine R_putRF fd11_8 rfl rfl rfl kf11_69 rfl dX11_init_125 ?_
  refine R_iconst dX11_init_128 rfl rfl ?_
  refine R_istore_n dX11_init_129 (by decide) rfl [_, _] rfl ?_
  refine R_iload_n dX11_init_130 rfl ?_
  refine R_aload_n dX11_init_131 rfl ?_
  refine R_getR (some 21) (rfl) fd11_2 kf11_25 rfl dX11_init_132 ?_
  refine R_alen18 rfl (by decide) dX11_init_135 ?_
  refine R_icmp_ge 158 dX11_init_136 (by decide) (fun hc136 => absurd hc136 (by decide)) (fun hc136 => ?_)
  refine R_aload_n dX11_init_139 rfl ?_
  refine R_getR (some 21) (rfl) fd11_2 kf11_25 rfl dX11_init_140 ?_
  refine R_iload_n dX11_init_143 rfl ?_
  refine R_new (ci := 2) 50 (shW.take 51) (by decide +kernel) (by decide +kernel) (by decide) inX2 tyX2_ok kl11_23 kaX2 knX2 rfl (by decide) (by decide +kernel) (by decide) (by decide) dX11_init_144 (fun j => hz 50 (by decide) j) ?_
  refine R_dup dX11_init_147 (fun _ h => by cases h) ?_
  refine R_callN (i_X2_50 (by repeat (first | assumption | exact Z0.mono (by decide) hz | refine Z0_upR (by decide) ?_ | refine Z0_up2 (by decide) ?_ | refine Z0_fillS (by decide) ?_))) (mvX2_init _) rfl rfl kiX2_init (fun _ _ h => h.2.1.2.2.2.2.2.2.2) ⟨rfl, rfl, by decide, by decide⟩ (Nat.le_of_ble_eq_true rfl) dX11_init_148 (fun v1 sh1 g1 z1 r1 hq => ?_)
  obtain ⟨rfl, rfl, rfl, rfl, rfl⟩ := hq
  refine R_aast rfl rfl (by decide) (by decide) dX11_init_151 ?_
  refine R_iincN dX11_init_152 rfl (by decide) rfl (by unfold inI; omega) [_, _] rfl ?_
  refine R_goto 130 dX11_init_155 (by decide) ?_
  refine R_iload_n dX11_init_130 rfl ?_
  refine R_aload_n dX11_init_131 rfl ?_
  refine R_getR (some 21) (rfl) fd11_2 kf11_25 rfl dX11_init_132 ?_
  refine R_alen18 rfl (by decide) dX11_init_135 ?_
  refine R_icmp_ge 158 dX11_init_136 (by decide) (fun hc136 => absurd hc136 (by decide)) (fun hc136 => ?_)
  refine R_aload_n dX11_init_139 rfl ?_
  refine R_getR (some 21) (rfl) fd11_2 kf11_25 rfl dX11_init_140 ?_
  refine R_iload_n dX11_init_143 rfl ?_
  refine R_new (ci := 2) 56 (shW.take 57) (by decide +kernel) (by decide +kernel) (by decide) inX2 tyX2_ok kl11_23 kaX2 knX2 rfl (by decide) (by decide +kernel) (by decide) (by decide) dX11_init_144 (fun j => hz 56 (by decide) j) ?_
  refine R_dup dX11_init_147 (fun _ h => by cases h) ?_
  refine R_callN (i_X2_56 (by repeat (first | assumption | exact Z0.mono (by decide) hz | refine Z0_upR (by decide) ?_ | refine Z0_up2 (by decide) ?_ | refine Z0_fillS (by decide) ?_))) (mvX2_init _) rfl rfl kiX2_init (fun _ _ h => h.2.1.2.2.2.2.2.2.2) ⟨rfl, rfl, by decide, by decide⟩ (Nat.le_of_ble_eq_true rfl) dX11_init_148 (fun v1 sh1 g1 z1 r1 hq => ?_)
  obtain ⟨rfl, rfl, rfl, rfl, rfl⟩ := hq
  refine R_aast rfl rfl (by decide) (by decide) dX11_init_151 ?_
  refine R_iincN dX11_init_152 rfl (by decide) rfl (by unfold inI; omega) [_, _] rfl ?_
  refine R_goto 130 dX11_init_155 (by decide) ?_
  refine R_iload_n dX11_init_130 rfl ?_
  refine R_aload_n dX11_init_131 rfl ?_
  refine R_getR (some 21) (rfl) fd11_2 kf11_25 rfl dX11_init_132 ?_
  refine R_alen18 rfl (by decide) dX11_init_135 ?_
  refine R_icmp_ge 158 dX11_init_136 (by decide) (fun hc136 => absurd hc136 (by decide)) (fun hc136 => ?_)
  refine R_aload_n dX11_init_139 rfl ?_
  refine R_getR (some 21) (rfl) fd11_2 kf11_25 rfl dX11_init_140 ?_
  refine R_iload_n dX11_init_143 rfl ?_
  refine R_new (ci := 2) 62 (shW.take 63) (by decide +kernel) (by decide +kernel) (by decide) inX2 tyX2_ok kl11_23 kaX2 knX2 rfl (by decide) (by decide +kernel) (by decide) (by decide) dX11_init_144 (fun j => hz 62 (by decide) j) ?_
  refine R_dup dX11_init_147 (fun _ h => by cases h) ?_
  refine R_callN (i_X2_62 (by repeat (first | assumption | exact Z0.mono (by decide) hz | refine Z0_upR (by decide) ?_ | refine Z0_up2 (by decide) ?_ | refine Z0_fillS (by decide) ?_))) (mvX2_init _) rfl rfl kiX2_init (fun _ _ h => h.2.1.2.2.2.2.2.2.2) ⟨rfl, rfl, by decide, by decide⟩ (Nat.le_of_ble_eq_true rfl) dX11_init_148 (fun v1 sh1 g1 z1 r1 hq => ?_)
  obtain ⟨rfl, rfl, rfl, rfl, rfl⟩ := hq
  refine R_aast rfl rfl (by decide) (by decide) dX11_init_151 ?_
  refine R_iincN dX11_init_152 rfl (by decide) rfl (by unfold inI; omega) [_, _] rfl ?_
  refine R_goto 130 dX11_init_155 (by decide) ?_
  refine R_iload_n dX11_init_130 rfl ?_
  refine R_aload_n dX11_init_131 rfl ?_
  refine R_getR (some 21) (rfl) fd11_2 kf11_25 rfl dX11_init_132 ?_
  refine R_alen18 rfl (by decide) dX11_init_135 ?_
  refine R_icmp_ge 158 dX11_init_136 (by decide) (fun hc136 => absurd hc136 (by decide)) (fun hc136 => ?_)
  refine R_aload_n dX11_init_139 rfl ?_
  refine R_getR (some 21) (rfl) fd11_2 kf11_25 rfl dX11_init_140 ?_
  refine R_iload_n dX11_init_143 rfl ?_
  refine R_new (ci := 2) 68 (shW.take 69) (by decide +kernel) (by decide +kernel) (by decide) inX2 tyX2_ok kl11_23 kaX2 knX2 rfl (by decide) (by decide +kernel) (by decide) (by decide) dX11_init_144 (fun j => hz 68 (by decide) j) ?_
  refine R_dup dX11_init_147 (fun _ h => by cases h) ?_
  refine R_callN (i_X2_68 (by repeat (first | assumption | exact Z0.mono (by decide) hz | refine Z0_upR (by decide) ?_ | refine Z0_up2 (by decide) ?_ | refine Z0_fillS (by decide) ?_))) (mvX2_init _) rfl rfl kiX2_init (fun _ _ h => h.2.1.2.2.2.2.2.2.2) ⟨rfl, rfl, by decide, by decide⟩ (Nat.le_of_ble_eq_true rfl) dX11_init_148 (fun v1 sh1 g1 z1 r1 hq => ?_)
  obtain ⟨rfl, rfl, rfl, rfl, rfl⟩ := hq
  refine R_aast rfl rfl (by decide) (by decide) dX11_init_151 ?_
  refine R_iincN dX11_init_152 rfl (by decide) rfl (by unfold inI; omega) [_, _] rfl ?_
  refine R_goto 130 dX11_init_155 (by decide) ?_
  refine R_iload_n dX11_init_130 rfl ?_
  refine R_aload_n dX11_init_131 rfl ?_
  refine R_getR (some 21) (rfl) fd11_2 kf11_25 rfl dX11_init_132 ?_
  refine R_alen18 rfl (by decide) dX11_init_135 ?_
  refine R_icmp_ge 158 dX11_init_136 (by decide) (fun hc136 => ?_) (fun hc136 => absurd hc136 (by decide))
  refine R_return rfl (by decide) (by decide) dX11_init_158 ?_
  exact ⟨rfl, rfl, rfl, rfl, rfl⟩
theorem i_X12_74 {g z : GG} {r : RR} (hz : Z0 75 g z r) : CT (mX12_init (rmD 1 44 20578)) 44 20578 (shW.take 75) [vR (some 74)] g z r (qP (shW.take 119) (up2 (up2 (up2 (up2 (up2 (g) 74 5 (-1)) 74 6 (-1)) 74 7 (-1)) 74 8 (10)) 74 9 (20)) z (upR (upR (upR (upR (upR (upR (upR (upR (upR (upR (upR (upR (upR (upR (upR (upR (upR (upR (upR (upR (upR (upR (upR (upR (upR (upR (upR (upR (upR (upR (upR (upR (upR (upR (upR (upR (upR (upR (upR (upR (upR (upR (upR (upR (r) 74 0 (some 75)) 74 10 (some 76)) 74 11 (some 77)) 74 12 (some 78)) 74 13 (some 79)) 74 14 (some 80)) 74 15 (some 81)) 74 16 (some 82)) 74 17 (some 83)) 74 18 (some 84)) 74 19 (some 85)) 74 20 (some 86)) 74 21 (some 87)) 74 22 (some 88)) 74 24 (some 89)) 74 25 (some 90)) 74 26 (some 91)) 74 27 (some 92)) 74 28 (some 93)) 74 29 (some 94)) 74 30 (some 95)) 74 31 (some 96)) 74 32 (some 97)) 74 33 (some 98)) 74 34 (some 99)) 74 44 (some 100)) 74 47 (some 101)) 74 48 (some 102)) 74 49 (some 103)) 74 50 (some 104)) 74 51 (some 105)) 74 52 (some 106)) 74 53 (some 107)) 74 54 (some 108)) 74 55 (some 109)) 74 56 (some 110)) 74 57 (some 111)) 74 58 (some 112)) 74 59 (some 113)) 74 60 (some 114)) 74 61 (some 115)) 74 66 (some 116)) 74 67 (some 117)) 74 68 (some 118)) none) := by
  refine CT.of 0 rfl rfl ?_
  refine R_aload_n dX12_init_0 rfl ?_
  refine R_objInit km12_1 (by decide) (by decide) dX12_init_1 ?_
  refine R_aload_n dX12_init_4 rfl ?_
  refine R_sipush dX12_init_5 rfl (by decide +kernel) ?_
  refine R_newI (atype := .byte) (t := .byte) (N := 200) 75 0 13 (shW.take 76) rfl (by decide +kernel) (by decide +kernel) (by decide) (by decide) (fun _ => rfl) (fun _ _ h => h) rfl ky_byte (by decide) (by decide) (by decide) (by decide) (by decide) dX12_init_8 (fun j => (hz 75 (by decide) j).1) ?_
  refine R_putAF fd12_0 rfl rfl rfl kf12_7 rfl dX12_init_10 ?_
  refine R_aload_n dX12_init_13 rfl ?_
  refine R_iconst dX12_init_14 rfl rfl ?_
  refine R_putI fd12_5 rfl kf12_13 rfl dX12_init_15 ?_
  refine R_aload_n dX12_init_18 rfl ?_
  refine R_iconst dX12_init_19 rfl rfl ?_
  refine R_putI fd12_6 rfl kf12_17 rfl dX12_init_20 ?_
  refine R_aload_n dX12_init_23 rfl ?_
  refine R_iconst dX12_init_24 rfl rfl ?_
  refine R_putI fd12_7 rfl kf12_20 rfl dX12_init_25 ?_
  refine R_aload_n dX12_init_28 rfl ?_
  refine R_bipush dX12_init_29 rfl (by decide +kernel) ?_
  refine R_putI fd12_8 rfl kf12_23 rfl dX12_init_31 ?_
  refine R_aload_n dX12_init_34 rfl ?_
  refine R_bipush dX12_init_35 rfl (by decide +kernel) ?_
  refine R_putI fd12_9 rfl kf12_26 rfl dX12_init_37 ?_
  refine R_aload_n dX12_init_40 rfl ?_
  refine R_bipush dX12_init_41 rfl (by decide +kernel) ?_
  refine R_newI (atype := .int) (t := .int) (N := 16) 76 2 15 (shW.take 77) rfl (by decide +kernel) (by decide +kernel) (by decide) (by decide) (fun _ => rfl) (fun _ _ h => h) rfl ky_int (by decide) (by decide) (by decide) (by decide) (by decide) dX12_init_43 (fun j => (hz 76 (by decide) j).1) ?_
  refine R_putAF fd12_10 rfl rfl rfl kf12_29 rfl dX12_init_45 ?_
  refine R_aload_n dX12_init_48 rfl ?_
  refine R_bipush dX12_init_49 rfl (by decide +kernel) ?_
  refine R_newI (atype := .int) (t := .int) (N := 16) 77 2 15 (shW.take 78) rfl (by decide +kernel) (by decide +kernel) (by decide) (by decide) (fun _ => rfl) (fun _ _ h => h) rfl ky_int (by decide) (by decide) (by decide) (by decide) (by decide) dX12_init_51 (fun j => (hz 77 (by decide) j).1) ?_
  refine R_putAF fd12_11 rfl rfl rfl kf12_33 rfl dX12_init_53 ?_
  refine R_aload_n dX12_init_56 rfl ?_
  refine R_bipush dX12_init_57 rfl (by decide +kernel) ?_
  refine R_newI (atype := .int) (t := .int) (N := 6) 78 2 15 (shW.take 79) rfl (by decide +kernel) (by decide +kernel) (by decide) (by decide) (fun _ => rfl) (fun _ _ h => h) rfl ky_int (by decide) (by decide) (by decide) (by decide) (by decide) dX12_init_59 (fun j => (hz 78 (by decide) j).1) ?_
  refine R_putAF fd12_12 rfl rfl rfl kf12_36 rfl dX12_init_61 ?_
  refine R_aload_n dX12_init_64 rfl ?_
  refine R_bipush dX12_init_65 rfl (by decide +kernel) ?_
  refine R_newI (atype := .int) (t := .int) (N := 6) 79 2 15 (shW.take 80) rfl (by decide +kernel) (by decide +kernel) (by decide) (by decide) (fun _ => rfl) (fun _ _ h => h) rfl ky_int (by decide) (by decide) (by decide) (by decide) (by decide) dX12_init_67 (fun j => (hz 79 (by decide) j).1) ?_
  refine R_putAF fd12_13 rfl rfl rfl kf12_39 rfl dX12_init_69 ?_
  refine R_aload_n dX12_init_72 rfl ?_
  refine R_bipush dX12_init_73 rfl (by decide +kernel) ?_
  refine R_newI (atype := .int) (t := .int) (N := 6) 80 2 15 (shW.take 81) rfl (by decide +kernel) (by decide +kernel) (by decide) (by decide) (fun _ => rfl) (fun _ _ h => h) rfl ky_int (by decide) (by decide) (by decide) (by decide) (by decide) dX12_init_75 (fun j => (hz 80 (by decide) j).1) ?_
  refine R_putAF fd12_14 rfl rfl rfl kf12_42 rfl dX12_init_77 ?_
  refine R_aload_n dX12_init_80 rfl ?_
  refine R_bipush dX12_init_81 rfl (by decide +kernel) ?_
  refine R_newI (atype := .int) (t := .int) (N := 6) 81 2 15 (shW.take 82) rfl (by decide +kernel) (by decide +kernel) (by decide) (by decide) (fun _ => rfl) (fun _ _ h => h) rfl ky_int (by decide) (by decide) (by decide) (by decide) (by decide) dX12_init_83 (fun j => (hz 81 (by decide) j).1) ?_
  refine R_putAF fd12_15 rfl rfl rfl kf12_45 rfl dX12_init_85 ?_
  refine R_aload_n dX12_init_88 rfl ?_
  refine R_bipush dX12_init_89 rfl (by decide +kernel) ?_
  refine R_newI (atype := .int) (t := .int) (N := 24) 82 2 15 (shW.take 83) rfl (by decide +kernel) (by decide +kernel) (by decide) (by decide) (fun _ => rfl) (fun _ _ h => h) rfl ky_int (by decide) (by decide) (by decide) (by decide) (by decide) dX12_init_91 (fun j => (hz 82 (by decide) j).1) ?_
  refine R_putAF fd12_16 rfl rfl rfl kf12_48 rfl dX12_init_93 ?_
  refine R_aload_n dX12_init_96 rfl ?_
  refine R_bipush dX12_init_97 rfl (by decide +kernel) ?_
  refine R_newI (atype := .int) (t := .int) (N := 10) 83 2 15 (shW.take 84) rfl (by decide +kernel) (by decide +kernel) (by decide) (by decide) (fun _ => rfl) (fun _ _ h => h) rfl ky_int (by decide) (by decide) (by decide) (by decide) (by decide) dX12_init_99 (fun j => (hz 83 (by decide) j).1) ?_
  refine R_putAF fd12_17 rfl rfl rfl kf12_51 rfl dX12_init_101 ?_
  refine R_aload_n dX12_init_104 rfl ?_
  refine R_bipush dX12_init_105 rfl (by decide +kernel) ?_
  refine R_newI (atype := .int) (t := .int) (N := 10) 84 2 15 (shW.take 85) rfl (by decide +kernel) (by decide +kernel) (by decide) (by decide) (fun _ => rfl) (fun _ _ h => h) rfl ky_int (by decide) (by decide) (by decide) (by decide) (by decide) dX12_init_107 (fun j => (hz 84 (by decide) j).1) ?_
  refine R_putAF fd12_18 rfl rfl rfl kf12_54 rfl dX12_init_109 ?_
  refine R_aload_n dX12_init_112 rfl ?_
  refine R_bipush dX12_init_113 rfl (by decide +kernel) ?_
  refine R_newI (atype := .int) (t := .int) (N := 10) 85 2 15 (shW.take 86) rfl (by decide +kernel) (by decide +kernel) (by decide) (by decide) (fun _ => rfl) (fun _ _ h => h) rfl ky_int (by decide) (by decide) (by decide) (by decide) (by decide) dX12_init_115 (fun j => (hz 85 (by decide) j).1) ?_
  refine R_putAF fd12_19 rfl rfl rfl kf12_57 rfl dX12_init_117 ?_
  refine R_aload_n dX12_init_120 rfl ?_
  refine R_bipush dX12_init_121 rfl (by decide +kernel) ?_
  refine R_newI (atype := .int) (t := .int) (N := 10) 86 2 15 (shW.take 87) rfl (by decide +kernel) (by decide +kernel) (by decide) (by decide) (fun _ => rfl) (fun _ _ h => h) rfl ky_int (by decide) (by decide) (by decide) (by decide) (by decide) dX12_init_123 (fun j => (hz 86 (by decide) j).1) ?_
  refine R_putAF fd12_20 rfl rfl rfl kf12_60 rfl dX12_init_125 ?_
  refine R_aload_n dX12_init_128 rfl ?_
  refine R_bipush dX12_init_129 rfl (by decide +kernel) ?_
  refine R_newI (atype := .int) (t := .int) (N := 10) 87 2 15 (shW.take 88) rfl (by decide +kernel) (by decide +kernel) (by decide) (by decide) (fun _ => rfl) (fun _ _ h => h) rfl ky_int (by decide) (by decide) (by decide) (by decide) (by decide) dX12_init_131 (fun j => (hz 87 (by decide) j).1) ?_
  refine R_putAF fd12_21 rfl rfl rfl kf12_63 rfl dX12_init_133 ?_
  refine R_aload_n dX12_init_136 rfl ?_
  refine R_bipush dX12_init_137 rfl (by decide +kernel) ?_
  refine R_newI (atype := .int) (t := .int) (N := 10) 88 2 15 (shW.take 89) rfl (by decide +kernel) (by decide +kernel) (by decide) (by decide) (fun _ => rfl) (fun _ _ h => h) rfl ky_int (by decide) (by decide) (by decide) (by decide) (by decide) dX12_init_139 (fun j => (hz 88 (by decide) j).1) ?_
  refine R_putAF fd12_22 rfl rfl rfl kf12_66 rfl dX12_init_141 ?_
  refine R_aload_n dX12_init_144 rfl ?_
  refine R_iconst dX12_init_145 rfl rfl ?_
  refine R_newI (atype := .int) (t := .int) (N := 4) 89 2 15 (shW.take 90) rfl (by decide +kernel) (by decide +kernel) (by decide) (by decide) (fun _ => rfl) (fun _ _ h => h) rfl ky_int (by decide) (by decide) (by decide) (by decide) (by decide) dX12_init_146 (fun j => (hz 89 (by decide) j).1) ?_
  refine R_putAF fd12_24 rfl rfl rfl kf12_69 rfl dX12_init_148 ?_
  refine R_aload_n dX12_init_151 rfl ?_
  refine R_bipush dX12_init_152 rfl (by decide +kernel) ?_
  refine R_newI (atype := .int) (t := .int) (N := 48) 90 2 15 (shW.take 91) rfl (by decide +kernel) (by decide +kernel) (by decide) (by decide) (fun _ => rfl) (fun _ _ h => h) rfl ky_int (by decide) (by decide) (by decide) (by decide) (by decide) dX12_init_154 (fun j => (hz 90 (by decide) j).1) ?_
  refine R_putAF fd12_25 rfl rfl rfl kf12_72 rfl dX12_init_156 ?_
  refine R_aload_n dX12_init_159 rfl ?_
  refine R_bipush dX12_init_160 rfl (by decide +kernel) ?_
  refine R_newI (atype := .int) (t := .int) (N := 48) 91 2 15 (shW.take 92) rfl (by decide +kernel) (by decide +kernel) (by decide) (by decide) (fun _ => rfl) (fun _ _ h => h) rfl ky_int (by decide) (by decide) (by decide) (by decide) (by decide) dX12_init_162 (fun j => (hz 91 (by decide) j).1) ?_
  refine R_putAF fd12_26 rfl rfl rfl kf12_75 rfl dX12_init_164 ?_
  refine R_aload_n dX12_init_167 rfl ?_
  refine R_bipush dX12_init_168 rfl (by decide +kernel) ?_
  refine R_newI (atype := .int) (t := .int) (N := 48) 92 2 15 (shW.take 93) rfl (by decide +kernel) (by decide +kernel) (by decide) (by decide) (fun _ => rfl) (fun _ _ h => h) rfl ky_int (by decide) (by decide) (by decide) (by decide) (by decide) dX12_init_170 (fun j => (hz 92 (by decide) j).1) ?_
  refine R_putAF fd12_27 rfl rfl rfl kf12_78 rfl dX12_init_172 ?_
  refine R_aload_n dX12_init_175 rfl ?_
  refine R_sipush dX12_init_176 rfl (by decide +kernel) ?_
  refine R_newI (atype := .int) (t := .int) (N := 640) 93 2 15 (shW.take 94) rfl (by decide +kernel) (by decide +kernel) (by decide) (by decide) (fun _ => rfl) (fun _ _ h => h) rfl ky_int (by decide) (by decide) (by decide) (by decide) (by decide) dX12_init_179 (fun j => (hz 93 (by decide) j).1) ?_
  refine R_putAF fd12_28 rfl rfl rfl kf12_81 rfl dX12_init_181 ?_
  refine R_aload_n dX12_init_184 rfl ?_
  refine R_sipush dX12_init_185 rfl (by decide +kernel) ?_
  refine R_newI (atype := .int) (t := .int) (N := 640) 94 2 15 (shW.take 95) rfl (by decide +kernel) (by decide +kernel) (by decide) (by decide) (fun _ => rfl) (fun _ _ h => h) rfl ky_int (by decide) (by decide) (by decide) (by decide) (by decide) dX12_init_188 (fun j => (hz 94 (by decide) j).1) ?_
  refine R_putAF fd12_29 rfl rfl rfl kf12_84 rfl dX12_init_190 ?_
  refine R_aload_n dX12_init_193 rfl ?_
  refine R_bipush dX12_init_194 rfl (by decide +kernel) ?_
  refine R_newI (atype := .int) (t := .int) (N := 12) 95 2 15 (shW.take 96) rfl (by decide +kernel) (by decide +kernel) (by decide) (by decide) (fun _ => rfl) (fun _ _ h => h) rfl ky_int (by decide) (by decide) (by decide) (by decide) (by decide) dX12_init_196 (fun j => (hz 95 (by decide) j).1) ?_
  refine R_putAF fd12_30 rfl rfl rfl kf12_87 rfl dX12_init_198 ?_
  refine R_aload_n dX12_init_201 rfl ?_
  refine R_bipush dX12_init_202 rfl (by decide +kernel) ?_
  refine R_newI (atype := .int) (t := .int) (N := 12) 96 2 15 (shW.take 97) rfl (by decide +kernel) (by decide +kernel) (by decide) (by decide) (fun _ => rfl) (fun _ _ h => h) rfl ky_int (by decide) (by decide) (by decide) (by decide) (by decide) dX12_init_204 (fun j => (hz 96 (by decide) j).1) ?_
  refine R_putAF fd12_31 rfl rfl rfl kf12_90 rfl dX12_init_206 ?_
  refine R_aload_n dX12_init_209 rfl ?_
  refine R_bipush dX12_init_210 rfl (by decide +kernel) ?_
  refine R_newI (atype := .int) (t := .int) (N := 12) 97 2 15 (shW.take 98) rfl (by decide +kernel) (by decide +kernel) (by decide) (by decide) (fun _ => rfl) (fun _ _ h => h) rfl ky_int (by decide) (by decide) (by decide) (by decide) (by decide) dX12_init_212 (fun j => (hz 97 (by decide) j).1) ?_
  refine R_putAF fd12_32 rfl rfl rfl kf12_93 rfl dX12_init_214 ?_
  refine R_aload_n dX12_init_217 rfl ?_
  refine R_sipush dX12_init_218 rfl (by decide +kernel) ?_
  refine R_newI (atype := .int) (t := .int) (N := 160) 98 2 15 (shW.take 99) rfl (by decide +kernel) (by decide +kernel) (by decide) (by decide) (fun _ => rfl) (fun _ _ h => h) rfl ky_int (by decide) (by decide) (by decide) (by decide) (by decide) dX12_init_221 (fun j => (hz 98 (by decide) j).1) ?_
  refine R_putAF fd12_33 rfl rfl rfl kf12_96 rfl dX12_init_223 ?_
  refine R_aload_n dX12_init_226 rfl ?_
  refine R_sipush dX12_init_227 rfl (by decide +kernel) ?_
  refine R_newI (atype := .int) (t := .int) (N := 160) 99 2 15 (shW.take 100) rfl (by decide +kernel) (by decide +kernel) (by decide) (by decide) (fun _ => rfl) (fun _ _ h => h) rfl ky_int (by decide) (by decide) (by decide) (by decide) (by decide) dX12_init_230 (fun j => (hz 99 (by decide) j).1) ?_
  refine R_putAF fd12_34 rfl rfl rfl kf12_99 rfl dX12_init_232 ?_
  refine R_aload_n dX12_init_235 rfl ?_
  refine R_sipush dX12_init_236 rfl (by decide +kernel) ?_
  refine R_newI (atype := .int) (t := .int) (N := 200) 100 2 15 (shW.take 101) rfl (by decide +kernel) (by decide +kernel) (by decide) (by decide) (fun _ => rfl) (fun _ _ h => h) rfl ky_int (by decide) (by decide) (by decide) (by decide) (by decide) dX12_init_239 (fun j => (hz 100 (by decide) j).1) ?_
  refine R_putAF fd12_44 rfl rfl rfl kf12_102 rfl dX12_init_241 ?_
  refine R_aload_n dX12_init_244 rfl ?_
  refine R_bipush dX12_init_245 rfl (by decide +kernel) ?_
  refine R_newI (atype := .int) (t := .int) (N := 10) 101 2 15 (shW.take 102) rfl (by decide +kernel) (by decide +kernel) (by decide) (by decide) (fun _ => rfl) (fun _ _ h => h) rfl ky_int (by decide) (by decide) (by decide) (by decide) (by decide) dX12_init_247 (fun j => (hz 101 (by decide) j).1) ?_
  refine R_putAF fd12_47 rfl rfl rfl kf12_105 rfl dX12_init_249 ?_
  refine R_aload_n dX12_init_252 rfl ?_
  refine R_bipush dX12_init_253 rfl (by decide +kernel) ?_
  refine R_newI (atype := .int) (t := .int) (N := 10) 102 2 15 (shW.take 103) rfl (by decide +kernel) (by decide +kernel) (by decide) (by decide) (fun _ => rfl) (fun _ _ h => h) rfl ky_int (by decide) (by decide) (by decide) (by decide) (by decide) dX12_init_255 (fun j => (hz 102 (by decide) j).1) ?_
  refine R_putAF fd12_48 rfl rfl rfl kf12_108 rfl dX12_init_257 ?_
  refine R_aload_n dX12_init_260 rfl ?_
  refine R_bipush dX12_init_261 rfl (by decide +kernel) ?_
  refine R_newI (atype := .int) (t := .int) (N := 10) 103 2 15 (shW.take 104) rfl (by decide +kernel) (by decide +kernel) (by decide) (by decide) (fun _ => rfl) (fun _ _ h => h) rfl ky_int (by decide) (by decide) (by decide) (by decide) (by decide) dX12_init_263 (fun j => (hz 103 (by decide) j).1) ?_
  refine R_putAF fd12_49 rfl rfl rfl kf12_111 rfl dX12_init_265 ?_
  refine R_aload_n dX12_init_268 rfl ?_
  refine R_sipush dX12_init_269 rfl (by decide +kernel) ?_
  refine R_newI (atype := .int) (t := .int) (N := 200) 104 2 15 (shW.take 105) rfl (by decide +kernel) (by decide +kernel) (by decide) (by decide) (fun _ => rfl) (fun _ _ h => h) rfl ky_int (by decide) (by decide) (by decide) (by decide) (by decide) dX12_init_272 (fun j => (hz 104 (by decide) j).1) ?_
  refine R_putAF fd12_50 rfl rfl rfl kf12_114 rfl dX12_init_274 ?_
  refine R_aload_n dX12_init_277 rfl ?_
  refine R_sipush dX12_init_278 rfl (by decide +kernel) ?_
  refine R_newI (atype := .boolean) (t := .boolean) (N := 200) 105 4 17 (shW.take 106) rfl (by decide +kernel) (by decide +kernel) (by decide) (by decide) (fun _ => rfl) (fun _ _ h => h) rfl ky_boolean (by decide) (by decide) (by decide) (by decide) (by decide) dX12_init_281 (fun j => (hz 105 (by decide) j).1) ?_
  refine R_putAF fd12_51 rfl rfl rfl kf12_117 rfl dX12_init_283 ?_
  refine R_aload_n dX12_init_286 rfl ?_
  refine R_sipush dX12_init_287 rfl (by decide +kernel) ?_
  refine R_newI (atype := .int) (t := .int) (N := 6144) 106 2 15 (shW.take 107) rfl (by decide +kernel) (by decide +kernel) (by decide) (by decide) (fun _ => rfl) (fun _ _ h => h) rfl ky_int (by decide) (by decide) (by decide) (by decide) (by decide) dX12_init_290 (fun j => (hz 106 (by decide) j).1) ?_
  refine R_putAF fd12_52 rfl rfl rfl kf12_121 rfl dX12_init_292 ?_
  refine R_aload_n dX12_init_295 rfl ?_
  refine R_sipush dX12_init_296 rfl (by decide +kernel) ?_
  refine R_newI (atype := .int) (t := .int) (N := 1024) 107 2 15 (shW.take 108) rfl (by decide +kernel) (by decide +kernel) (by decide) (by decide) (fun _ => rfl) (fun _ _ h => h) rfl ky_int (by decide) (by decide) (by decide) (by decide) (by decide) dX12_init_299 (fun j => (hz 107 (by decide) j).1) ?_
  refine R_putAF fd12_53 rfl rfl rfl kf12_124 rfl dX12_init_301 ?_
  refine R_aload_n dX12_init_304 rfl ?_
  refine R_sipush dX12_init_305 rfl (by decide +kernel) ?_
  refine R_newI (atype := .int) (t := .int) (N := 1024) 108 2 15 (shW.take 109) rfl (by decide +kernel) (by decide +kernel) (by decide) (by decide) (fun _ => rfl) (fun _ _ h => h) rfl ky_int (by decide) (by decide) (by decide) (by decide) (by decide) dX12_init_308 (fun j => (hz 108 (by decide) j).1) ?_
  refine R_putAF fd12_54 rfl rfl rfl kf12_127 rfl dX12_init_310 ?_
  refine R_aload_n dX12_init_313 rfl ?_
  refine R_sipush dX12_init_314 rfl (by decide +kernel) ?_
  refine R_newJ (N := 1024) 109 (shW.take 110) (by decide +kernel) (by decide +kernel) (by decide) (by decide) (by decide) (by decide) (by decide) (by decide) dX12_init_317 (fun j => (hz 109 (by decide) j).2.1) ?_
  refine R_putAF fd12_55 rfl rfl rfl kf12_130 rfl dX12_init_319 ?_
  refine R_aload_n dX12_init_322 rfl ?_
  refine R_sipush dX12_init_323 rfl (by decide +kernel) ?_
  refine R_newJ (N := 1024) 110 (shW.take 111) (by decide +kernel) (by decide +kernel) (by decide) (by decide) (by decide) (by decide) (by decide) (by decide) dX12_init_326 (fun j => (hz 110 (by decide) j).2.1) ?_
  refine R_putAF fd12_56 rfl rfl rfl kf12_134 rfl dX12_init_328 ?_
  refine R_aload_n dX12_init_331 rfl ?_
  refine R_sipush dX12_init_332 rfl (by decide +kernel) ?_
  refine R_newI (atype := .int) (t := .int) (N := 1024) 111 2 15 (shW.take 112) rfl (by decide +kernel) (by decide +kernel) (by decide) (by decide) (fun _ => rfl) (fun _ _ h => h) rfl ky_int (by decide) (by decide) (by decide) (by decide) (by decide) dX12_init_335 (fun j => (hz 111 (by decide) j).1) ?_
  refine R_putAF fd12_57 rfl rfl rfl kf12_137 rfl dX12_init_337 ?_
  refine R_aload_n dX12_init_340 rfl ?_
  refine R_sipush dX12_init_341 rfl (by decide +kernel) ?_
  refine R_newI (atype := .int) (t := .int) (N := 1024) 112 2 15 (shW.take 113) rfl (by decide +kernel) (by decide +kernel) (by decide) (by decide) (fun _ => rfl) (fun _ _ h => h) rfl ky_int (by decide) (by decide) (by decide) (by decide) (by decide) dX12_init_344 (fun j => (hz 112 (by decide) j).1) ?_
  refine R_putAF fd12_58 rfl rfl rfl kf12_140 rfl dX12_init_346 ?_
  refine R_aload_n dX12_init_349 rfl ?_
  refine R_sipush dX12_init_350 rfl (by decide +kernel) ?_
  refine R_newJ (N := 1024) 113 (shW.take 114) (by decide +kernel) (by decide +kernel) (by decide) (by decide) (by decide) (by decide) (by decide) (by decide) dX12_init_353 (fun j => (hz 113 (by decide) j).2.1) ?_
  refine R_putAF fd12_59 rfl rfl rfl kf12_143 rfl dX12_init_355 ?_
  refine R_aload_n dX12_init_358 rfl ?_
  refine R_sipush dX12_init_359 rfl (by decide +kernel) ?_
  refine R_newJ (N := 1024) 114 (shW.take 115) (by decide +kernel) (by decide +kernel) (by decide) (by decide) (by decide) (by decide) (by decide) (by decide) dX12_init_362 (fun j => (hz 114 (by decide) j).2.1) ?_
  refine R_putAF fd12_60 rfl rfl rfl kf12_146 rfl dX12_init_364 ?_
  refine R_aload_n dX12_init_367 rfl ?_
  refine R_bipush dX12_init_368 rfl (by decide +kernel) ?_
  refine R_newI (atype := .int) (t := .int) (N := 10) 115 2 15 (shW.take 116) rfl (by decide +kernel) (by decide +kernel) (by decide) (by decide) (fun _ => rfl) (fun _ _ h => h) rfl ky_int (by decide) (by decide) (by decide) (by decide) (by decide) dX12_init_370 (fun j => (hz 115 (by decide) j).1) ?_
  refine R_putAF fd12_61 rfl rfl rfl kf12_149 rfl dX12_init_372 ?_
  refine R_aload_n dX12_init_375 rfl ?_
  refine R_bipush dX12_init_376 rfl (by decide +kernel) ?_
  refine R_newI (atype := .int) (t := .int) (N := 10) 116 2 15 (shW.take 117) rfl (by decide +kernel) (by decide +kernel) (by decide) (by decide) (fun _ => rfl) (fun _ _ h => h) rfl ky_int (by decide) (by decide) (by decide) (by decide) (by decide) dX12_init_378 (fun j => (hz 116 (by decide) j).1) ?_
  refine R_putAF fd12_66 rfl rfl rfl kf12_152 rfl dX12_init_380 ?_
  refine R_aload_n dX12_init_383 rfl ?_
  refine R_sipush dX12_init_384 rfl (by decide +kernel) ?_
  refine R_newI (atype := .boolean) (t := .boolean) (N := 1734) 117 4 17 (shW.take 118) rfl (by decide +kernel) (by decide +kernel) (by decide) (by decide) (fun _ => rfl) (fun _ _ h => h) rfl ky_boolean (by decide) (by decide) (by decide) (by decide) (by decide) dX12_init_387 (fun j => (hz 117 (by decide) j).1) ?_
  refine R_putAF fd12_67 rfl rfl rfl kf12_155 rfl dX12_init_389 ?_
  refine R_aload_n dX12_init_392 rfl ?_
  refine R_sipush dX12_init_393 rfl (by decide +kernel) ?_
  refine R_newI (atype := .boolean) (t := .boolean) (N := 1734) 118 4 17 (shW.take 119) rfl (by decide +kernel) (by decide +kernel) (by decide) (by decide) (fun _ => rfl) (fun _ _ h => h) rfl ky_boolean (by decide) (by decide) (by decide) (by decide) (by decide) dX12_init_396 (fun j => (hz 118 (by decide) j).1) ?_
  refine R_putAF fd12_68 rfl rfl rfl kf12_158 rfl dX12_init_398 ?_
  refine R_return rfl (by decide) (by decide) dX12_init_401 ?_
  exact ⟨rfl, rfl, rfl, rfl, rfl⟩
/-- the heap after both constructors -/
def g0W : GG := up2 (up2 (up2 (up2 (up2 (fillS (up2 (up2 (up2 (up2 (up2 (up2 (up2 (up2 ((fun _ _ => 0)) 1 3 (10)) 1 4 (20)) 30 1 (-1)) 30 2 (-1)) 30 3 (-1)) 31 1 (-1)) 31 2 (-1)) 31 3 (-1)) 1024) 74 5 (-1)) 74 6 (-1)) 74 7 (-1)) 74 8 (10)) 74 9 (20)
def r0W : RR := upR (upR (upR (upR (upR (upR (upR (upR (upR (upR (upR (upR (upR (upR (upR (upR (upR (upR (upR (upR (upR (upR (upR (upR (upR (upR (upR (upR (upR (upR (upR (upR (upR (upR (upR (upR (upR (upR (upR (upR (upR (upR (upR (upR (upR (upR (upR (upR (upR (upR (upR (upR (upR (upR (upR (upR (upR (upR (upR (upR (upR (upR (upR (upR (upR (upR (upR (upR (upR (upR (upR (upR (upR (upR (upR (upR (upR (upR (upR (upR (upR (upR (upR (upR (upR (upR (upR (upR (upR (upR (upR (upR (upR (upR (upR (upR (upR (upR (upR (upR (upR (upR (upR (upR (upR (upR (upR (upR (upR (upR (upR (upR (upR (upR (upR (upR (upR (upR (upR (upR (upR (upR (upR (upR ((fun _ _ => none)) 2 0 (some 3)) 2 1 (some 4)) 1 0 (some 2)) 5 0 (some 6)) 5 1 (some 7)) 5 2 (some 8)) 5 3 (some 9)) 5 4 (some 10)) 1 1 (some 5)) 11 0 (some 12)) 11 1 (some 13)) 11 2 (some 14)) 11 3 (some 15)) 11 4 (some 16)) 11 5 (some 17)) 11 6 (some 18)) 1 2 (some 11)) 0 0 (some 1)) 19 0 (some 20)) 0 1 (some 19)) 0 2 (some 21)) 22 0 (some 23)) 24 0 (some 25)) 24 1 (some 26)) 24 2 (some 27)) 24 3 (some 28)) 24 4 (some 29)) 22 1 (some 24)) 0 3 (some 22)) 30 0 (some 21)) 0 4 (some 30)) 31 0 (some 21)) 0 5 (some 31)) 32 1 (some 33)) 32 2 (some 34)) 32 3 (some 35)) 32 4 (some 36)) 32 5 (some 37)) 32 6 (some 38)) 32 0 (some 1)) 0 6 (some 32)) 39 2 (some 40)) 39 0 (some 1)) 39 1 (some 32)) 0 7 (some 39)) 41 2 (some 42)) 41 3 (some 43)) 41 4 (some 44)) 41 5 (some 45)) 41 6 (some 46)) 41 7 (some 47)) 41 8 (some 48)) 41 9 (some 49)) 41 0 (some 1)) 41 1 (some 32)) 0 8 (some 41)) 50 0 (some 51)) 50 1 (some 52)) 50 2 (some 53)) 50 3 (some 54)) 50 4 (some 55)) 21 0 (some 50)) 56 0 (some 57)) 56 1 (some 58)) 56 2 (some 59)) 56 3 (some 60)) 56 4 (some 61)) 21 1 (some 56)) 62 0 (some 63)) 62 1 (some 64)) 62 2 (some 65)) 62 3 (some 66)) 62 4 (some 67)) 21 2 (some 62)) 68 0 (some 69)) 68 1 (some 70)) 68 2 (some 71)) 68 3 (some 72)) 68 4 (some 73)) 21 3 (some 68)) 74 0 (some 75)) 74 10 (some 76)) 74 11 (some 77)) 74 12 (some 78)) 74 13 (some 79)) 74 14 (some 80)) 74 15 (some 81)) 74 16 (some 82)) 74 17 (some 83)) 74 18 (some 84)) 74 19 (some 85)) 74 20 (some 86)) 74 21 (some 87)) 74 22 (some 88)) 74 24 (some 89)) 74 25 (some 90)) 74 26 (some 91)) 74 27 (some 92)) 74 28 (some 93)) 74 29 (some 94)) 74 30 (some 95)) 74 31 (some 96)) 74 32 (some 97)) 74 33 (some 98)) 74 34 (some 99)) 74 44 (some 100)) 74 47 (some 101)) 74 48 (some 102)) 74 49 (some 103)) 74 50 (some 104)) 74 51 (some 105)) 74 52 (some 106)) 74 53 (some 107)) 74 54 (some 108)) 74 55 (some 109)) 74 56 (some 110)) 74 57 (some 111)) 74 58 (some 112)) 74 59 (some 113)) 74 60 (some 114)) 74 61 (some 115)) 74 66 (some 116)) 74 67 (some 117)) 74 68 (some 118)
end CTOR
