section BITS
theorem i32n (m : Nat) : i32 (m : Int) = nI m := Int32.ofInt_eq_ofNat
theorem nI_andN (a b : Nat) : nI a &&& nI b = nI (a &&& b) := by
  apply Int32.toBitVec_inj.mp
  simp [nI, Int32.toBitVec_and, BitVec.ofNat_and]
theorem nI_orN (a b : Nat) : nI a ||| nI b = nI (a ||| b) := by
  apply Int32.toBitVec_inj.mp
  simp [nI, Int32.toBitVec_or, BitVec.ofNat_or]
theorem nI_xorN (a b : Nat) : nI a ^^^ nI b = nI (a ^^^ b) := by
  apply Int32.toBitVec_inj.mp
  simp [nI, Int32.toBitVec_xor, BitVec.ofNat_xor]
theorem bAnd_n {m n : Nat} (hm : m < 2 ^ 31) : bAnd m n = ((m &&& n : Nat) : Int) := by
  rw [bAnd, i32n, i32n, nI_andN, nI_toInt (Nat.lt_of_le_of_lt Nat.and_le_left hm)]
theorem bAnd_n' {m n : Nat} (hn : n < 2 ^ 31) : bAnd m n = ((m &&& n : Nat) : Int) := by
  rw [bAnd, i32n, i32n, nI_andN, nI_toInt (Nat.lt_of_le_of_lt Nat.and_le_right hn)]
theorem bOr_n {m n : Nat} (hm : m < 2 ^ 31) (hn : n < 2 ^ 31) : bOr m n = ((m ||| n : Nat) : Int) := by
  rw [bOr, i32n, i32n, nI_orN, nI_toInt (Nat.or_lt_two_pow hm hn)]
theorem bXor_n {m n : Nat} (hm : m < 2 ^ 31) (hn : n < 2 ^ 31) : bXor m n = ((m ^^^ n : Nat) : Int) := by
  rw [bXor, i32n, i32n, nI_xorN, nI_toInt (Nat.xor_lt_two_pow hm hn)]
theorem sh_ok : ∀ k, k < 32 → ((nI k &&& 31).toBitVec.smod 32).toNat = k := by decide +kernel
theorem bShl_n {m k : Nat} (hk : k < 32) (h : m * 2 ^ k < 2 ^ 31) : bShl m k = ((m * 2 ^ k : Nat) : Int) := by
  rw [bShl, i32n, i32n, pk_shlN _ k (sh_ok k hk) (by omega), nI_toInt h]
theorem bShr_n {m k : Nat} (hk : k < 32) (h : m < 2 ^ 31) : bShr m k = ((m / 2 ^ k : Nat) : Int) := by
  rw [bShr, i32n, i32n, pk_shrN h _ k (sh_ok k hk), nI_toInt (Nat.lt_of_le_of_lt (Nat.div_le_self _ _) h)]
theorem bShl_1 {k : Nat} (hk : k < 31) : bShl 1 k = ((2 ^ k : Nat) : Int) := by
  have := bShl_n (m := 1) (k := k) (by omega) (by rw [Nat.one_mul]; exact Nat.pow_lt_pow_right (by decide) hk)
  rw [Nat.one_mul] at this
  exact this
theorem bDiv_n {m n : Nat} (hm : m < 2 ^ 31) (hn : n < 2 ^ 31) (h0 : 0 < n) : bDiv m n = ((m / n : Nat) : Int) := by
  rw [bDiv, i32n, i32n, pk_div hm h0 hn, nI_toInt (Nat.lt_of_le_of_lt (Nat.div_le_self _ _) hm)]
theorem bRem_n {m n : Nat} (hm : m < 2 ^ 31) (hn : n < 2 ^ 31) (h0 : 0 < n) : bRem m n = ((m % n : Nat) : Int) := by
  rw [bRem, i32n, i32n, pk_rem hm h0 hn, nI_toInt (Nat.lt_of_le_of_lt (Nat.mod_le _ _) hm)]
/-- 'set >> i & 1' -/
theorem bit_n {m i : Nat} (hm : m < 2 ^ 31) (hi : i < 32) : bAnd (bShr m i) 1 = if m.testBit i then 1 else 0 := by
  rw [bShr_n hi hm, show (1 : Int) = ((1 : Nat) : Int) from rfl, bAnd_n' (by decide), Nat.and_one_is_mod, Nat.testBit_eq_decide_div_mod_eq]
  by_cases h : m / 2 ^ i % 2 = 1
  · simp [h]
  · have h' : m / 2 ^ i % 2 = 0 := by omega
    simp [h']
/-- 'set | 1 << i' -/
theorem or_bit {m i : Nat} (hm : m < 2 ^ 31) (hi : i < 31) : bOr m (bShl 1 i) = ((m ||| 2 ^ i : Nat) : Int) := by
  rw [bShl_1 hi, bOr_n hm (Nat.pow_lt_pow_right (by decide) hi)]
theorem toNat_cast {a : Int} (h : 0 ≤ a) : ((a.toNat : Nat) : Int) = a := Int.toNat_of_nonneg h
theorem byte_of (x : Int) : ∃ n : Nat, n < 256 ∧ bAnd x 255 = (n : Int) := by
  obtain ⟨j, hj, e⟩ := pk_andE (i32 x) (m := 255) 8 (by decide)
  refine ⟨j, by omega, ?_⟩
  rw [bAnd, show i32 255 = (255 : Int32) from rfl, e, nI_toInt (by omega)]
end BITS
