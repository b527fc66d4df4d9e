def rv : Nat → List Nat
  | 0 => []
  | n + 1 => n :: rv n
theorem rv_mem {k : Nat} : ∀ {n : Nat}, k ∈ rv n ↔ k < n := by
  intro n
  induction n with
  | zero => simp [rv]
  | succ n ih => rw [rv, List.mem_cons, ih]; omega
theorem rv_nodup : ∀ n, (rv n).Nodup := by
  intro n
  induction n with
  | zero => exact List.Pairwise.nil
  | succ n ih => rw [rv]; exact List.nodup_cons.mpr ⟨fun h => by have := rv_mem.mp h; omega, ih⟩
/-- the set of all CHRISTENINGS -/
def whS (s : VW) : Nat := 2 ^ (s 0 2).toNat - 1
/-- who can be tied to a COUPLE (6: nobody) -/
def TS (s : VW) (k : Nat) : Nat := if k = 6 then whS s else tieS s k (s 0 2).toNat
/-- POINTS of a COUPLE's set, or none if it can't be -/
def GS (s : VW) (K : Nat → CUS) (a b Y : Int) (k p : Nat) : Option Int := if p &&& TS s k = p then (if k = 6 then some (-(s 0 4) * (popS p : Int)) else (fam s k p).map (ptS s K a b Y k)) else none
def SBD (s : VW) (K : Nat → CUS) (a b Y : Int) : Prop := (0 ≤ s 0 4 ∧ s 0 4 ≤ 1000) ∧ (0 ≤ s 0 1 ∧ s 0 1 ≤ 6) ∧ (0 ≤ s 0 2 ∧ s 0 2 ≤ 10) ∧ ∀ c l, l.length ≤ 10 → -1000 ≤ ptS s K a b Y c l ∧ ptS s K a b Y c l ≤ 1000
section GSS
variable {s : VW} {K : Nat → CUS} {a b Y : Int}
theorem alone_b (h : 0 ≤ s 0 4 ∧ s 0 4 ≤ 1000) (p : Nat) : -10000 ≤ -(s 0 4) * (popS p : Int) ∧ -(s 0 4) * (popS p : Int) ≤ 0 := by
  have hp := popS_le p
  have h1 : s 0 4 * (popS p : Int) ≤ 1000 * 10 := Int.mul_le_mul h.2 (by omega) (by omega) (by omega)
  have h2 : 0 ≤ s 0 4 * (popS p : Int) := Int.mul_nonneg h.1 (by omega)
  rw [Int.neg_mul]
  omega
theorem GS_some (h : SBD s K a b Y) {k p : Nat} {w : Int} (hG : GS s K a b Y k p = some w) : p &&& TS s k = p ∧ -10000 ≤ w ∧ w ≤ 1000 := by
  unfold GS at hG
  split at hG
  · rename_i hp
    refine ⟨hp, ?_⟩
    split at hG
    · have := alone_b h.1 p
      cases hG
      omega
    · cases hf : fam s k p with
      | none => rw [hf] at hG; cases hG
      | some l =>
        rw [hf] at hG
        cases hG
        have h1 := fam_len hf
        have h2 := h.2.2.1
        have := h.2.2.2 k l (by omega)
        omega
  · cases hG
theorem GS_rv (h : SBD s K a b Y) {n : Nat} (hn : n ≤ 6) : XOK (GS s K a b Y) (TS s) (rv n) := ⟨fun k hk => by have := rv_mem.mp hk; omega, rv_nodup n, fun k _ p w hG => GS_some h hG⟩
theorem GS_6 (h : SBD s K a b Y) {n : Nat} (hn : n ≤ 6) : XOK (GS s K a b Y) (TS s) (6 :: rv n) := ⟨fun k hk => by rcases List.mem_cons.mp hk with e | e; omega; have := rv_mem.mp e; omega, List.nodup_cons.mpr ⟨fun q => by have := rv_mem.mp q; omega, rv_nodup n⟩, fun k _ p w hG => GS_some h hG⟩
theorem GS_6r (h : SBD s K a b Y) {n : Nat} (hn : n ≤ 6) : XOK (GS s K a b Y) (TS s) (rv n ++ [6]) := by
  refine ⟨fun k hk => ?_, ?_, fun k _ p w hG => GS_some h hG⟩
  · rcases List.mem_append.mp hk with e | e
    · have := rv_mem.mp e; omega
    · have := List.mem_singleton.mp e; omega
  · rw [List.nodup_append]
    refine ⟨rv_nodup n, by simp, fun x hx y hy e => ?_⟩
    have := rv_mem.mp hx
    have := List.mem_singleton.mp hy
    omega
theorem whS_lt (h : SBD s K a b Y) : whS s < 1024 := by
  unfold whS
  have : (2 : Nat) ^ (s 0 2).toNat ≤ 2 ^ 10 := Nat.pow_le_pow_right (by decide) (by have := h.2.2.1; omega)
  have : 0 < (2 : Nat) ^ (s 0 2).toNat := Nat.pow_pos (by decide)
  omega
theorem whS_bit {i : Nat} : (whS s).testBit i = decide (i < (s 0 2).toNat) := by unfold whS; exact Nat.testBit_two_pow_sub_one _ _
theorem le_wh {x : Nat} (h : x ≤ whS s) : x &&& whS s = x := by
  unfold whS at *
  rw [Nat.and_two_pow_sub_one_eq_mod]
  have : 0 < (2 : Nat) ^ (s 0 2).toNat := Nat.pow_pos (by decide)
  exact Nat.mod_eq_of_lt (by omega)
theorem TS_lt (h : SBD s K a b Y) (k : Nat) : TS s k < 1024 := by
  unfold TS
  split
  · exact whS_lt h
  · have h1 := tieS_lt (s := s) (c := k) (s 0 2).toNat
    have : (2 : Nat) ^ (s 0 2).toNat ≤ 2 ^ 10 := Nat.pow_le_pow_right (by decide) (by have := h.2.2.1; omega)
    omega
theorem TS_wh (k : Nat) : TS s k &&& whS s = TS s k := by
  rw [sub_bit]
  intro i hi
  unfold TS at hi
  rw [whS_bit]
  split at hi
  · rw [whS_bit] at hi; exact hi
  · rw [tieS_bit, Bool.and_eq_true] at hi; exact hi.1
end GSS
theorem FP.sbd {g : GG} {r : RR} {K : Nat → CUS} (H : FP g r K) (hA : 0 ≤ g 1 4 ∧ g 1 4 ≤ 1000) (a b Y : Int) : SBD (vC g) K a b Y := ⟨hA, H.2.2.2.2.2.1, H.2.2.2.2.2.2.1, fun c l hl => ptS_b H.2.2.2.1 K a b Y c l hl⟩
theorem MP.sbd {g : GG} {r : RR} {K : Nat → CUS} (H : MP g r K) (hA : 0 ≤ g 74 9 ∧ g 74 9 ≤ 1000) (a b Y : Int) : SBD (vM g) K a b Y := ⟨hA, H.2.2.1.2.2.2.2.1, H.2.2.1.2.2.2.2.2.1, fun c l hl => ptS_m H.2.1 K a b Y c l hl⟩
