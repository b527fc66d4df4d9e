section NORM
theorem up2_far {f : GG} {c k : Nat} {v : Int} {c' k' : Nat} (h : c' ≠ c) : up2 f c k v c' k' = f c' k' := by simp [up2, h]
theorem up2_kk {f : GG} {c k : Nat} {v : Int} {k' : Nat} (h : k' ≠ k) : up2 f c k v c k' = f c k' := up2_k h
theorem upR_far {f : RR} {c k : Nat} {v : Option Nat} {c' k' : Nat} (h : c' ≠ c) : upR f c k v c' k' = f c' k' := by simp [upR, h]
theorem upR_kk {f : RR} {c k : Nat} {v : Option Nat} {k' : Nat} (h : k' ≠ k) : upR f c k v c k' = f c k' := upR_k h
variable {M : MI} {mc ms n0 : Nat} {Q : PQ} {ce sl : Nat} {sh : SH} {pc : Nat} {ls : List (Option AV)} {st : List AV} {g z : GG} {r : RR}
theorem R_iaddN {a b : Int} (hd : decode M.2.1 pc = .ok (.iadd, 1)) (hi : inI (a + b)) (kk : RJ M mc ms n0 Q ce sl sh (pc + 1) ls (vI (a + b) :: st) g z r) : RJ M mc ms n0 Q ce sl sh pc ls (vI b :: vI a :: st) g z r := R_iadd hd (by rw [w32_id hi]; exact kk)
theorem R_isubN {a b : Int} (hd : decode M.2.1 pc = .ok (.isub, 1)) (hi : inI (a - b)) (kk : RJ M mc ms n0 Q ce sl sh (pc + 1) ls (vI (a - b) :: st) g z r) : RJ M mc ms n0 Q ce sl sh pc ls (vI b :: vI a :: st) g z r := R_isub hd (by rw [w32_id hi]; exact kk)
theorem R_imulN {a b : Int} (hd : decode M.2.1 pc = .ok (.imul, 1)) (hi : inI (a * b)) (kk : RJ M mc ms n0 Q ce sl sh (pc + 1) ls (vI (a * b) :: st) g z r) : RJ M mc ms n0 Q ce sl sh pc ls (vI b :: vI a :: st) g z r := R_imul hd (by rw [w32_id hi]; exact kk)
theorem R_inegN {a : Int} (hd : decode M.2.1 pc = .ok (.ineg, 1)) (hi : inI (-a)) (kk : RJ M mc ms n0 Q ce sl sh (pc + 1) ls (vI (-a) :: st) g z r) : RJ M mc ms n0 Q ce sl sh pc ls (vI a :: st) g z r := R_ineg hd (by rw [w32_id hi]; exact kk)
theorem R_laddN {a b : Int} (hd : decode M.2.1 pc = .ok (.ladd, 1)) (hi : inL (a + b)) (kk : RJ M mc ms n0 Q ce sl sh (pc + 1) ls (vL (a + b) :: st) g z r) : RJ M mc ms n0 Q ce sl sh pc ls (vL b :: vL a :: st) g z r := R_ladd hd (by rw [w64_id hi]; exact kk)
theorem R_iincN {k : Nat} {n x : Int} (hd : decode M.2.1 pc = .ok (.iinc k n, 3)) (h0 : ls[k]? = some (some (vI x))) (h2 : k < M.2.2.1) (h1 : nlg ls k = true) (hi : inI (x + n)) (ls' : List (Option AV)) (hls : ls.set k (some (vI (x + n))) = ls') (kk : RJ M mc ms n0 Q ce sl sh (pc + 3) ls' st g z r) : RJ M mc ms n0 Q ce sl sh pc ls st g z r := R_iinc hd h0 h2 h1 ls' (by rw [w32_id hi]; exact hls) kk
theorem R_ts {dflt lo hi a : Int} {offs : Array Int} {len : Nat} (tg : List Nat) (td : Nat) (hd : decode M.2.1 pc = .ok (.tableswitch dflt lo hi offs, len)) (h1 : tg.map (fun (t : Nat) => (t : Int) - (pc : Int)) = offs.toList) (h2 : hi = lo + tg.length - 1) (ht : (pc : Int) + dflt = (td : Int)) (kk : ∀ (i t : Nat), tg[i]? = some t → a = lo + (i : Int) → RJ M mc ms n0 Q ce sl sh t ls st g z r) (kd : (a < lo ∨ hi < a) → RJ M mc ms n0 Q ce sl sh td ls st g z r) : RJ M mc ms n0 Q ce sl sh pc ls (vI a :: st) g z r := by
  by_cases h : a < lo ∨ hi < a
  · exact R_tsOut td hd h ht (kd h)
  · have hl : (a - lo).toNat < tg.length := by omega
    have e : tg[(a - lo).toNat]? = some tg[(a - lo).toNat] := List.getElem?_eq_getElem hl
    refine R_tsIn (off := (tg[(a - lo).toNat] : Int) - (pc : Int)) tg[(a - lo).toNat] hd (by omega) (by omega) ?_ (by omega) (kk _ _ e (by omega))
    rw [← Array.getElem?_toList, ← h1, List.getElem?_map, e]
    rfl
end NORM
