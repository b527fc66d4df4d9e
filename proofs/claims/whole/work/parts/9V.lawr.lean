/-! THE LAW'S OWN FRAME: rules as for RJ, with the script at the place 100030 -/
section LAWR
/-- the script: Xs.1 ints, X.2; nothing that lay there at the start may change -/
def XS (Xs : Nat × (Nat → Int)) (s : State) (A : Nat → Prop) (ad : Nat → Nat) (args : Array Value) : Prop := va_X (ad 100030) Xs.1 (fun j => i32 (Xs.2 j)) s s.heap ∧ ad 100030 < s.heap.size ∧ (∀ q, A q ↔ s.heap.size ≤ q) ∧ args = #[Value.ref (ad 100030)] ∧ (∀ j, inI (Xs.2 j)) ∧ Xs.1 < 2147483648
theorem XS.mono {Xs : Nat × (Nat → Int)} {s : State} {A : Nat → Prop} {ad ad' : Nat → Nat} {args : Array Value} (h : XS Xs s A ad args) (he : ad' 100030 = ad 100030) : XS Xs s A ad' args := by unfold XS; rw [he]; exact h
def RLw (Xs : Nat × (Nat → Int)) (M : MI) (ce sl : Nat) (sh : SH) (pc : Nat) (ls : List (Option AV)) (st : List AV) (g z : GG) (r : RR) : Prop :=
  ∀ (p : Program) (l : Launch) (e : Env) (s : State) (m : MethodId) (args : Array Value) (below : List Frame) (meth : Method) (c : Code) (dC : Nat → ClassId) (dI : Nat → Nat → Nat) (cy : Nat → ClassId) (ad adK adV : Nat → Nat) (A : Nat → Prop) (H : Heap) (locs : List Loc) (Ls : Array Slot),
    Cx M p s m args meth c adK adV A → XS Xs s A ad args → (∀ i, i < 6 → ad (100000 + i) = adK i ∧ ad (100010 + i) = adV i ∧ ad (100020 + i) = adV (10 + i)) → Wd dC dI cy ad A sh g z r s H → va_S A s.heap H locs → okh sh.length g z r → (∀ v, some v ∈ ls → okv sh.length v) → (∀ v ∈ st, okv sh.length v) → lv_has Ls M.2.2.1 (lvl ad ls) →
    W p l e M.2.2.2.2 s m args below meth c H locs ce sl (lw_Z below args s) (F0 m pc Ls (st.map (cv ad)))
variable {Xs : Nat × (Nat → Int)} {M : MI} {ce sl : Nat} {sh : SH} {pc : Nat} {ls : List (Option AV)} {st : List AV} {g z : GG} {r : RR}
theorem L_iload_n {k : Fin 4} {x : Int} (hd : decode M.2.1 pc = .ok (.iload_n k, 1)) (h0 : ls[(k : Nat)]? = some (some (vI x))) (kk : RLw Xs M ce sl sh (pc + 1) ls (vI x :: st) g z r) : RLw Xs M ce sl sh pc ls st g z r := by
  intro p l e s m args below meth cd dC dI cy ad adK adV A H locs Ls hC hX hst hW hS hO hl hs hL
  have hx := hC.1
  have hb := hC.2.1
  exact lv_iload_n hx hb hd rfl (lvl_at hL h0) (kk p l e s m args below meth cd dC dI cy ad adK adV A H locs Ls hC hX hst hW hS hO hl (okc (hl _ (List.mem_of_getElem? h0)) hs) hL)
theorem L_aload_n {k : Fin 4} {x : Option Nat} (hd : decode M.2.1 pc = .ok (.aload_n k, 1)) (h0 : ls[(k : Nat)]? = some (some (vR x))) (kk : RLw Xs M ce sl sh (pc + 1) ls (vR x :: st) g z r) : RLw Xs M ce sl sh pc ls st g z r := by
  intro p l e s m args below meth cd dC dI cy ad adK adV A H locs Ls hC hX hst hW hS hO hl hs hL
  have hx := hC.1
  have hb := hC.2.1
  cases x with
  | none => exact lv_aload_nN hx hb hd rfl (lvl_at hL h0) (kk p l e s m args below meth cd dC dI cy ad adK adV A H locs Ls hC hX hst hW hS hO hl (okc (hl _ (List.mem_of_getElem? h0)) hs) hL)
  | some a => exact lv_aload_n hx hb hd rfl (lvl_at hL h0) (kk p l e s m args below meth cd dC dI cy ad adK adV A H locs Ls hC hX hst hW hS hO hl (okc (hl _ (List.mem_of_getElem? h0)) hs) hL)
theorem L_istore_n {k : Fin 4} {x : Int} (hd : decode M.2.1 pc = .ok (.istore_n k, 1)) (h0 : (k : Nat) < M.2.2.1) (h1 : nlg ls (k : Nat) = true) (ls' : List (Option AV)) (hls : ls.set (k : Nat) (some (vI x)) = ls') (kk : RLw Xs M ce sl sh (pc + 1) ls' st g z r) : RLw Xs M ce sl sh pc ls (vI x :: st) g z r := by
  subst hls
  intro p l e s m args below meth cd dC dI cy ad adK adV A H locs Ls hC hX hst hW hS hO hl hs hL
  have hx := hC.1
  have hb := hC.2.1
  exact lv_istore_n hx hb hd rfl hL h0 rfl (fun Ls' hL' => kk p l e s m args below meth cd dC dI cy ad adK adV A H locs Ls' hC hX hst hW hS hO (set_ok hl (fun v hv => by cases hv; exact okx hs)) (okt hs) (lvl_st1 (v := vI x) h1 hL'))
theorem L_astore_n {k : Fin 4} {x : Option Nat} (hd : decode M.2.1 pc = .ok (.astore_n k, 1)) (h0 : (k : Nat) < M.2.2.1) (h1 : nlg ls (k : Nat) = true) (ls' : List (Option AV)) (hls : ls.set (k : Nat) (some (vR x)) = ls') (kk : RLw Xs M ce sl sh (pc + 1) ls' st g z r) : RLw Xs M ce sl sh pc ls (vR x :: st) g z r := by
  subst hls
  intro p l e s m args below meth cd dC dI cy ad adK adV A H locs Ls hC hX hst hW hS hO hl hs hL
  have hx := hC.1
  have hb := hC.2.1
  cases x with
  | none => exact lv_astore_nN hx hb hd rfl hL h0 rfl (fun Ls' hL' => kk p l e s m args below meth cd dC dI cy ad adK adV A H locs Ls' hC hX hst hW hS hO (set_ok hl (fun v hv => by cases hv; exact okx hs)) (okt hs) (lvl_st1 (v := vR none) h1 hL'))
  | some a => exact lv_astore_n hx hb hd rfl hL h0 rfl (fun Ls' hL' => kk p l e s m args below meth cd dC dI cy ad adK adV A H locs Ls' hC hX hst hW hS hO (set_ok hl (fun v hv => by cases hv; exact okx hs)) (okt hs) (lvl_st1 (v := vR (some a)) h1 hL'))
theorem L_iconst {n : Int} (hd : decode M.2.1 pc = .ok (.iconst n, 1)) (h0 : decide (-32768 ≤ n ∧ n < 32768) = true) (h1 : Int32.ofInt n = i32 n) (kk : RLw Xs M ce sl sh (pc + 1) ls (vI n :: st) g z r) : RLw Xs M ce sl sh pc ls st g z r := by
  intro p l e s m args below meth cd dC dI cy ad adK adV A H locs Ls hC hX hst hW hS hO hl hs hL
  have hx := hC.1
  have hb := hC.2.1
  have h0 := of_decide_eq_true h0
  exact lv_iconst hx hb hd h1 (kk p l e s m args below meth cd dC dI cy ad adK adV A H locs Ls hC hX hst hW hS hO hl (okc (v := vI n) ⟨by omega, by omega⟩ hs) hL)
theorem L_bipush {n : Int} (hd : decode M.2.1 pc = .ok (.bipush n, 2)) (h0 : decide (-32768 ≤ n ∧ n < 32768) = true) (h1 : (Int8.ofInt n).toInt32 = i32 n) (kk : RLw Xs M ce sl sh (pc + 2) ls (vI n :: st) g z r) : RLw Xs M ce sl sh pc ls st g z r := by
  intro p l e s m args below meth cd dC dI cy ad adK adV A H locs Ls hC hX hst hW hS hO hl hs hL
  have hx := hC.1
  have hb := hC.2.1
  have h0 := of_decide_eq_true h0
  exact lv_bipush hx hb hd h1 (kk p l e s m args below meth cd dC dI cy ad adK adV A H locs Ls hC hX hst hW hS hO hl (okc (v := vI n) ⟨by omega, by omega⟩ hs) hL)
theorem L_iadd {a b : Int} (hd : decode M.2.1 pc = .ok (.iadd, 1)) (kk : RLw Xs M ce sl sh (pc + 1) ls (vI (w32 (a + b)) :: st) g z r) : RLw Xs M ce sl sh pc ls (vI b :: vI a :: st) g z r := by
  intro p l e s m args below meth cd dC dI cy ad adK adV A H locs Ls hC hX hst hW hS hO hl hs hL
  have hx := hC.1
  have hb := hC.2.1
  refine lv_iadd hx hb hd ?_
  have h := kk p l e s m args below meth cd dC dI cy ad adK adV A H locs Ls hC hX hst hW hS hO hl (okc (v := vI (w32 (a + b))) (w32_in _) (okt (okt hs))) hL
  rw [List.map_cons, show cv ad (vI (w32 (a + b))) = .int (i32 (w32 (a + b))) from rfl, i32_w, i32, Int32.ofInt_add] at h
  exact h
theorem L_isub {a b : Int} (hd : decode M.2.1 pc = .ok (.isub, 1)) (kk : RLw Xs M ce sl sh (pc + 1) ls (vI (w32 (a - b)) :: st) g z r) : RLw Xs M ce sl sh pc ls (vI b :: vI a :: st) g z r := by
  intro p l e s m args below meth cd dC dI cy ad adK adV A H locs Ls hC hX hst hW hS hO hl hs hL
  have hx := hC.1
  have hb := hC.2.1
  refine lv_isub hx hb hd ?_
  have h := kk p l e s m args below meth cd dC dI cy ad adK adV A H locs Ls hC hX hst hW hS hO hl (okc (v := vI (w32 (a - b))) (w32_in _) (okt (okt hs))) hL
  rw [List.map_cons, show cv ad (vI (w32 (a - b))) = .int (i32 (w32 (a - b))) from rfl, i32_w, i32, Int32.ofInt_sub] at h
  exact h
theorem L_iand {a b : Int} (hd : decode M.2.1 pc = .ok (.iand, 1)) (kk : RLw Xs M ce sl sh (pc + 1) ls (vI (bAnd a b) :: st) g z r) : RLw Xs M ce sl sh pc ls (vI b :: vI a :: st) g z r := by
  intro p l e s m args below meth cd dC dI cy ad adK adV A H locs Ls hC hX hst hW hS hO hl hs hL
  have hx := hC.1
  have hb := hC.2.1
  refine lv_iand hx hb hd ?_
  have h := kk p l e s m args below meth cd dC dI cy ad adK adV A H locs Ls hC hX hst hW hS hO hl (okc (v := vI (bAnd a b)) (in32 _) (okt (okt hs))) hL
  rw [List.map_cons, show cv ad (vI (bAnd a b)) = .int (i32 (bAnd a b)) from rfl, bAnd, o32] at h
  exact h
theorem L_lcmp {a b : Int} (hd : decode M.2.1 pc = .ok (.lcmp, 1)) (kk : RLw Xs M ce sl sh (pc + 1) ls (vI (lcm a b) :: st) g z r) : RLw Xs M ce sl sh pc ls (vL b :: vL a :: st) g z r := by
  intro p l e s m args below meth cd dC dI cy ad adK adV A H locs Ls hC hX hst hW hS hO hl hs hL
  have hx := hC.1
  have hb := hC.2.1
  have hb1 : inL b := okx hs
  have ha1 : inL a := okx (okt hs)
  refine W.lcmp hx hb hd ?_
  have ee : lg_cmp (i64 a) (i64 b) = i32 (lcm a b) := by
    unfold lg_cmp lcm
    have q1 : i64 b < i64 a ↔ b < a := by rw [Int64.lt_iff_toInt_lt, t64 ha1, t64 hb1]
    have q2 : i64 a = i64 b ↔ a = b := by rw [← Int64.toInt_inj, t64 ha1, t64 hb1]
    simp only [GT.gt, q1, q2]
    split
    · rfl
    · split <;> rfl
  rw [ee]
  exact kk p l e s m args below meth cd dC dI cy ad adK adV A H locs Ls hC hX hst hW hS hO hl (okc (v := vI (lcm a b)) (show inI (lcm a b) by unfold lcm inI; split; omega; split <;> omega) (okt (okt hs))) hL
theorem L_dup {v : AV} (hd : decode M.2.1 pc = .ok (.dup, 1)) (h0 : ∀ x, v ≠ vL x) (kk : RLw Xs M ce sl sh (pc + 1) ls (v :: v :: st) g z r) : RLw Xs M ce sl sh pc ls (v :: st) g z r := by
  intro p l e s m args below meth cd dC dI cy ad adK adV A H locs Ls hC hX hst hW hS hO hl hs hL
  have hx := hC.1
  have hb := hC.2.1
  exact lv_dup hx hb hd (by rcases lv_cat (cv ad v) with q | q; exact q; exact absurd (cv_cat q).choose_spec (h0 _)) (kk p l e s m args below meth cd dC dI cy ad adK adV A H locs Ls hC hX hst hW hS hO hl (okc (okx hs) hs) hL)
theorem L_iinc {k : Nat} {n x : Int} (hd : decode M.2.1 pc = .ok (.iinc k n, 3)) (h0 : ls[k]? = some (some (vI x))) (h2 : k < M.2.2.1) (h1 : nlg ls k = true) (ls' : List (Option AV)) (hls : ls.set k (some (vI (w32 (x + n)))) = ls') (kk : RLw Xs M ce sl sh (pc + 3) ls' st g z r) : RLw Xs M ce sl sh pc ls st g z r := by
  subst hls
  intro p l e s m args below meth cd dC dI cy ad adK adV A H locs Ls hC hX hst hW hS hO hl hs hL
  have hx := hC.1
  have hb := hC.2.1
  have hm : (k, cv ad (vI x)) ∈ lvl ad ls := lvl_mem.mpr ⟨k, vI x, h0, rfl⟩
  obtain ⟨j, hj⟩ := List.getElem?_of_mem hm
  exact lv_iinc hx hb hd hL hj (v := i32 (w32 (x + n))) (by rw [i32_w, i32, i32, Int32.ofInt_add]) h2 rfl (fun Ls' hL' => kk p l e s m args below meth cd dC dI cy ad adK adV A H locs Ls' hC hX hst hW hS hO (set_ok hl (fun v hv => by cases hv; exact w32_in _)) hs (lvl_st1 (v := vI (w32 (x + n))) h1 hL'))
theorem L_icmp_eq {a b off : Int} (tgt : Nat) (hd : decode M.2.1 pc = .ok (.if_icmp .eq off, 3)) (ht : (pc : Int) + off = (tgt : Int)) (kt : a = b → RLw Xs M ce sl sh tgt ls st g z r) (kf : ¬ (a = b) → RLw Xs M ce sl sh (pc + 3) ls st g z r) : RLw Xs M ce sl sh pc ls (vI b :: vI a :: st) g z r := by
  intro p l e s m args below meth cd dC dI cy ad adK adV A H locs Ls hC hX hst hW hS hO hl hs hL
  have hx := hC.1
  have hb := hC.2.1
  have hq := i32_eq (okx (okt hs)) (okx hs)
  exact lv_icmp_eq hx hb hd ht (fun q => kt (hq.mp q) p l e s m args below meth cd dC dI cy ad adK adV A H locs Ls hC hX hst hW hS hO hl (okt (okt hs)) hL) (fun q => kf (fun w => q (hq.mpr w)) p l e s m args below meth cd dC dI cy ad adK adV A H locs Ls hC hX hst hW hS hO hl (okt (okt hs)) hL)
theorem L_icmp_gt {a b off : Int} (tgt : Nat) (hd : decode M.2.1 pc = .ok (.if_icmp .gt off, 3)) (ht : (pc : Int) + off = (tgt : Int)) (kt : b < a → RLw Xs M ce sl sh tgt ls st g z r) (kf : ¬ (b < a) → RLw Xs M ce sl sh (pc + 3) ls st g z r) : RLw Xs M ce sl sh pc ls (vI b :: vI a :: st) g z r := by
  intro p l e s m args below meth cd dC dI cy ad adK adV A H locs Ls hC hX hst hW hS hO hl hs hL
  have hx := hC.1
  have hb := hC.2.1
  have hq := i32_lt (okx hs) (okx (okt hs))
  exact lv_icmp_gt hx hb hd ht (fun q => kt (hq.mp q) p l e s m args below meth cd dC dI cy ad adK adV A H locs Ls hC hX hst hW hS hO hl (okt (okt hs)) hL) (fun q => kf (fun w => q (hq.mpr w)) p l e s m args below meth cd dC dI cy ad adK adV A H locs Ls hC hX hst hW hS hO hl (okt (okt hs)) hL)
theorem L_if_eq {a off : Int} (tgt : Nat) (hd : decode M.2.1 pc = .ok (.ifCond .eq off, 3)) (ht : (pc : Int) + off = (tgt : Int)) (kt : a = 0 → RLw Xs M ce sl sh tgt ls st g z r) (kf : ¬ (a = 0) → RLw Xs M ce sl sh (pc + 3) ls st g z r) : RLw Xs M ce sl sh pc ls (vI a :: st) g z r := by
  intro p l e s m args below meth cd dC dI cy ad adK adV A H locs Ls hC hX hst hW hS hO hl hs hL
  have hx := hC.1
  have hb := hC.2.1
  have hq := i32_eq (okx hs) inI0
  exact lv_if_eq hx hb hd ht (fun q => kt (hq.mp q) p l e s m args below meth cd dC dI cy ad adK adV A H locs Ls hC hX hst hW hS hO hl (okt hs) hL) (fun q => kf (fun w => q (hq.mpr w)) p l e s m args below meth cd dC dI cy ad adK adV A H locs Ls hC hX hst hW hS hO hl (okt hs) hL)
theorem L_goto {off : Int} (tgt : Nat) (hd : decode M.2.1 pc = .ok (.goto off, 3)) (ht : (pc : Int) + off = (tgt : Int)) (kk : RLw Xs M ce sl sh tgt ls st g z r) : RLw Xs M ce sl sh pc ls st g z r := by
  intro p l e s m args below meth cd dC dI cy ad adK adV A H locs Ls hC hX hst hW hS hO hl hs hL
  have hx := hC.1
  have hb := hC.2.1
  exact lv_goto hx hb hd ht (kk p l e s m args below meth cd dC dI cy ad adK adV A H locs Ls hC hX hst hW hS hO hl hs hL)
theorem L_tsOut {dflt lo hi a : Int} {offs : Array Int} {len : Nat} (tgt : Nat) (hd : decode M.2.1 pc = .ok (.tableswitch dflt lo hi offs, len)) (h1 : a < lo ∨ hi < a) (ht : (pc : Int) + dflt = (tgt : Int)) (kk : RLw Xs M ce sl sh tgt ls st g z r) : RLw Xs M ce sl sh pc ls (vI a :: st) g z r := by
  intro p l e s m args below meth cd dC dI cy ad adK adV A H locs Ls hC hX hst hW hS hO hl hs hL
  have hx := hC.1
  have hb := hC.2.1
  have ha : (i32 a).toInt = a := t32 (okx hs)
  exact lv_tableOut hx hb hd (by rw [ha]; exact h1) ht (kk p l e s m args below meth cd dC dI cy ad adK adV A H locs Ls hC hX hst hW hS hO hl (okt hs) hL)
theorem L_tsIn {dflt lo hi a off : Int} {offs : Array Int} {len : Nat} (tgt : Nat) (hd : decode M.2.1 pc = .ok (.tableswitch dflt lo hi offs, len)) (h1 : lo ≤ a) (h2 : a ≤ hi) (ho : offs[(a - lo).toNat]? = some off) (ht : (pc : Int) + off = (tgt : Int)) (kk : RLw Xs M ce sl sh tgt ls st g z r) : RLw Xs M ce sl sh pc ls (vI a :: st) g z r := by
  intro p l e s m args below meth cd dC dI cy ad adK adV A H locs Ls hC hX hst hW hS hO hl hs hL
  have hx := hC.1
  have hb := hC.2.1
  have ha : (i32 a).toInt = a := t32 (okx hs)
  exact lv_tableIn hx hb hd (by rw [ha]; omega) (by rw [ha]; omega) (by rw [ha]; exact ho) ht (kk p l e s m args below meth cd dC dI cy ad adK adV A H locs Ls hC hX hst hW hS hO hl (okt hs) hL)
theorem L_iaddN {a b : Int} (hd : decode M.2.1 pc = .ok (.iadd, 1)) (hi : inI (a + b)) (kk : RLw Xs M ce sl sh (pc + 1) ls (vI (a + b) :: st) g z r) : RLw Xs M ce sl sh pc ls (vI b :: vI a :: st) g z r := L_iadd hd (by rw [w32_id hi]; exact kk)
theorem L_isubN {a b : Int} (hd : decode M.2.1 pc = .ok (.isub, 1)) (hi : inI (a - b)) (kk : RLw Xs M ce sl sh (pc + 1) ls (vI (a - b) :: st) g z r) : RLw Xs M ce sl sh pc ls (vI b :: vI a :: st) g z r := L_isub hd (by rw [w32_id hi]; exact kk)
theorem L_iincN {k : Nat} {n x : Int} (hd : decode M.2.1 pc = .ok (.iinc k n, 3)) (h0 : ls[k]? = some (some (vI x))) (h2 : k < M.2.2.1) (h1 : nlg ls k = true) (hi : inI (x + n)) (ls' : List (Option AV)) (hls : ls.set k (some (vI (x + n))) = ls') (kk : RLw Xs M ce sl sh (pc + 3) ls' st g z r) : RLw Xs M ce sl sh pc ls st g z r := L_iinc hd h0 h2 h1 ls' (by rw [w32_id hi]; exact hls) kk
theorem L_ts {dflt lo hi a : Int} {offs : Array Int} {len : Nat} (tg : List Nat) (td : Nat) (hd : decode M.2.1 pc = .ok (.tableswitch dflt lo hi offs, len)) (h1 : tg.map (fun (t : Nat) => (t : Int) - (pc : Int)) = offs.toList) (h2 : hi = lo + tg.length - 1) (ht : (pc : Int) + dflt = (td : Int)) (kk : ∀ (i t : Nat), tg[i]? = some t → a = lo + (i : Int) → RLw Xs M ce sl sh t ls st g z r) (kd : (a < lo ∨ hi < a) → RLw Xs M ce sl sh td ls st g z r) : RLw Xs M ce sl sh pc ls (vI a :: st) g z r := by
  by_cases h : a < lo ∨ hi < a
  · exact L_tsOut td hd h ht (kd h)
  · have hl : (a - lo).toNat < tg.length := by omega
    have e : tg[(a - lo).toNat]? = some tg[(a - lo).toNat] := List.getElem?_eq_getElem hl
    refine L_tsIn (off := (tg[(a - lo).toNat] : Int) - (pc : Int)) tg[(a - lo).toNat] hd (by omega) (by omega) ?_ (by omega) (kk _ _ e (by omega))
    rw [← Array.getElem?_toList, ← h1, List.getElem?_map, e]
    rfl
theorem run_goL {p : Program} {l : Launch} {e : Env} {s : State} {m : MethodId} {args : Array Value} {below : List Frame} {meth : Method} {cd : Code} {dC : Nat → ClassId} {dI : Nat → Nat → Nat} {cy : Nat → ClassId} {ad adK adV : Nat → Nat} {A : Nat → Prop} {H : Heap} {locs : List Loc} {Ls : Array Slot} {mc' ms' : Nat} {Q' : PQ} {stk : List Value} {a : Array Value}
    (hC : Cx M p s m args meth cd adK adV A) (hX : XS Xs s A ad args) (hst : ∀ i, i < 6 → ad (100000 + i) = adK i ∧ ad (100010 + i) = adV i ∧ ad (100020 + i) = adV (10 + i)) (hW : Wd dC dI cy ad A sh g z r s H) (hS : va_S A s.heap H locs) (hl : ∀ v, some v ∈ ls → okv sh.length v) (hs : ∀ v ∈ st, okv sh.length v) (hL : lv_has Ls M.2.2.1 (lvl ad ls))
    (hrun : va_Run p l e M.2.2.2.2 s m args below meth cd H locs ce sl mc' ms' (F0 m pc Ls stk) (st.map (cv ad)) (QC ad sh.length dC dI cy (va_A (wd cy ad sh g z r) H.size) Q' a) (va_A (wd cy ad sh g z r) H.size))
    (kk : ∀ v sh' g' z' r', Q' v sh' g' z' r' → RLw Xs M (ce + mc') (sl + ms') sh' (pc + 3) ls (v.toList ++ st) g' z' r') :
    W p l e M.2.2.2.2 s m args below meth cd H locs ce sl (lw_Z below args s) (F0 m pc Ls stk) := by
  have hsub : ∀ q, va_A (wd cy ad sh g z r) H.size q → A q := by
    intro q hq
    rcases hq with ⟨k, e, hk⟩ | hq
    · exact hW.2.1.2 k _ hk
    · exact hC.2.2.2.2.2.2.2.2.2 q (Nat.le_trans hS.1 hq)
  intro T hT X
  obtain ⟨v, st₀, t, T', L, h0, X', hLL, e1, e2, hq, stp⟩ := hrun T hT X
  obtain ⟨⟨v', sh', ad', g', z', r', hv, hQ, hn', had, hOk, hvok, hP', hD', -⟩, hF1, hF2⟩ := hq
  have hv : v = v'.map (cv ad') := by injection hv
  rw [h0] at hF1 hF2
  have hX' : XS Xs s A ad' args := hX.mono (had _ (Or.inr (by omega)))
  have hst' : ∀ i, i < 6 → ad' (100000 + i) = adK i ∧ ad' (100010 + i) = adV i ∧ ad' (100020 + i) = adV (10 + i) := fun i hi => ⟨(had _ (Or.inr (by omega))).trans (hst i hi).1, (had _ (Or.inr (by omega))).trans (hst i hi).2.1, (had _ (Or.inr (by omega))).trans (hst i hi).2.2⟩
  have hS' : va_S A s.heap T'.heap (locs ++ L) := by
    refine ⟨Nat.le_trans hS.1 (by rw [e1]; exact hF1), fun q h1 h2 => ?_, fun q hq => ?_⟩
    · rw [e1, hF2 q (Nat.lt_of_lt_of_le h1 hS.1) (fun w => h2 (hsub q w))]
      exact hS.2.1 q h1 h2
    · rcases List.mem_append.mp hq with h | h
      · exact hS.2.2 q h
      · exact hsub _ (hLL q h)
  have hlv : lvl ad' ls = lvl ad ls := lvl_ad hl had
  have K := kk v' sh' g' z' r' hQ p l e s m args below meth cd dC dI cy ad' adK adV A T'.heap (locs ++ L) Ls hC hX' hst' ⟨by rw [e1]; exact hP', hD'.weaken (fun k q _ h => hsub _ h), hW.2.2⟩ hS' hOk (fun v hv => (hl v hv).mono hn') (by
    intro x hx
    rcases List.mem_append.mp hx with h | h
    · exact hvok x (by simpa using h)
    · exact (hs x h).mono hn') (by rw [hlv]; exact hL)
  obtain ⟨t2, a1, b1⟩ := K T' rfl X'
  refine ⟨t2, stp t2 ?_, b1⟩
  have es : (v'.toList ++ st).map (cv ad') = v.toList ++ st.map (cv ad) := by
    rw [List.map_append, hv]
    congr 1
    · cases v' <;> rfl
    · exact List.map_congr_left fun x hx => cv_eq (hs x hx) had
  rw [es] at a1
  exact a1
theorem L_callV {M' : MI} {mc' ms' : Nat} {Q' : PQ} {as : List AV} {c ci n2 index : Nat} {T : u_T} {N : Nat} (hct : CT M' mc' ms' sh (vR (some c) :: as) g z r Q') (hv : MV M' as.length) (hi : Cond.instanceMethod M'.1 ∈ TB) (hse : Cond.selects M'.1.cls M'.1 M'.1 ∈ TB) (hk : Cond.methodLink M.1.cls index M'.1 ∈ TB) (hs0 : sh[c]? = some (ci, n2)) (hc : vwCl[ci]? = some (M'.1.cls, T, N)) (hci : ci < 13) (hrm : rmOK M M' mc' ms' ce sl) (hst4 : st.length ≤ 4) (hd : decode M.2.1 pc = .ok (.invokevirtual index, 3))
    (kk : ∀ v sh' g' z' r', Q' v sh' g' z' r' → RLw Xs M (ce + mc') (sl + ms') sh' (pc + 3) ls (v.toList ++ st) g' z' r') : RLw Xs M ce sl sh pc ls (as.reverse ++ vR (some c) :: st) g z r := by
  intro p l e s m args below meth cd dC dI cy ad adK adV A H locs Ls hC hX hst hW hS hO hl hs hL
  have hs1 : ∀ v ∈ st, okv sh.length v := fun v h => hs v (List.mem_append_right _ (List.mem_cons_of_mem _ h))
  have hs2 : ∀ v ∈ vR (some c) :: as, okv sh.length v := fun v h => by
    rcases List.mem_cons.mp h with q | q
    · rw [q]; exact hs _ (List.mem_append_right _ List.mem_cons_self)
    · exact hs v (List.mem_append_left _ (List.mem_reverse.mpr q))
  have hM := hct l dC dI cy ad adK adV H.size hst hO hs2
  refine run_goL hC hX hst hW hS hl hs1 hL (va_runV (bytes := M'.2.1) (maxL := M'.2.2.1) (ret := M'.2.2.2.1) (As := as.map (cv ad)) (b := ad c) (C := M'.1.cls) (n := as.length) ⟨hC.1, hC.2.1, hC.2.2.1, hC.2.2.2.2.2.1, hC.2.2.2.2.2.2.2.1⟩ hM ?_ ⟨PC.blind, va_recv hW.2.2 hW.1 hc (by rw [wd_get hs0, ce_obj hci]), PC.at hC hW hS⟩ rfl (by rw [List.length_map]) hL.1 ?_ ?_ hd hrm.2.2.2) kk
  · refine cwV as.length hC.2.2.2.2.2.2.2.1 (good_app (fun w hw => ?_) (good_TB hv.2.1)) rfl hrm.1 hrm.2.1 ⟨rfl, hv.2.2⟩ hrm.2.2.1
    simp only [List.mem_cons, List.not_mem_nil, or_false] at hw
    rcases hw with rfl | rfl | rfl | rfl
    · exact hk
    · exact hi
    · exact hse
    · exact hv.1
  · simp only [List.map_append, List.map_cons, List.map_reverse]; rfl
  · exact lv_room (Nat.le_trans (cat_sum st) (by omega))
theorem L_callI {M' : MI} {mc' ms' : Nat} {Q' : PQ} {as : List AV} {c index : Nat} (hct : CT M' mc' ms' sh (vR (some c) :: as) g z r Q') (hv : MV M' as.length) (hr0 : M'.2.2.2.1 = none) (hnm : M'.1.name = "<init>") (hi : Cond.instanceMethod M'.1 ∈ TB) (hk : Cond.methodLink M.1.cls index M'.1 ∈ TB) (hrm : rmOK M M' mc' ms' ce sl) (hst4 : st.length ≤ 4) (hd : decode M.2.1 pc = .ok (.invokespecial index, 3))
    (kk : ∀ v sh' g' z' r', Q' v sh' g' z' r' → RLw Xs M (ce + mc') (sl + ms') sh' (pc + 3) ls (v.toList ++ st) g' z' r') : RLw Xs M ce sl sh pc ls (as.reverse ++ vR (some c) :: st) g z r := by
  intro p l e s m args below meth cd dC dI cy ad adK adV A H locs Ls hC hX hst hW hS hO hl hs hL
  have hs1 : ∀ v ∈ st, okv sh.length v := fun v h => hs v (List.mem_append_right _ (List.mem_cons_of_mem _ h))
  have hs2 : ∀ v ∈ vR (some c) :: as, okv sh.length v := fun v h => by
    rcases List.mem_cons.mp h with q | q
    · rw [q]; exact hs _ (List.mem_append_right _ List.mem_cons_self)
    · exact hs v (List.mem_append_left _ (List.mem_reverse.mpr q))
  have hM := hct l dC dI cy ad adK adV H.size hst hO hs2
  refine run_goL hC hX hst hW hS hl hs1 hL (va_runI (As := as.map (cv ad)) (b := ad c) (n := as.length) ⟨hC.1, hC.2.1, hC.2.2.1, hC.2.2.2.2.2.1, hC.2.2.2.2.2.2.2.1⟩ hM (bytes := M'.2.1) (maxL := M'.2.2.1) ?_ ⟨PC.blind, PC.at hC hW hS⟩ rfl (by rw [List.length_map]) hL.1 ?_ ?_ hd hrm.2.2.2) kk
  · exact cwI as.length hC.2.2.2.2.2.2.2.1 (good_TB hv.2.1) (by rw [hr0]) hrm.1 hrm.2.1 (hC.2.2.2.2.2.2.2.1 _ hv.1) (hC.2.2.2.2.2.2.2.1 _ hk) (hC.2.2.2.2.2.2.2.1 _ hi) hnm hv.2.2 hrm.2.2.1
  · simp only [List.map_append, List.map_cons, List.map_reverse]; rfl
  · exact lv_room (Nat.le_trans (cat_sum st) (by omega))
theorem L_sld {i : Int} (h0 : 0 ≤ i) (h1 : i < (Xs.1 : Int)) (hd : decode M.2.1 pc = .ok (.iaload, 1)) (kk : RLw Xs M ce sl sh (pc + 1) ls (vI (Xs.2 i.toNat) :: st) g z r) : RLw Xs M ce sl sh pc ls (vI i :: vR (some 100030) :: st) g z r := by
  intro p l e s m args below meth cd dC dI cy ad adK adV A H locs Ls hC hX hst hW hS hO hl hs hL
  have hi : inI i := okx hs
  have K := kk p l e s m args below meth cd dC dI cy ad adK adV A H locs Ls hC hX hst hW hS hO hl (okc (v := vI (Xs.2 i.toNat)) (hX.2.2.2.2.1 _) (okt (okt hs))) hL
  refine va_sld hC.1 hC.2.1 hX.1 hX.2.1 (fun q => absurd ((hX.2.2.1 _).mp q) (by have := hX.2.1; omega)) hS (vp_inI hi h0 h1) hd ?_
  rw [i32_clamp hi]
  exact K
theorem L_slen (hd : decode M.2.1 pc = .ok (.arraylength, 1)) (kk : RLw Xs M ce sl sh (pc + 1) ls (vI (Xs.1 : Int) :: st) g z r) : RLw Xs M ce sl sh pc ls (vR (some 100030) :: st) g z r := by
  intro p l e s m args below meth cd dC dI cy ad adK adV A H locs Ls hC hX hst hW hS hO hl hs hL
  have K := kk p l e s m args below meth cd dC dI cy ad adK adV A H locs Ls hC hX hst hW hS hO hl (okc (v := vI (Xs.1 : Int)) (show inI (Xs.1 : Int) by have := hX.2.2.2.2.2; unfold inI; omega) (okt hs)) hL
  refine va_slen hC.1 hC.2.1 hX.1 hX.2.1 (fun q => absurd ((hX.2.2.1 _).mp q) (by have := hX.2.1; omega)) hS hd ?_
  have e : Int32.ofNat Xs.1 = i32 (Xs.1 : Int) := by rw [i32, Int32.ofInt_eq_ofNat]
  rw [e]
  exact K
/-- the law's end -/
theorem L_ret1 (hM : M.2.1 = code) (hr : M.2.2.2.1 = ret) (hR : M.2.2.2.2 = room_1) (hce : ce ≤ 600000) (hsl : sl ≤ 7302250) (hd : decode code pc = .ok (.ireturn, 1)) : RLw Xs M ce sl sh pc ls [vI 1] g z r := by
  intro p l e s m args below meth cd dC dI cy ad adK adV A H locs Ls hC hX hst hW hS hO hl hs hL
  rw [hR, hX.2.2.2.1]
  refine W.widen (k := 600000) (n := 7302250) hce hsl ?_
  refine va_forget (fun q hq => (hX.2.2.1 _).mp (hS.2.2 q hq)) ?_
  exact lw_ret hC.1 (hC.2.1.trans hM) (hC.2.2.2.1.trans hr) hC.2.2.2.2.1 hd
end LAWR
section LAWN
variable {Xs : Nat × (Nat → Int)} {M : MI} {ce0 sl : Nat} {sh : SH} {pc : Nat} {ls : List (Option AV)} {st : List AV} {g z : GG} {r : RR}
theorem new_goL {p : Program} {l : Launch} {e : Env} {s : State} {m : MethodId} {args : Array Value} {below : List Frame} {meth : Method} {cd : Code} {dC : Nat → ClassId} {dI : Nat → Nat → Nat} {cy : Nat → ClassId} {ad adK adV : Nat → Nat} {A : Nat → Prop} {H1 : Heap} {locs : List Loc} {Ls : Array Slot} {q : Nat} {x : Nat × Nat} {sh' : SH} {n : Nat} {ent : va_E} {ce1 sl1 pc1 : Nat}
    (hC : Cx M p s m args meth cd adK adV A) (hX : XS Xs s A ad args) (hst : ∀ i, i < 6 → ad (100000 + i) = adK i ∧ ad (100010 + i) = adV i ∧ ad (100020 + i) = adV (10 + i)) (hO : okh sh.length g z r) (hl : ∀ v, some v ∈ ls → okv sh.length v) (hs : ∀ v ∈ st, okv sh.length v) (hL : lv_has Ls M.2.2.1 (lvl ad ls))
    (hsh : sh ++ [x] = sh') (hlen : sh.length = n) (hlt : n < 100000) (hent : ent = ce cy (adN ad n q) g z r n x)
    (hP : va_P (dC, dI) vwCl (wd cy ad sh g z r ++ [(q, ent)]) H1) (hD : va_D A (wd cy ad sh g z r ++ [(q, ent)])) (hK : va_K (dC, dI) vwCl (tyL cy) s) (hS : va_S A s.heap H1 locs)
    (kk : RLw Xs M ce1 sl1 sh' pc1 ls (vR (some n) :: st) g z r) : W p l e M.2.2.2.2 s m args below meth cd H1 locs ce1 sl1 (lw_Z below args s) (F0 m pc1 Ls (.ref q :: st.map (cv ad))) := by
  subst hsh
  subst hlen
  have ho := adN_o (ad := ad) (q := q) hlt
  have hl1 : (sh ++ [x]).length = sh.length + 1 := by simp
  have hw : wd cy ad sh g z r ++ [(q, ent)] = wd cy (adN ad sh.length q) (sh ++ [x]) g z r := by
    rw [wd_push hO.2.2 ho, adN_s, hent]
  rw [hw] at hP hD
  have K := kk p l e s m args below meth cd dC dI cy (adN ad sh.length q) adK adV A H1 locs Ls hC (hX.mono (ho _ (Or.inr (by omega)))) (fun i hi => ⟨(ho _ (Or.inr (by omega))).trans (hst i hi).1, (ho _ (Or.inr (by omega))).trans (hst i hi).2.1, (ho _ (Or.inr (by omega))).trans (hst i hi).2.2⟩) ⟨hP, hD, hK⟩ hS ⟨hO.1, hO.2.1, fun c k a h => (hO.2.2 c k a h).mono (by rw [hl1]; omega)⟩ (fun v hv => (hl v hv).mono (by rw [hl1]; omega)) (okc (v := vR (some sh.length)) (fun a ha => Or.inl (by injection ha with ha; rw [hl1]; omega)) (fun v hv => (hs v hv).mono (by rw [hl1]; omega))) (by rw [lvl_ad hl ho]; exact hL)
  have es : (vR (some sh.length) :: st).map (cv (adN ad sh.length q)) = .ref q :: st.map (cv ad) := by
    rw [List.map_cons]
    congr 1
    · simp [cv, va_rf, adN_s]
    · exact List.map_congr_left fun x hx => cv_eq (hs x hx) ho
  rw [es] at K
  exact K
theorem L_new {C : String} {T : u_T} {N ci index : Nat} {ty : Nat → FieldType} (n : Nat) (sh' : SH) (hsh : sh ++ [(ci, N)] = sh') (hlen : sh.length = n) (hlt : n < 100000) (hin : ∀ w ∈ u_ws C T N, w ∈ TB) (hty : ∀ k, k < N → parseFieldDescriptor (T k).2.2.1 = some (ty k)) (hcl : Cond.classLink M.1.cls index C ∈ TB) (hinst : Cond.instantiable C N ∈ TB) (hini : Cond.initialized C ∈ TB) (hc : vwCl[ci]? = some (C, T, N)) (hci : ci < 13) (hfs : ∀ j, j < N → defaultValue (ty j) = vp_V (dfl ci) j) (hce : ce0 + 1 ≤ M.2.2.2.2.cells) (hsl : sl + N ≤ M.2.2.2.2.slots) (hd : decode M.2.1 pc = .ok (.new index, 3)) (h0 : ∀ j, g n j = 0 ∧ z n j = 0 ∧ r n j = none)
    (kk : RLw Xs M (ce0 + 1) (sl + N) sh' (pc + 3) ls (vR (some n) :: st) g z r) : RLw Xs M ce0 sl sh pc ls st g z r := by
  intro p l e s m args below meth cd dC dI cy ad adK adV A H locs Ls hC hX hst hW hS hO hl hs hL
  have hts := hC.2.2.2.2.2.2.2.1
  refine va_new (ci := ci) (fs := dfl ci) (C := C) (T := T) (N := N) hC.1 hC.2.1 hts hin ty hty hC.2.2.2.2.2.1 (hts _ hcl) (hts _ hinst) (hts _ hini) hW.2.2 hW.1 hW.2.1 hS hC.2.2.2.2.2.2.2.2.2 hc hfs hce hsl hd (fun q H1 hP hD hS1 => ?_)
  exact new_goL hC hX hst hO hl hs hL hsh hlen hlt (by rw [ce_obj hci, fv_dfl h0]) hP hD hW.2.2 hS1 kk
end LAWN
