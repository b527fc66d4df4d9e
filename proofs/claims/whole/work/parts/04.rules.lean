section RULES
theorem okc {n : Nat} {v : AV} {st : List AV} (hv : okv n v) (h : ∀ x ∈ st, okv n x) : ∀ x ∈ v :: st, okv n x := List.forall_mem_cons.mpr ⟨hv, h⟩
theorem okt {n : Nat} {v : AV} {st : List AV} (h : ∀ x ∈ v :: st, okv n x) : ∀ x ∈ st, okv n x := (List.forall_mem_cons.mp h).2
theorem okx {n : Nat} {v : AV} {st : List AV} (h : ∀ x ∈ v :: st, okv n x) : okv n v := (List.forall_mem_cons.mp h).1
theorem lv_nn (h : ∀ x : Nat, x = x) : True := trivial
variable {M : MI} {mc ms n0 : Nat} {Q : PQ} {ce sl : Nat} {sh : SH} {pc : Nat} {ls : List (Option AV)} {st : List AV} {g z : GG} {r : RR}
theorem R_iload_n {k : Fin 4} {x : Int} (hd : decode M.2.1 pc = .ok (.iload_n k, 1)) (h0 : ls[(k : Nat)]? = some (some (vI x))) (kk : RJ M mc ms n0 Q ce sl sh (pc + 1) ls (vI x :: st) g z r) : RJ M mc ms n0 Q ce sl sh pc ls st g z r := by
  intro p l e s m args below meth cd dC dI cy ad0 ad adK adV A H locs Ls hC hn hd0 hst hW hS hO hl hs hL
  have hx := hC.1
  have hb := hC.2.1
  exact lv_iload_n hx hb hd rfl (lvl_at hL h0) (kk p l e s m args below meth cd dC dI cy ad0 ad adK adV A H locs Ls hC hn hd0 hst hW hS hO hl (okc (hl _ (List.mem_of_getElem? h0)) hs) hL)
theorem R_iload {k : Nat} {x : Int} (hd : decode M.2.1 pc = .ok (.iload k, 2)) (h0 : ls[k]? = some (some (vI x))) (kk : RJ M mc ms n0 Q ce sl sh (pc + 2) ls (vI x :: st) g z r) : RJ M mc ms n0 Q ce sl sh pc ls st g z r := by
  intro p l e s m args below meth cd dC dI cy ad0 ad adK adV A H locs Ls hC hn hd0 hst hW hS hO hl hs hL
  have hx := hC.1
  have hb := hC.2.1
  exact lv_iload hx hb hd (lvl_at hL h0) (kk p l e s m args below meth cd dC dI cy ad0 ad adK adV A H locs Ls hC hn hd0 hst hW hS hO hl (okc (hl _ (List.mem_of_getElem? h0)) hs) hL)
theorem R_lload_n {k : Fin 4} {x : Int} (hd : decode M.2.1 pc = .ok (.lload_n k, 1)) (h0 : ls[(k : Nat)]? = some (some (vL x))) (kk : RJ M mc ms n0 Q ce sl sh (pc + 1) ls (vL x :: st) g z r) : RJ M mc ms n0 Q ce sl sh pc ls st g z r := by
  intro p l e s m args below meth cd dC dI cy ad0 ad adK adV A H locs Ls hC hn hd0 hst hW hS hO hl hs hL
  have hx := hC.1
  have hb := hC.2.1
  exact lv_lload_n hx hb hd rfl (lvl_at hL h0) (kk p l e s m args below meth cd dC dI cy ad0 ad adK adV A H locs Ls hC hn hd0 hst hW hS hO hl (okc (hl _ (List.mem_of_getElem? h0)) hs) hL)
theorem R_lload {k : Nat} {x : Int} (hd : decode M.2.1 pc = .ok (.lload k, 2)) (h0 : ls[k]? = some (some (vL x))) (kk : RJ M mc ms n0 Q ce sl sh (pc + 2) ls (vL x :: st) g z r) : RJ M mc ms n0 Q ce sl sh pc ls st g z r := by
  intro p l e s m args below meth cd dC dI cy ad0 ad adK adV A H locs Ls hC hn hd0 hst hW hS hO hl hs hL
  have hx := hC.1
  have hb := hC.2.1
  exact lv_lload hx hb hd (lvl_at hL h0) (kk p l e s m args below meth cd dC dI cy ad0 ad adK adV A H locs Ls hC hn hd0 hst hW hS hO hl (okc (hl _ (List.mem_of_getElem? h0)) hs) hL)
theorem R_aload_n {k : Fin 4} {x : Option Nat} (hd : decode M.2.1 pc = .ok (.aload_n k, 1)) (h0 : ls[(k : Nat)]? = some (some (vR x))) (kk : RJ M mc ms n0 Q ce sl sh (pc + 1) ls (vR x :: st) g z r) : RJ M mc ms n0 Q ce sl sh pc ls st g z r := by
  intro p l e s m args below meth cd dC dI cy ad0 ad adK adV A H locs Ls hC hn hd0 hst hW hS hO hl hs hL
  have hx := hC.1
  have hb := hC.2.1
  cases x with
  | none => exact lv_aload_nN hx hb hd rfl (lvl_at hL h0) (kk p l e s m args below meth cd dC dI cy ad0 ad adK adV A H locs Ls hC hn hd0 hst hW hS hO hl (okc (hl _ (List.mem_of_getElem? h0)) hs) hL)
  | some a => exact lv_aload_n hx hb hd rfl (lvl_at hL h0) (kk p l e s m args below meth cd dC dI cy ad0 ad adK adV A H locs Ls hC hn hd0 hst hW hS hO hl (okc (hl _ (List.mem_of_getElem? h0)) hs) hL)
theorem R_aload {k : Nat} {x : Option Nat} (hd : decode M.2.1 pc = .ok (.aload k, 2)) (h0 : ls[k]? = some (some (vR x))) (kk : RJ M mc ms n0 Q ce sl sh (pc + 2) ls (vR x :: st) g z r) : RJ M mc ms n0 Q ce sl sh pc ls st g z r := by
  intro p l e s m args below meth cd dC dI cy ad0 ad adK adV A H locs Ls hC hn hd0 hst hW hS hO hl hs hL
  have hx := hC.1
  have hb := hC.2.1
  cases x with
  | none => exact lv_aloadN hx hb hd (lvl_at hL h0) (kk p l e s m args below meth cd dC dI cy ad0 ad adK adV A H locs Ls hC hn hd0 hst hW hS hO hl (okc (hl _ (List.mem_of_getElem? h0)) hs) hL)
  | some a => exact lv_aload hx hb hd (lvl_at hL h0) (kk p l e s m args below meth cd dC dI cy ad0 ad adK adV A H locs Ls hC hn hd0 hst hW hS hO hl (okc (hl _ (List.mem_of_getElem? h0)) hs) hL)
theorem R_istore_n {k : Fin 4} {x : Int} (hd : decode M.2.1 pc = .ok (.istore_n k, 1)) (h0 : (k : Nat) < M.2.2.1) (h1 : nlg ls (k : Nat) = true) (ls' : List (Option AV)) (hls : ls.set (k : Nat) (some (vI x)) = ls') (kk : RJ M mc ms n0 Q ce sl sh (pc + 1) ls' st g z r) : RJ M mc ms n0 Q ce sl sh pc ls (vI x :: st) g z r := by
  subst hls
  intro p l e s m args below meth cd dC dI cy ad0 ad adK adV A H locs Ls hC hn hd0 hst hW hS hO hl hs hL
  have hx := hC.1
  have hb := hC.2.1
  exact lv_istore_n hx hb hd rfl hL h0 rfl (fun Ls' hL' => kk p l e s m args below meth cd dC dI cy ad0 ad adK adV A H locs Ls' hC hn hd0 hst hW hS hO (set_ok hl (fun v hv => by cases hv; exact okx hs)) (okt hs) (lvl_st1 (v := vI x) h1 hL'))
theorem R_istore {k : Nat} {x : Int} (hd : decode M.2.1 pc = .ok (.istore k, 2)) (h0 : k < M.2.2.1) (h1 : nlg ls k = true) (ls' : List (Option AV)) (hls : ls.set k (some (vI x)) = ls') (kk : RJ M mc ms n0 Q ce sl sh (pc + 2) ls' st g z r) : RJ M mc ms n0 Q ce sl sh pc ls (vI x :: st) g z r := by
  subst hls
  intro p l e s m args below meth cd dC dI cy ad0 ad adK adV A H locs Ls hC hn hd0 hst hW hS hO hl hs hL
  have hx := hC.1
  have hb := hC.2.1
  exact lv_istore hx hb hd hL h0 rfl (fun Ls' hL' => kk p l e s m args below meth cd dC dI cy ad0 ad adK adV A H locs Ls' hC hn hd0 hst hW hS hO (set_ok hl (fun v hv => by cases hv; exact okx hs)) (okt hs) (lvl_st1 (v := vI x) h1 hL'))
theorem R_lstore_n {k : Fin 4} {x : Int} (hd : decode M.2.1 pc = .ok (.lstore_n k, 1)) (h0 : (k : Nat) + 1 < M.2.2.1) (h1 : nlg ls (k : Nat) = true) (ls' : List (Option AV)) (hls : (ls.set (k : Nat) (some (vL x))).set ((k : Nat) + 1) none = ls') (kk : RJ M mc ms n0 Q ce sl sh (pc + 1) ls' st g z r) : RJ M mc ms n0 Q ce sl sh pc ls (vL x :: st) g z r := by
  subst hls
  intro p l e s m args below meth cd dC dI cy ad0 ad adK adV A H locs Ls hC hn hd0 hst hW hS hO hl hs hL
  have hx := hC.1
  have hb := hC.2.1
  exact lv_lstore_n hx hb hd rfl hL h0 rfl (fun Ls' hL' => kk p l e s m args below meth cd dC dI cy ad0 ad adK adV A H locs Ls' hC hn hd0 hst hW hS hO (set_ok (set_ok hl (fun v hv => by cases hv; exact okx hs)) (fun v hv => by cases hv)) (okt hs) (lvl_st2 (v := vL x) h1 hL'))
theorem R_lstore {k : Nat} {x : Int} (hd : decode M.2.1 pc = .ok (.lstore k, 2)) (h0 : k + 1 < M.2.2.1) (h1 : nlg ls k = true) (ls' : List (Option AV)) (hls : (ls.set k (some (vL x))).set (k + 1) none = ls') (kk : RJ M mc ms n0 Q ce sl sh (pc + 2) ls' st g z r) : RJ M mc ms n0 Q ce sl sh pc ls (vL x :: st) g z r := by
  subst hls
  intro p l e s m args below meth cd dC dI cy ad0 ad adK adV A H locs Ls hC hn hd0 hst hW hS hO hl hs hL
  have hx := hC.1
  have hb := hC.2.1
  exact lv_lstore hx hb hd hL h0 rfl (fun Ls' hL' => kk p l e s m args below meth cd dC dI cy ad0 ad adK adV A H locs Ls' hC hn hd0 hst hW hS hO (set_ok (set_ok hl (fun v hv => by cases hv; exact okx hs)) (fun v hv => by cases hv)) (okt hs) (lvl_st2 (v := vL x) h1 hL'))
theorem R_astore_n {k : Fin 4} {x : Option Nat} (hd : decode M.2.1 pc = .ok (.astore_n k, 1)) (h0 : (k : Nat) < M.2.2.1) (h1 : nlg ls (k : Nat) = true) (ls' : List (Option AV)) (hls : ls.set (k : Nat) (some (vR x)) = ls') (kk : RJ M mc ms n0 Q ce sl sh (pc + 1) ls' st g z r) : RJ M mc ms n0 Q ce sl sh pc ls (vR x :: st) g z r := by
  subst hls
  intro p l e s m args below meth cd dC dI cy ad0 ad adK adV A H locs Ls hC hn hd0 hst hW hS hO hl hs hL
  have hx := hC.1
  have hb := hC.2.1
  cases x with
  | none => exact lv_astore_nN hx hb hd rfl hL h0 rfl (fun Ls' hL' => kk p l e s m args below meth cd dC dI cy ad0 ad adK adV A H locs Ls' hC hn hd0 hst hW hS hO (set_ok hl (fun v hv => by cases hv; exact okx hs)) (okt hs) (lvl_st1 (v := vR none) h1 hL'))
  | some a => exact lv_astore_n hx hb hd rfl hL h0 rfl (fun Ls' hL' => kk p l e s m args below meth cd dC dI cy ad0 ad adK adV A H locs Ls' hC hn hd0 hst hW hS hO (set_ok hl (fun v hv => by cases hv; exact okx hs)) (okt hs) (lvl_st1 (v := vR (some a)) h1 hL'))
theorem R_astore {k : Nat} {x : Option Nat} (hd : decode M.2.1 pc = .ok (.astore k, 2)) (h0 : k < M.2.2.1) (h1 : nlg ls k = true) (ls' : List (Option AV)) (hls : ls.set k (some (vR x)) = ls') (kk : RJ M mc ms n0 Q ce sl sh (pc + 2) ls' st g z r) : RJ M mc ms n0 Q ce sl sh pc ls (vR x :: st) g z r := by
  subst hls
  intro p l e s m args below meth cd dC dI cy ad0 ad adK adV A H locs Ls hC hn hd0 hst hW hS hO hl hs hL
  have hx := hC.1
  have hb := hC.2.1
  cases x with
  | none => exact lv_astoreN hx hb hd hL h0 rfl (fun Ls' hL' => kk p l e s m args below meth cd dC dI cy ad0 ad adK adV A H locs Ls' hC hn hd0 hst hW hS hO (set_ok hl (fun v hv => by cases hv; exact okx hs)) (okt hs) (lvl_st1 (v := vR none) h1 hL'))
  | some a => exact lv_astore hx hb hd hL h0 rfl (fun Ls' hL' => kk p l e s m args below meth cd dC dI cy ad0 ad adK adV A H locs Ls' hC hn hd0 hst hW hS hO (set_ok hl (fun v hv => by cases hv; exact okx hs)) (okt hs) (lvl_st1 (v := vR (some a)) h1 hL'))
theorem R_iconst {n : Int} (hd : decode M.2.1 pc = .ok (.iconst n, 1)) (h0 : decide (-32768 ≤ n ∧ n < 32768) = true) (h1 : Int32.ofInt n = i32 n) (kk : RJ M mc ms n0 Q ce sl sh (pc + 1) ls (vI n :: st) g z r) : RJ M mc ms n0 Q ce sl sh pc ls st g z r := by
  intro p l e s m args below meth cd dC dI cy ad0 ad adK adV A H locs Ls hC hn hd0 hst hW hS hO hl hs hL
  have hx := hC.1
  have hb := hC.2.1
  have h0 := of_decide_eq_true h0
  exact lv_iconst hx hb hd h1 (kk p l e s m args below meth cd dC dI cy ad0 ad adK adV A H locs Ls hC hn hd0 hst hW hS hO hl (okc (v := vI n) ⟨by omega, by omega⟩ hs) hL)
theorem R_bipush {n : Int} (hd : decode M.2.1 pc = .ok (.bipush n, 2)) (h0 : decide (-32768 ≤ n ∧ n < 32768) = true) (h1 : (Int8.ofInt n).toInt32 = i32 n) (kk : RJ M mc ms n0 Q ce sl sh (pc + 2) ls (vI n :: st) g z r) : RJ M mc ms n0 Q ce sl sh pc ls st g z r := by
  intro p l e s m args below meth cd dC dI cy ad0 ad adK adV A H locs Ls hC hn hd0 hst hW hS hO hl hs hL
  have hx := hC.1
  have hb := hC.2.1
  have h0 := of_decide_eq_true h0
  exact lv_bipush hx hb hd h1 (kk p l e s m args below meth cd dC dI cy ad0 ad adK adV A H locs Ls hC hn hd0 hst hW hS hO hl (okc (v := vI n) ⟨by omega, by omega⟩ hs) hL)
theorem R_sipush {n : Int} (hd : decode M.2.1 pc = .ok (.sipush n, 3)) (h0 : decide (-32768 ≤ n ∧ n < 32768) = true) (h1 : (Int16.ofInt n).toInt32 = i32 n) (kk : RJ M mc ms n0 Q ce sl sh (pc + 3) ls (vI n :: st) g z r) : RJ M mc ms n0 Q ce sl sh pc ls st g z r := by
  intro p l e s m args below meth cd dC dI cy ad0 ad adK adV A H locs Ls hC hn hd0 hst hW hS hO hl hs hL
  have hx := hC.1
  have hb := hC.2.1
  have h0 := of_decide_eq_true h0
  exact lv_sipush hx hb hd h1 (kk p l e s m args below meth cd dC dI cy ad0 ad adK adV A H locs Ls hC hn hd0 hst hW hS hO hl (okc (v := vI n) ⟨by omega, by omega⟩ hs) hL)
theorem R_lconst {n : Fin 2} (hd : decode M.2.1 pc = .ok (.lconst n, 1)) (kk : RJ M mc ms n0 Q ce sl sh (pc + 1) ls (vL ((n : Nat) : Int) :: st) g z r) : RJ M mc ms n0 Q ce sl sh pc ls st g z r := by
  intro p l e s m args below meth cd dC dI cy ad0 ad adK adV A H locs Ls hC hn hd0 hst hW hS hO hl hs hL
  have hx := hC.1
  have hb := hC.2.1
  exact lv_lconst hx hb hd (v := i64 ((n : Nat) : Int)) (by match n with | 0 => rfl | 1 => rfl) (kk p l e s m args below meth cd dC dI cy ad0 ad adK adV A H locs Ls hC hn hd0 hst hW hS hO hl (okc (v := vL ((n : Nat) : Int)) ⟨by omega, by omega⟩ hs) hL)
theorem R_ldc {index : Nat} {v : Int} (hk : Cond.constant M.1.cls index (i32 v) ∈ TB) (hd : decode M.2.1 pc = .ok (.ldc index, 2)) (h0 : decide (-2147483648 ≤ v ∧ v < 2147483648) = true) (kk : RJ M mc ms n0 Q ce sl sh (pc + 2) ls (vI v :: st) g z r) : RJ M mc ms n0 Q ce sl sh pc ls st g z r := by
  intro p l e s m args below meth cd dC dI cy ad0 ad adK adV A H locs Ls hC hn hd0 hst hW hS hO hl hs hL
  have hx := hC.1
  have hb := hC.2.1
  exact lv_ldc hx hb hC.2.2.2.2.2.1 (hC.2.2.2.2.2.2.2.1 _ hk) hd (kk p l e s m args below meth cd dC dI cy ad0 ad adK adV A H locs Ls hC hn hd0 hst hW hS hO hl (okc (v := vI v) (show inI v by have h1 := of_decide_eq_true h0; exact h1) hs) hL)
theorem R_ldc_w {index : Nat} {v : Int} (hk : Cond.constant M.1.cls index (i32 v) ∈ TB) (hd : decode M.2.1 pc = .ok (.ldc_w index, 3)) (h0 : decide (-2147483648 ≤ v ∧ v < 2147483648) = true) (kk : RJ M mc ms n0 Q ce sl sh (pc + 3) ls (vI v :: st) g z r) : RJ M mc ms n0 Q ce sl sh pc ls st g z r := by
  intro p l e s m args below meth cd dC dI cy ad0 ad adK adV A H locs Ls hC hn hd0 hst hW hS hO hl hs hL
  have hx := hC.1
  have hb := hC.2.1
  exact lv_ldcw hx hb hC.2.2.2.2.2.1 (hC.2.2.2.2.2.2.2.1 _ hk) hd (kk p l e s m args below meth cd dC dI cy ad0 ad adK adV A H locs Ls hC hn hd0 hst hW hS hO hl (okc (v := vI v) (show inI v by have h1 := of_decide_eq_true h0; exact h1) hs) hL)
theorem R_ldc2_w {index : Nat} {v : Int} (hk : Cond.constantLong M.1.cls index (i64 v) ∈ TB) (hd : decode M.2.1 pc = .ok (.ldc2_w index, 3)) (h0 : decide (-9223372036854775808 ≤ v ∧ v < 9223372036854775808) = true) (kk : RJ M mc ms n0 Q ce sl sh (pc + 3) ls (vL v :: st) g z r) : RJ M mc ms n0 Q ce sl sh pc ls st g z r := by
  intro p l e s m args below meth cd dC dI cy ad0 ad adK adV A H locs Ls hC hn hd0 hst hW hS hO hl hs hL
  have hx := hC.1
  have hb := hC.2.1
  exact lv_ldc2 hx hb hC.2.2.2.2.2.1 (hC.2.2.2.2.2.2.2.1 _ hk) hd (kk p l e s m args below meth cd dC dI cy ad0 ad adK adV A H locs Ls hC hn hd0 hst hW hS hO hl (okc (v := vL v) (show inL v by have h1 := of_decide_eq_true h0; exact h1) hs) hL)
theorem R_aconst_null (hd : decode M.2.1 pc = .ok (.aconst_null, 1)) (kk : RJ M mc ms n0 Q ce sl sh (pc + 1) ls (vR none :: st) g z r) : RJ M mc ms n0 Q ce sl sh pc ls st g z r := by
  intro p l e s m args below meth cd dC dI cy ad0 ad adK adV A H locs Ls hC hn hd0 hst hW hS hO hl hs hL
  have hx := hC.1
  have hb := hC.2.1
  exact lv_null hx hb hd (kk p l e s m args below meth cd dC dI cy ad0 ad adK adV A H locs Ls hC hn hd0 hst hW hS hO hl (okc (v := vR none) (fun a h => by cases h) hs) hL)
theorem R_iadd {a b : Int} (hd : decode M.2.1 pc = .ok (.iadd, 1)) (kk : RJ M mc ms n0 Q ce sl sh (pc + 1) ls (vI (w32 (a + b)) :: st) g z r) : RJ M mc ms n0 Q ce sl sh pc ls (vI b :: vI a :: st) g z r := by
  intro p l e s m args below meth cd dC dI cy ad0 ad adK adV A H locs Ls hC hn hd0 hst hW hS hO hl hs hL
  have hx := hC.1
  have hb := hC.2.1
  refine lv_iadd hx hb hd ?_
  have h := kk p l e s m args below meth cd dC dI cy ad0 ad adK adV A H locs Ls hC hn hd0 hst hW hS hO hl (okc (v := vI (w32 (a + b))) (w32_in _) (okt (okt hs))) hL
  rw [List.map_cons, show cv ad (vI (w32 (a + b))) = .int (i32 (w32 (a + b))) from rfl, i32_w, i32, Int32.ofInt_add] at h
  exact h
theorem R_isub {a b : Int} (hd : decode M.2.1 pc = .ok (.isub, 1)) (kk : RJ M mc ms n0 Q ce sl sh (pc + 1) ls (vI (w32 (a - b)) :: st) g z r) : RJ M mc ms n0 Q ce sl sh pc ls (vI b :: vI a :: st) g z r := by
  intro p l e s m args below meth cd dC dI cy ad0 ad adK adV A H locs Ls hC hn hd0 hst hW hS hO hl hs hL
  have hx := hC.1
  have hb := hC.2.1
  refine lv_isub hx hb hd ?_
  have h := kk p l e s m args below meth cd dC dI cy ad0 ad adK adV A H locs Ls hC hn hd0 hst hW hS hO hl (okc (v := vI (w32 (a - b))) (w32_in _) (okt (okt hs))) hL
  rw [List.map_cons, show cv ad (vI (w32 (a - b))) = .int (i32 (w32 (a - b))) from rfl, i32_w, i32, Int32.ofInt_sub] at h
  exact h
theorem R_imul {a b : Int} (hd : decode M.2.1 pc = .ok (.imul, 1)) (kk : RJ M mc ms n0 Q ce sl sh (pc + 1) ls (vI (w32 (a * b)) :: st) g z r) : RJ M mc ms n0 Q ce sl sh pc ls (vI b :: vI a :: st) g z r := by
  intro p l e s m args below meth cd dC dI cy ad0 ad adK adV A H locs Ls hC hn hd0 hst hW hS hO hl hs hL
  have hx := hC.1
  have hb := hC.2.1
  refine lv_imul hx hb hd ?_
  have h := kk p l e s m args below meth cd dC dI cy ad0 ad adK adV A H locs Ls hC hn hd0 hst hW hS hO hl (okc (v := vI (w32 (a * b))) (w32_in _) (okt (okt hs))) hL
  rw [List.map_cons, show cv ad (vI (w32 (a * b))) = .int (i32 (w32 (a * b))) from rfl, i32_w, i32, Int32.ofInt_mul] at h
  exact h
theorem R_ineg {a : Int} (hd : decode M.2.1 pc = .ok (.ineg, 1)) (kk : RJ M mc ms n0 Q ce sl sh (pc + 1) ls (vI (w32 (-a)) :: st) g z r) : RJ M mc ms n0 Q ce sl sh pc ls (vI a :: st) g z r := by
  intro p l e s m args below meth cd dC dI cy ad0 ad adK adV A H locs Ls hC hn hd0 hst hW hS hO hl hs hL
  have hx := hC.1
  have hb := hC.2.1
  refine lv_ineg hx hb hd ?_
  have h := kk p l e s m args below meth cd dC dI cy ad0 ad adK adV A H locs Ls hC hn hd0 hst hW hS hO hl (okc (v := vI (w32 (-a))) (w32_in _) (okt hs)) hL
  rw [List.map_cons, show cv ad (vI (w32 (-a))) = .int (i32 (w32 (-a))) from rfl, i32_w, i32, Int32.ofInt_neg] at h
  exact h
theorem R_ladd {a b : Int} (hd : decode M.2.1 pc = .ok (.ladd, 1)) (kk : RJ M mc ms n0 Q ce sl sh (pc + 1) ls (vL (w64 (a + b)) :: st) g z r) : RJ M mc ms n0 Q ce sl sh pc ls (vL b :: vL a :: st) g z r := by
  intro p l e s m args below meth cd dC dI cy ad0 ad adK adV A H locs Ls hC hn hd0 hst hW hS hO hl hs hL
  have hx := hC.1
  have hb := hC.2.1
  refine lv_ladd hx hb hd ?_
  have h := kk p l e s m args below meth cd dC dI cy ad0 ad adK adV A H locs Ls hC hn hd0 hst hW hS hO hl (okc (v := vL (w64 (a + b))) (w64_in _) (okt (okt hs))) hL
  rw [List.map_cons, show cv ad (vL (w64 (a + b))) = .long (i64 (w64 (a + b))) from rfl, i64_w, i64, Int64.ofInt_add] at h
  exact h
def bAnd (a b : Int) : Int := (i32 a &&& i32 b).toInt
def bOr (a b : Int) : Int := (i32 a ||| i32 b).toInt
def bXor (a b : Int) : Int := (i32 a ^^^ i32 b).toInt
def bShl (a b : Int) : Int := (i32 a <<< (i32 b &&& 31)).toInt
def bShr (a b : Int) : Int := (i32 a >>> (i32 b &&& 31)).toInt
def bDiv (a b : Int) : Int := (i32 a / i32 b).toInt
def bRem (a b : Int) : Int := (i32 a - i32 a / i32 b * i32 b).toInt
theorem R_iand {a b : Int} (hd : decode M.2.1 pc = .ok (.iand, 1)) (kk : RJ M mc ms n0 Q ce sl sh (pc + 1) ls (vI (bAnd a b) :: st) g z r) : RJ M mc ms n0 Q ce sl sh pc ls (vI b :: vI a :: st) g z r := by
  intro p l e s m args below meth cd dC dI cy ad0 ad adK adV A H locs Ls hC hn hd0 hst hW hS hO hl hs hL
  have hx := hC.1
  have hb := hC.2.1
  refine lv_iand hx hb hd ?_
  have h := kk p l e s m args below meth cd dC dI cy ad0 ad adK adV A H locs Ls hC hn hd0 hst hW hS hO hl (okc (v := vI (bAnd a b)) (in32 _) (okt (okt hs))) hL
  rw [List.map_cons, show cv ad (vI (bAnd a b)) = .int (i32 (bAnd a b)) from rfl, bAnd, o32] at h
  exact h
theorem R_ior {a b : Int} (hd : decode M.2.1 pc = .ok (.ior, 1)) (kk : RJ M mc ms n0 Q ce sl sh (pc + 1) ls (vI (bOr a b) :: st) g z r) : RJ M mc ms n0 Q ce sl sh pc ls (vI b :: vI a :: st) g z r := by
  intro p l e s m args below meth cd dC dI cy ad0 ad adK adV A H locs Ls hC hn hd0 hst hW hS hO hl hs hL
  have hx := hC.1
  have hb := hC.2.1
  refine lv_ior hx hb hd ?_
  have h := kk p l e s m args below meth cd dC dI cy ad0 ad adK adV A H locs Ls hC hn hd0 hst hW hS hO hl (okc (v := vI (bOr a b)) (in32 _) (okt (okt hs))) hL
  rw [List.map_cons, show cv ad (vI (bOr a b)) = .int (i32 (bOr a b)) from rfl, bOr, o32] at h
  exact h
theorem R_ixor {a b : Int} (hd : decode M.2.1 pc = .ok (.ixor, 1)) (kk : RJ M mc ms n0 Q ce sl sh (pc + 1) ls (vI (bXor a b) :: st) g z r) : RJ M mc ms n0 Q ce sl sh pc ls (vI b :: vI a :: st) g z r := by
  intro p l e s m args below meth cd dC dI cy ad0 ad adK adV A H locs Ls hC hn hd0 hst hW hS hO hl hs hL
  have hx := hC.1
  have hb := hC.2.1
  refine lv_ixor hx hb hd ?_
  have h := kk p l e s m args below meth cd dC dI cy ad0 ad adK adV A H locs Ls hC hn hd0 hst hW hS hO hl (okc (v := vI (bXor a b)) (in32 _) (okt (okt hs))) hL
  rw [List.map_cons, show cv ad (vI (bXor a b)) = .int (i32 (bXor a b)) from rfl, bXor, o32] at h
  exact h
theorem R_ishl {a b : Int} (hd : decode M.2.1 pc = .ok (.ishl, 1)) (kk : RJ M mc ms n0 Q ce sl sh (pc + 1) ls (vI (bShl a b) :: st) g z r) : RJ M mc ms n0 Q ce sl sh pc ls (vI b :: vI a :: st) g z r := by
  intro p l e s m args below meth cd dC dI cy ad0 ad adK adV A H locs Ls hC hn hd0 hst hW hS hO hl hs hL
  have hx := hC.1
  have hb := hC.2.1
  refine lv_ishl hx hb hd ?_
  have h := kk p l e s m args below meth cd dC dI cy ad0 ad adK adV A H locs Ls hC hn hd0 hst hW hS hO hl (okc (v := vI (bShl a b)) (in32 _) (okt (okt hs))) hL
  rw [List.map_cons, show cv ad (vI (bShl a b)) = .int (i32 (bShl a b)) from rfl, bShl, o32] at h
  exact h
theorem R_ishr {a b : Int} (hd : decode M.2.1 pc = .ok (.ishr, 1)) (kk : RJ M mc ms n0 Q ce sl sh (pc + 1) ls (vI (bShr a b) :: st) g z r) : RJ M mc ms n0 Q ce sl sh pc ls (vI b :: vI a :: st) g z r := by
  intro p l e s m args below meth cd dC dI cy ad0 ad adK adV A H locs Ls hC hn hd0 hst hW hS hO hl hs hL
  have hx := hC.1
  have hb := hC.2.1
  refine lv_ishr hx hb hd ?_
  have h := kk p l e s m args below meth cd dC dI cy ad0 ad adK adV A H locs Ls hC hn hd0 hst hW hS hO hl (okc (v := vI (bShr a b)) (in32 _) (okt (okt hs))) hL
  rw [List.map_cons, show cv ad (vI (bShr a b)) = .int (i32 (bShr a b)) from rfl, bShr, o32] at h
  exact h
theorem R_idiv {a b : Int} (hd : decode M.2.1 pc = .ok (.idiv, 1)) (hne : b ≠ 0) (kk : RJ M mc ms n0 Q ce sl sh (pc + 1) ls (vI (bDiv a b) :: st) g z r) : RJ M mc ms n0 Q ce sl sh pc ls (vI b :: vI a :: st) g z r := by
  intro p l e s m args below meth cd dC dI cy ad0 ad adK adV A H locs Ls hC hn hd0 hst hW hS hO hl hs hL
  have hx := hC.1
  have hb := hC.2.1
  refine lv_idiv hx hb hd (fun q => hne ((i32_eq (okx hs) inI0).mp q)) ?_
  have h := kk p l e s m args below meth cd dC dI cy ad0 ad adK adV A H locs Ls hC hn hd0 hst hW hS hO hl (okc (v := vI (bDiv a b)) (in32 _) (okt (okt hs))) hL
  rw [List.map_cons, show cv ad (vI (bDiv a b)) = .int (i32 (bDiv a b)) from rfl, bDiv, o32] at h
  exact h
theorem R_irem {a b : Int} (hd : decode M.2.1 pc = .ok (.irem, 1)) (hne : b ≠ 0) (kk : RJ M mc ms n0 Q ce sl sh (pc + 1) ls (vI (bRem a b) :: st) g z r) : RJ M mc ms n0 Q ce sl sh pc ls (vI b :: vI a :: st) g z r := by
  intro p l e s m args below meth cd dC dI cy ad0 ad adK adV A H locs Ls hC hn hd0 hst hW hS hO hl hs hL
  have hx := hC.1
  have hb := hC.2.1
  refine lv_irem hx hb hd (fun q => hne ((i32_eq (okx hs) inI0).mp q)) ?_
  have h := kk p l e s m args below meth cd dC dI cy ad0 ad adK adV A H locs Ls hC hn hd0 hst hW hS hO hl (okc (v := vI (bRem a b)) (in32 _) (okt (okt hs))) hL
  rw [List.map_cons, show cv ad (vI (bRem a b)) = .int (i32 (bRem a b)) from rfl, bRem, o32] at h
  exact h
theorem R_i2l {a : Int} (hd : decode M.2.1 pc = .ok (.i2l, 1)) (kk : RJ M mc ms n0 Q ce sl sh (pc + 1) ls (vL a :: st) g z r) : RJ M mc ms n0 Q ce sl sh pc ls (vI a :: st) g z r := by
  intro p l e s m args below meth cd dC dI cy ad0 ad adK adV A H locs Ls hC hn hd0 hst hW hS hO hl hs hL
  have hx := hC.1
  have hb := hC.2.1
  have ha : inI a := okx hs
  have hL2 : inL a := by unfold inI at ha; unfold inL; omega
  exact lv_i2l hx hb hd (v := i64 a) (by rw [← Int64.toInt_inj, t64 hL2, Int32.toInt_toInt64, t32 ha]) (kk p l e s m args below meth cd dC dI cy ad0 ad adK adV A H locs Ls hC hn hd0 hst hW hS hO hl (okc (v := vL a) hL2 (okt hs)) hL)
def b8 (a : Int) : Int := (i32 a).toInt8.toInt32.toInt
def b16 (a : Int) : Int := ((i32 a).toUInt32 % 65536).toInt32.toInt
theorem R_i2b {a : Int} (hd : decode M.2.1 pc = .ok (.i2b, 1)) (kk : RJ M mc ms n0 Q ce sl sh (pc + 1) ls (vI (b8 a) :: st) g z r) : RJ M mc ms n0 Q ce sl sh pc ls (vI a :: st) g z r := by
  intro p l e s m args below meth cd dC dI cy ad0 ad adK adV A H locs Ls hC hn hd0 hst hW hS hO hl hs hL
  have hx := hC.1
  have hb := hC.2.1
  exact lv_i2b hx hb hd (v := i32 (b8 a)) (by rw [b8, o32]) (kk p l e s m args below meth cd dC dI cy ad0 ad adK adV A H locs Ls hC hn hd0 hst hW hS hO hl (okc (v := vI (b8 a)) (in32 _) (okt hs)) hL)
theorem R_i2c {a : Int} (hd : decode M.2.1 pc = .ok (.i2c, 1)) (kk : RJ M mc ms n0 Q ce sl sh (pc + 1) ls (vI (b16 a) :: st) g z r) : RJ M mc ms n0 Q ce sl sh pc ls (vI a :: st) g z r := by
  intro p l e s m args below meth cd dC dI cy ad0 ad adK adV A H locs Ls hC hn hd0 hst hW hS hO hl hs hL
  have hx := hC.1
  have hb := hC.2.1
  exact lv_i2c hx hb hd (v := i32 (b16 a)) (by rw [b16, o32]) (kk p l e s m args below meth cd dC dI cy ad0 ad adK adV A H locs Ls hC hn hd0 hst hW hS hO hl (okc (v := vI (b16 a)) (in32 _) (okt hs)) hL)
def lcm (a b : Int) : Int := if b < a then 1 else if a = b then 0 else -1
theorem R_lcmp {a b : Int} (hd : decode M.2.1 pc = .ok (.lcmp, 1)) (kk : RJ M mc ms n0 Q ce sl sh (pc + 1) ls (vI (lcm a b) :: st) g z r) : RJ M mc ms n0 Q ce sl sh pc ls (vL b :: vL a :: st) g z r := by
  intro p l e s m args below meth cd dC dI cy ad0 ad adK adV A H locs Ls hC hn hd0 hst hW hS hO hl hs hL
  have hx := hC.1
  have hb := hC.2.1
  have hb1 : inL b := okx hs
  have ha1 : inL a := okx (okt hs)
  refine W.lcmp hx hb hd ?_
  have ee : lg_cmp (i64 a) (i64 b) = i32 (lcm a b) := by
    unfold lg_cmp lcm
    have q1 : i64 b < i64 a ↔ b < a := by rw [Int64.lt_iff_toInt_lt, t64 ha1, t64 hb1]
    have q2 : i64 a = i64 b ↔ a = b := by rw [← Int64.toInt_inj, t64 ha1, t64 hb1]
    simp only [GT.gt, q1, q2]
    split
    · rfl
    · split <;> rfl
  rw [ee]
  exact kk p l e s m args below meth cd dC dI cy ad0 ad adK adV A H locs Ls hC hn hd0 hst hW hS hO hl (okc (v := vI (lcm a b)) (show inI (lcm a b) by unfold lcm inI; split; omega; split <;> omega) (okt (okt hs))) hL
theorem R_dup {v : AV} (hd : decode M.2.1 pc = .ok (.dup, 1)) (h0 : ∀ x, v ≠ vL x) (kk : RJ M mc ms n0 Q ce sl sh (pc + 1) ls (v :: v :: st) g z r) : RJ M mc ms n0 Q ce sl sh pc ls (v :: st) g z r := by
  intro p l e s m args below meth cd dC dI cy ad0 ad adK adV A H locs Ls hC hn hd0 hst hW hS hO hl hs hL
  have hx := hC.1
  have hb := hC.2.1
  exact lv_dup hx hb hd (by rcases lv_cat (cv ad v) with q | q; exact q; exact absurd (cv_cat q).choose_spec (h0 _)) (kk p l e s m args below meth cd dC dI cy ad0 ad adK adV A H locs Ls hC hn hd0 hst hW hS hO hl (okc (okx hs) hs) hL)
theorem R_pop {v : AV} (hd : decode M.2.1 pc = .ok (.pop, 1)) (h0 : ∀ x, v ≠ vL x) (kk : RJ M mc ms n0 Q ce sl sh (pc + 1) ls st g z r) : RJ M mc ms n0 Q ce sl sh pc ls (v :: st) g z r := by
  intro p l e s m args below meth cd dC dI cy ad0 ad adK adV A H locs Ls hC hn hd0 hst hW hS hO hl hs hL
  have hx := hC.1
  have hb := hC.2.1
  exact lv_pop hx hb hd (by rcases lv_cat (cv ad v) with q | q; exact q; exact absurd (cv_cat q).choose_spec (h0 _)) (kk p l e s m args below meth cd dC dI cy ad0 ad adK adV A H locs Ls hC hn hd0 hst hW hS hO hl (okt hs) hL)
theorem R_dup2 {v w : AV} (hd : decode M.2.1 pc = .ok (.dup2, 1)) (h0 : ∀ x, v ≠ vL x) (h1 : ∀ x, w ≠ vL x) (kk : RJ M mc ms n0 Q ce sl sh (pc + 1) ls (v :: w :: v :: w :: st) g z r) : RJ M mc ms n0 Q ce sl sh pc ls (v :: w :: st) g z r := by
  intro p l e s m args below meth cd dC dI cy ad0 ad adK adV A H locs Ls hC hn hd0 hst hW hS hO hl hs hL
  have hx := hC.1
  have hb := hC.2.1
  exact lv_dup2_11 hx hb hd (by rcases lv_cat (cv ad v) with q | q; exact q; exact absurd (cv_cat q).choose_spec (h0 _)) (by rcases lv_cat (cv ad w) with q | q; exact q; exact absurd (cv_cat q).choose_spec (h1 _)) (kk p l e s m args below meth cd dC dI cy ad0 ad adK adV A H locs Ls hC hn hd0 hst hW hS hO hl (okc (okx hs) (okc (okx (okt hs)) hs)) hL)
theorem R_iinc {k : Nat} {n x : Int} (hd : decode M.2.1 pc = .ok (.iinc k n, 3)) (h0 : ls[k]? = some (some (vI x))) (h2 : k < M.2.2.1) (h1 : nlg ls k = true) (ls' : List (Option AV)) (hls : ls.set k (some (vI (w32 (x + n)))) = ls') (kk : RJ M mc ms n0 Q ce sl sh (pc + 3) ls' st g z r) : RJ M mc ms n0 Q ce sl sh pc ls st g z r := by
  subst hls
  intro p l e s m args below meth cd dC dI cy ad0 ad adK adV A H locs Ls hC hn hd0 hst hW hS hO hl hs hL
  have hx := hC.1
  have hb := hC.2.1
  have hm : (k, cv ad (vI x)) ∈ lvl ad ls := lvl_mem.mpr ⟨k, vI x, h0, rfl⟩
  obtain ⟨j, hj⟩ := List.getElem?_of_mem hm
  exact lv_iinc hx hb hd hL hj (v := i32 (w32 (x + n))) (by rw [i32_w, i32, i32, Int32.ofInt_add]) h2 rfl (fun Ls' hL' => kk p l e s m args below meth cd dC dI cy ad0 ad adK adV A H locs Ls' hC hn hd0 hst hW hS hO (set_ok hl (fun v hv => by cases hv; exact w32_in _)) hs (lvl_st1 (v := vI (w32 (x + n))) h1 hL'))
theorem R_icmp_eq {a b off : Int} (tgt : Nat) (hd : decode M.2.1 pc = .ok (.if_icmp .eq off, 3)) (ht : (pc : Int) + off = (tgt : Int)) (kt : a = b → RJ M mc ms n0 Q ce sl sh tgt ls st g z r) (kf : ¬ (a = b) → RJ M mc ms n0 Q ce sl sh (pc + 3) ls st g z r) : RJ M mc ms n0 Q ce sl sh pc ls (vI b :: vI a :: st) g z r := by
  intro p l e s m args below meth cd dC dI cy ad0 ad adK adV A H locs Ls hC hn hd0 hst hW hS hO hl hs hL
  have hx := hC.1
  have hb := hC.2.1
  have hq := i32_eq (okx (okt hs)) (okx hs)
  exact lv_icmp_eq hx hb hd ht (fun q => kt (hq.mp q) p l e s m args below meth cd dC dI cy ad0 ad adK adV A H locs Ls hC hn hd0 hst hW hS hO hl (okt (okt hs)) hL) (fun q => kf (fun w => q (hq.mpr w)) p l e s m args below meth cd dC dI cy ad0 ad adK adV A H locs Ls hC hn hd0 hst hW hS hO hl (okt (okt hs)) hL)
theorem R_icmp_ne {a b off : Int} (tgt : Nat) (hd : decode M.2.1 pc = .ok (.if_icmp .ne off, 3)) (ht : (pc : Int) + off = (tgt : Int)) (kt : a ≠ b → RJ M mc ms n0 Q ce sl sh tgt ls st g z r) (kf : a = b → RJ M mc ms n0 Q ce sl sh (pc + 3) ls st g z r) : RJ M mc ms n0 Q ce sl sh pc ls (vI b :: vI a :: st) g z r := by
  intro p l e s m args below meth cd dC dI cy ad0 ad adK adV A H locs Ls hC hn hd0 hst hW hS hO hl hs hL
  have hx := hC.1
  have hb := hC.2.1
  have hq := not_congr (i32_eq (okx (okt hs)) (okx hs))
  exact lv_icmp_ne hx hb hd ht (fun q => kt (hq.mp q) p l e s m args below meth cd dC dI cy ad0 ad adK adV A H locs Ls hC hn hd0 hst hW hS hO hl (okt (okt hs)) hL) (fun q => kf ((i32_eq (okx (okt hs)) (okx hs)).mp q) p l e s m args below meth cd dC dI cy ad0 ad adK adV A H locs Ls hC hn hd0 hst hW hS hO hl (okt (okt hs)) hL)
theorem R_icmp_lt {a b off : Int} (tgt : Nat) (hd : decode M.2.1 pc = .ok (.if_icmp .lt off, 3)) (ht : (pc : Int) + off = (tgt : Int)) (kt : a < b → RJ M mc ms n0 Q ce sl sh tgt ls st g z r) (kf : ¬ (a < b) → RJ M mc ms n0 Q ce sl sh (pc + 3) ls st g z r) : RJ M mc ms n0 Q ce sl sh pc ls (vI b :: vI a :: st) g z r := by
  intro p l e s m args below meth cd dC dI cy ad0 ad adK adV A H locs Ls hC hn hd0 hst hW hS hO hl hs hL
  have hx := hC.1
  have hb := hC.2.1
  have hq := i32_lt (okx (okt hs)) (okx hs)
  exact lv_icmp_lt hx hb hd ht (fun q => kt (hq.mp q) p l e s m args below meth cd dC dI cy ad0 ad adK adV A H locs Ls hC hn hd0 hst hW hS hO hl (okt (okt hs)) hL) (fun q => kf (fun w => q (hq.mpr w)) p l e s m args below meth cd dC dI cy ad0 ad adK adV A H locs Ls hC hn hd0 hst hW hS hO hl (okt (okt hs)) hL)
theorem R_icmp_ge {a b off : Int} (tgt : Nat) (hd : decode M.2.1 pc = .ok (.if_icmp .ge off, 3)) (ht : (pc : Int) + off = (tgt : Int)) (kt : b ≤ a → RJ M mc ms n0 Q ce sl sh tgt ls st g z r) (kf : ¬ (b ≤ a) → RJ M mc ms n0 Q ce sl sh (pc + 3) ls st g z r) : RJ M mc ms n0 Q ce sl sh pc ls (vI b :: vI a :: st) g z r := by
  intro p l e s m args below meth cd dC dI cy ad0 ad adK adV A H locs Ls hC hn hd0 hst hW hS hO hl hs hL
  have hx := hC.1
  have hb := hC.2.1
  have hq := i32_le (okx hs) (okx (okt hs))
  exact lv_icmp_ge hx hb hd ht (fun q => kt (hq.mp q) p l e s m args below meth cd dC dI cy ad0 ad adK adV A H locs Ls hC hn hd0 hst hW hS hO hl (okt (okt hs)) hL) (fun q => kf (fun w => q (hq.mpr w)) p l e s m args below meth cd dC dI cy ad0 ad adK adV A H locs Ls hC hn hd0 hst hW hS hO hl (okt (okt hs)) hL)
theorem R_icmp_gt {a b off : Int} (tgt : Nat) (hd : decode M.2.1 pc = .ok (.if_icmp .gt off, 3)) (ht : (pc : Int) + off = (tgt : Int)) (kt : b < a → RJ M mc ms n0 Q ce sl sh tgt ls st g z r) (kf : ¬ (b < a) → RJ M mc ms n0 Q ce sl sh (pc + 3) ls st g z r) : RJ M mc ms n0 Q ce sl sh pc ls (vI b :: vI a :: st) g z r := by
  intro p l e s m args below meth cd dC dI cy ad0 ad adK adV A H locs Ls hC hn hd0 hst hW hS hO hl hs hL
  have hx := hC.1
  have hb := hC.2.1
  have hq := i32_lt (okx hs) (okx (okt hs))
  exact lv_icmp_gt hx hb hd ht (fun q => kt (hq.mp q) p l e s m args below meth cd dC dI cy ad0 ad adK adV A H locs Ls hC hn hd0 hst hW hS hO hl (okt (okt hs)) hL) (fun q => kf (fun w => q (hq.mpr w)) p l e s m args below meth cd dC dI cy ad0 ad adK adV A H locs Ls hC hn hd0 hst hW hS hO hl (okt (okt hs)) hL)
theorem R_icmp_le {a b off : Int} (tgt : Nat) (hd : decode M.2.1 pc = .ok (.if_icmp .le off, 3)) (ht : (pc : Int) + off = (tgt : Int)) (kt : a ≤ b → RJ M mc ms n0 Q ce sl sh tgt ls st g z r) (kf : ¬ (a ≤ b) → RJ M mc ms n0 Q ce sl sh (pc + 3) ls st g z r) : RJ M mc ms n0 Q ce sl sh pc ls (vI b :: vI a :: st) g z r := by
  intro p l e s m args below meth cd dC dI cy ad0 ad adK adV A H locs Ls hC hn hd0 hst hW hS hO hl hs hL
  have hx := hC.1
  have hb := hC.2.1
  have hq := i32_le (okx (okt hs)) (okx hs)
  exact lv_icmp_le hx hb hd ht (fun q => kt (hq.mp q) p l e s m args below meth cd dC dI cy ad0 ad adK adV A H locs Ls hC hn hd0 hst hW hS hO hl (okt (okt hs)) hL) (fun q => kf (fun w => q (hq.mpr w)) p l e s m args below meth cd dC dI cy ad0 ad adK adV A H locs Ls hC hn hd0 hst hW hS hO hl (okt (okt hs)) hL)
theorem R_if_eq {a off : Int} (tgt : Nat) (hd : decode M.2.1 pc = .ok (.ifCond .eq off, 3)) (ht : (pc : Int) + off = (tgt : Int)) (kt : a = 0 → RJ M mc ms n0 Q ce sl sh tgt ls st g z r) (kf : ¬ (a = 0) → RJ M mc ms n0 Q ce sl sh (pc + 3) ls st g z r) : RJ M mc ms n0 Q ce sl sh pc ls (vI a :: st) g z r := by
  intro p l e s m args below meth cd dC dI cy ad0 ad adK adV A H locs Ls hC hn hd0 hst hW hS hO hl hs hL
  have hx := hC.1
  have hb := hC.2.1
  have hq := i32_eq (okx hs) inI0
  exact lv_if_eq hx hb hd ht (fun q => kt (hq.mp q) p l e s m args below meth cd dC dI cy ad0 ad adK adV A H locs Ls hC hn hd0 hst hW hS hO hl (okt hs) hL) (fun q => kf (fun w => q (hq.mpr w)) p l e s m args below meth cd dC dI cy ad0 ad adK adV A H locs Ls hC hn hd0 hst hW hS hO hl (okt hs) hL)
theorem R_if_ne {a off : Int} (tgt : Nat) (hd : decode M.2.1 pc = .ok (.ifCond .ne off, 3)) (ht : (pc : Int) + off = (tgt : Int)) (kt : a ≠ 0 → RJ M mc ms n0 Q ce sl sh tgt ls st g z r) (kf : a = 0 → RJ M mc ms n0 Q ce sl sh (pc + 3) ls st g z r) : RJ M mc ms n0 Q ce sl sh pc ls (vI a :: st) g z r := by
  intro p l e s m args below meth cd dC dI cy ad0 ad adK adV A H locs Ls hC hn hd0 hst hW hS hO hl hs hL
  have hx := hC.1
  have hb := hC.2.1
  have hq := not_congr (i32_eq (okx hs) inI0)
  exact lv_if_ne hx hb hd ht (fun q => kt (hq.mp q) p l e s m args below meth cd dC dI cy ad0 ad adK adV A H locs Ls hC hn hd0 hst hW hS hO hl (okt hs) hL) (fun q => kf ((i32_eq (okx hs) inI0).mp q) p l e s m args below meth cd dC dI cy ad0 ad adK adV A H locs Ls hC hn hd0 hst hW hS hO hl (okt hs) hL)
theorem R_if_lt {a off : Int} (tgt : Nat) (hd : decode M.2.1 pc = .ok (.ifCond .lt off, 3)) (ht : (pc : Int) + off = (tgt : Int)) (kt : a < 0 → RJ M mc ms n0 Q ce sl sh tgt ls st g z r) (kf : ¬ (a < 0) → RJ M mc ms n0 Q ce sl sh (pc + 3) ls st g z r) : RJ M mc ms n0 Q ce sl sh pc ls (vI a :: st) g z r := by
  intro p l e s m args below meth cd dC dI cy ad0 ad adK adV A H locs Ls hC hn hd0 hst hW hS hO hl hs hL
  have hx := hC.1
  have hb := hC.2.1
  have hq := i32_lt (okx hs) inI0
  exact lv_if_lt hx hb hd ht (fun q => kt (hq.mp q) p l e s m args below meth cd dC dI cy ad0 ad adK adV A H locs Ls hC hn hd0 hst hW hS hO hl (okt hs) hL) (fun q => kf (fun w => q (hq.mpr w)) p l e s m args below meth cd dC dI cy ad0 ad adK adV A H locs Ls hC hn hd0 hst hW hS hO hl (okt hs) hL)
theorem R_if_ge {a off : Int} (tgt : Nat) (hd : decode M.2.1 pc = .ok (.ifCond .ge off, 3)) (ht : (pc : Int) + off = (tgt : Int)) (kt : 0 ≤ a → RJ M mc ms n0 Q ce sl sh tgt ls st g z r) (kf : ¬ (0 ≤ a) → RJ M mc ms n0 Q ce sl sh (pc + 3) ls st g z r) : RJ M mc ms n0 Q ce sl sh pc ls (vI a :: st) g z r := by
  intro p l e s m args below meth cd dC dI cy ad0 ad adK adV A H locs Ls hC hn hd0 hst hW hS hO hl hs hL
  have hx := hC.1
  have hb := hC.2.1
  have hq := i32_le inI0 (okx hs)
  exact lv_if_ge hx hb hd ht (fun q => kt (hq.mp q) p l e s m args below meth cd dC dI cy ad0 ad adK adV A H locs Ls hC hn hd0 hst hW hS hO hl (okt hs) hL) (fun q => kf (fun w => q (hq.mpr w)) p l e s m args below meth cd dC dI cy ad0 ad adK adV A H locs Ls hC hn hd0 hst hW hS hO hl (okt hs) hL)
theorem R_if_gt {a off : Int} (tgt : Nat) (hd : decode M.2.1 pc = .ok (.ifCond .gt off, 3)) (ht : (pc : Int) + off = (tgt : Int)) (kt : 0 < a → RJ M mc ms n0 Q ce sl sh tgt ls st g z r) (kf : ¬ (0 < a) → RJ M mc ms n0 Q ce sl sh (pc + 3) ls st g z r) : RJ M mc ms n0 Q ce sl sh pc ls (vI a :: st) g z r := by
  intro p l e s m args below meth cd dC dI cy ad0 ad adK adV A H locs Ls hC hn hd0 hst hW hS hO hl hs hL
  have hx := hC.1
  have hb := hC.2.1
  have hq := i32_lt inI0 (okx hs)
  exact lv_if_gt hx hb hd ht (fun q => kt (hq.mp q) p l e s m args below meth cd dC dI cy ad0 ad adK adV A H locs Ls hC hn hd0 hst hW hS hO hl (okt hs) hL) (fun q => kf (fun w => q (hq.mpr w)) p l e s m args below meth cd dC dI cy ad0 ad adK adV A H locs Ls hC hn hd0 hst hW hS hO hl (okt hs) hL)
theorem R_if_le {a off : Int} (tgt : Nat) (hd : decode M.2.1 pc = .ok (.ifCond .le off, 3)) (ht : (pc : Int) + off = (tgt : Int)) (kt : a ≤ 0 → RJ M mc ms n0 Q ce sl sh tgt ls st g z r) (kf : ¬ (a ≤ 0) → RJ M mc ms n0 Q ce sl sh (pc + 3) ls st g z r) : RJ M mc ms n0 Q ce sl sh pc ls (vI a :: st) g z r := by
  intro p l e s m args below meth cd dC dI cy ad0 ad adK adV A H locs Ls hC hn hd0 hst hW hS hO hl hs hL
  have hx := hC.1
  have hb := hC.2.1
  have hq := i32_le (okx hs) inI0
  exact lv_if_le hx hb hd ht (fun q => kt (hq.mp q) p l e s m args below meth cd dC dI cy ad0 ad adK adV A H locs Ls hC hn hd0 hst hW hS hO hl (okt hs) hL) (fun q => kf (fun w => q (hq.mpr w)) p l e s m args below meth cd dC dI cy ad0 ad adK adV A H locs Ls hC hn hd0 hst hW hS hO hl (okt hs) hL)
theorem R_goto {off : Int} (tgt : Nat) (hd : decode M.2.1 pc = .ok (.goto off, 3)) (ht : (pc : Int) + off = (tgt : Int)) (kk : RJ M mc ms n0 Q ce sl sh tgt ls st g z r) : RJ M mc ms n0 Q ce sl sh pc ls st g z r := by
  intro p l e s m args below meth cd dC dI cy ad0 ad adK adV A H locs Ls hC hn hd0 hst hW hS hO hl hs hL
  have hx := hC.1
  have hb := hC.2.1
  exact lv_goto hx hb hd ht (kk p l e s m args below meth cd dC dI cy ad0 ad adK adV A H locs Ls hC hn hd0 hst hW hS hO hl hs hL)
theorem R_ifnull {a : Option Nat} {off : Int} (tgt : Nat) (hd : decode M.2.1 pc = .ok (.ifnull off, 3)) (ht : (pc : Int) + off = (tgt : Int)) (kt : a = none → RJ M mc ms n0 Q ce sl sh tgt ls st g z r) (kf : ∀ x, a = some x → RJ M mc ms n0 Q ce sl sh (pc + 3) ls st g z r) : RJ M mc ms n0 Q ce sl sh pc ls (vR a :: st) g z r := by
  intro p l e s m args below meth cd dC dI cy ad0 ad adK adV A H locs Ls hC hn hd0 hst hW hS hO hl hs hL
  have hx := hC.1
  have hb := hC.2.1
  cases a with
  | none => exact lv_ifnullN hx hb hd ht (kt rfl p l e s m args below meth cd dC dI cy ad0 ad adK adV A H locs Ls hC hn hd0 hst hW hS hO hl (okt hs) hL)
  | some x => exact lv_ifnull hx hb hd (kf x rfl p l e s m args below meth cd dC dI cy ad0 ad adK adV A H locs Ls hC hn hd0 hst hW hS hO hl (okt hs) hL)
theorem R_ifnonnull {a : Option Nat} {off : Int} (tgt : Nat) (hd : decode M.2.1 pc = .ok (.ifnonnull off, 3)) (ht : (pc : Int) + off = (tgt : Int)) (kt : ∀ x, a = some x → RJ M mc ms n0 Q ce sl sh tgt ls st g z r) (kf : a = none → RJ M mc ms n0 Q ce sl sh (pc + 3) ls st g z r) : RJ M mc ms n0 Q ce sl sh pc ls (vR a :: st) g z r := by
  intro p l e s m args below meth cd dC dI cy ad0 ad adK adV A H locs Ls hC hn hd0 hst hW hS hO hl hs hL
  have hx := hC.1
  have hb := hC.2.1
  cases a with
  | none => exact lv_ifnonnullN hx hb hd (kf rfl p l e s m args below meth cd dC dI cy ad0 ad adK adV A H locs Ls hC hn hd0 hst hW hS hO hl (okt hs) hL)
  | some x => exact lv_ifnonnull hx hb hd ht (kt x rfl p l e s m args below meth cd dC dI cy ad0 ad adK adV A H locs Ls hC hn hd0 hst hW hS hO hl (okt hs) hL)
theorem R_tsIn {dflt lo hi a off : Int} {offs : Array Int} {len : Nat} (tgt : Nat) (hd : decode M.2.1 pc = .ok (.tableswitch dflt lo hi offs, len)) (h1 : lo ≤ a) (h2 : a ≤ hi) (ho : offs[(a - lo).toNat]? = some off) (ht : (pc : Int) + off = (tgt : Int)) (kk : RJ M mc ms n0 Q ce sl sh tgt ls st g z r) : RJ M mc ms n0 Q ce sl sh pc ls (vI a :: st) g z r := by
  intro p l e s m args below meth cd dC dI cy ad0 ad adK adV A H locs Ls hC hn hd0 hst hW hS hO hl hs hL
  have hx := hC.1
  have hb := hC.2.1
  have ha : (i32 a).toInt = a := t32 (okx hs)
  exact lv_tableIn hx hb hd (by rw [ha]; omega) (by rw [ha]; omega) (by rw [ha]; exact ho) ht (kk p l e s m args below meth cd dC dI cy ad0 ad adK adV A H locs Ls hC hn hd0 hst hW hS hO hl (okt hs) hL)
theorem R_tsOut {dflt lo hi a : Int} {offs : Array Int} {len : Nat} (tgt : Nat) (hd : decode M.2.1 pc = .ok (.tableswitch dflt lo hi offs, len)) (h1 : a < lo ∨ hi < a) (ht : (pc : Int) + dflt = (tgt : Int)) (kk : RJ M mc ms n0 Q ce sl sh tgt ls st g z r) : RJ M mc ms n0 Q ce sl sh pc ls (vI a :: st) g z r := by
  intro p l e s m args below meth cd dC dI cy ad0 ad adK adV A H locs Ls hC hn hd0 hst hW hS hO hl hs hL
  have hx := hC.1
  have hb := hC.2.1
  have ha : (i32 a).toInt = a := t32 (okx hs)
  exact lv_tableOut hx hb hd (by rw [ha]; exact h1) ht (kk p l e s m args below meth cd dC dI cy ad0 ad adK adV A H locs Ls hC hn hd0 hst hW hS hO hl (okt hs) hL)
theorem R_look {dflt a off : Int} {ps : Array (Int × Int)} {len : Nat} (tgt : Nat) (hd : decode M.2.1 pc = .ok (.lookupswitch dflt ps, len)) (hp : (ps.toList.zip (ps.toList.drop 1)).all (fun (a, next) => a.1 < next.1) = true) (ho : Op.lookupswitch.offset ps.toList dflt a = off) (ht : (pc : Int) + off = (tgt : Int)) (kk : RJ M mc ms n0 Q ce sl sh tgt ls st g z r) : RJ M mc ms n0 Q ce sl sh pc ls (vI a :: st) g z r := by
  intro p l e s m args below meth cd dC dI cy ad0 ad adK adV A H locs Ls hC hn hd0 hst hW hS hO hl hs hL
  have hx := hC.1
  have hb := hC.2.1
  have ha : (i32 a).toInt = a := t32 (okx hs)
  exact lv_lookup hx hb hd hp (by rw [ha]; exact ho) ht (kk p l e s m args below meth cd dC dI cy ad0 ad adK adV A H locs Ls hC hn hd0 hst hW hS hO hl (okt hs) hL)
end RULES
