section HEAP
def FD (ci k : Nat) (C nm ds : String) (fin : Bool) (t : Nat) : Prop := ∃ (T : u_T) (N : Nat) (ty0 : Nat → FieldType), vwCl[ci]? = some (C, T, N) ∧ (∀ w ∈ u_ws C T N, w ∈ TB) ∧ k < N ∧ T k = (C, nm, ds, fin) ∧ (∀ k, k < N → parseFieldDescriptor (T k).2.2.1 = some (ty0 k)) ∧ (∀ a, a < N → ∀ b, b < N → a ≠ b → (T a).2.1 ≠ (T b).2.1) ∧ (fk ci).length = N ∧ (fk ci)[k]? = some t ∧ ci < 13
theorem fv_len {ad : Nat → Nat} {g z : GG} {r : RR} {c ci : Nat} : (fv ad g z r c ci).length = (fk ci).length := by simp [fv]
theorem fv_get {ad : Nat → Nat} {g z : GG} {r : RR} {c ci k t : Nat} (h : (fk ci)[k]? = some t) : (fv ad g z r c ci)[k]? = some (if t = 0 then .int (i32 (g c k)) else if t = 1 then .long (i64 (z c k)) else va_rf ((r c k).map ad)) := by
  simp [fv, List.getElem?_mapIdx, h]
theorem fv_set {ad : Nat → Nat} {g z g' z' : GG} {r r' : RR} {c ci k t : Nat} {v : Value} (h : (fk ci)[k]? = some t) (hv : v = (if t = 0 then .int (i32 (g' c k)) else if t = 1 then .long (i64 (z' c k)) else va_rf ((r' c k).map ad))) (ho : ∀ k', k' ≠ k → g' c k' = g c k' ∧ z' c k' = z c k' ∧ r' c k' = r c k') : (fv ad g z r c ci).set k v = fv ad g' z' r' c ci := by
  apply List.ext_getElem?
  intro j
  rw [List.getElem?_set, fv_len]
  by_cases hj : k = j
  · subst hj
    have hl : k < (fk ci).length := (List.getElem?_eq_some_iff.mp h).1
    rw [if_pos rfl, if_pos hl, fv_get h, hv]
  · rw [if_neg hj]
    obtain ⟨e1, e2, e3⟩ := ho j (fun e => hj e.symm)
    simp only [fv, List.getElem?_mapIdx, e1, e2, e3]
theorem ce_obj {cy : Nat → ClassId} {ad : Nat → Nat} {g z : GG} {r : RR} {c ci n : Nat} (h : ci < 13) : ce cy ad g z r c (ci, n) = .inr (ci, fv ad g z r c ci) := by simp [ce, h]
theorem ce_i {cy : Nat → ClassId} {ad : Nat → Nat} {g z : GG} {r : RR} {c n : Nat} (k : Nat) (h : k = 13 ∨ k = 14 ∨ k = 15 ∨ k = 17) : ce cy ad g z r c (k, n) = .inl (cy k, n, .inl fun j => i32 (g c j)) := by
  rcases h with rfl | rfl | rfl | rfl <;> rfl
theorem ce_l {cy : Nat → ClassId} {ad : Nat → Nat} {g z : GG} {r : RR} {c n : Nat} : ce cy ad g z r c (16, n) = .inl (cy 16, n, .inr (.inl fun j => i64 (z c j))) := rfl
theorem ce_q {cy : Nat → ClassId} {ad : Nat → Nat} {g z : GG} {r : RR} {c n : Nat} : ce cy ad g z r c (18, n) = .inl (cy 18, n, .inr (.inr (.inr (.inr fun j => (r c j).map ad)))) := rfl
theorem up2_k {f : GG} {c k : Nat} {v : Int} {k' : Nat} (h : k' ≠ k) : up2 f c k v c k' = f c k' := by simp [up2, h]
theorem up2_s {f : GG} {c k : Nat} {v : Int} : up2 f c k v c k = v := by simp [up2]
theorem upR_k {f : RR} {c k : Nat} {v : Option Nat} {k' : Nat} (h : k' ≠ k) : upR f c k v c k' = f c k' := by simp [upR, h]
theorem upR_s {f : RR} {c k : Nat} {v : Option Nat} : upR f c k v c k = v := by simp [upR]
theorem upd_i {f : GG} {c k : Nat} {v : Int} : upd (fun j => i32 (f c j)) k (i32 v) = fun j => i32 (up2 f c k v c j) := by
  funext j
  by_cases h : j = k
  · subst h; simp [upd, up2]
  · simp [upd, up2, h]
variable {M : MI} {mc ms n0 : Nat} {Q : PQ} {ce sl : Nat} {sh : SH} {pc : Nat} {ls : List (Option AV)} {st : List AV} {g z : GG} {r : RR}
theorem R_getI {ci k index c n : Nat} {C nm ds : String} {fin : Bool} (hf : FD ci k C nm ds fin 0) (hk : Cond.fieldLink M.1.cls index C nm ds ∈ TB) (hs0 : sh[c]? = some (ci, n)) (hd : decode M.2.1 pc = .ok (.getfield index, 3)) (kk : RJ M mc ms n0 Q ce sl sh (pc + 3) ls (vI (g c k) :: st) g z r) : RJ M mc ms n0 Q ce sl sh pc ls (vR (some c) :: st) g z r := by
  intro p l e s m args below meth cd dC dI cy ad0 ad adK adV A H locs Ls hC hn hd0 hst hW hS hO hl hs hL
  have hx := hC.1
  have hb := hC.2.1
  obtain ⟨T, N, ty0, f1, f2, f3, f4, -, -, -, f8, f9⟩ := hf
  exact va_get (D := (dC, dI)) (ref := C) hx hb hC.2.2.2.2.2.2.2.1 f2 hC.2.2.2.2.2.1 hW.2.2 hW.1 c (by rw [wd_get hs0, ce_obj f9]) f1 k f3 (by rw [f4]; exact hC.2.2.2.2.2.2.2.1 _ hk) (by rw [f4]; exact fun _ h => h) (fv_get f8) hd (kk p l e s m args below meth cd dC dI cy ad0 ad adK adV A H locs Ls hC hn hd0 hst hW hS hO hl (okc (v := vI (g c k)) (hO.1 c k) (okt hs)) hL)
theorem R_getJ {ci k index c n : Nat} {C nm ds : String} {fin : Bool} (hf : FD ci k C nm ds fin 1) (hk : Cond.fieldLink M.1.cls index C nm ds ∈ TB) (hs0 : sh[c]? = some (ci, n)) (hd : decode M.2.1 pc = .ok (.getfield index, 3)) (kk : RJ M mc ms n0 Q ce sl sh (pc + 3) ls (vL (z c k) :: st) g z r) : RJ M mc ms n0 Q ce sl sh pc ls (vR (some c) :: st) g z r := by
  intro p l e s m args below meth cd dC dI cy ad0 ad adK adV A H locs Ls hC hn hd0 hst hW hS hO hl hs hL
  have hx := hC.1
  have hb := hC.2.1
  obtain ⟨T, N, ty0, f1, f2, f3, f4, -, -, -, f8, f9⟩ := hf
  exact va_get (D := (dC, dI)) (ref := C) hx hb hC.2.2.2.2.2.2.2.1 f2 hC.2.2.2.2.2.1 hW.2.2 hW.1 c (by rw [wd_get hs0, ce_obj f9]) f1 k f3 (by rw [f4]; exact hC.2.2.2.2.2.2.2.1 _ hk) (by rw [f4]; exact fun _ h => h) (fv_get f8) hd (kk p l e s m args below meth cd dC dI cy ad0 ad adK adV A H locs Ls hC hn hd0 hst hW hS hO hl (okc (v := vL (z c k)) (hO.2.1 c k) (okt hs)) hL)
theorem R_getR {ci k index c n : Nat} {C nm ds : String} {fin : Bool} (x : Option Nat) (hrx : r c k = x) (hf : FD ci k C nm ds fin 2) (hk : Cond.fieldLink M.1.cls index C nm ds ∈ TB) (hs0 : sh[c]? = some (ci, n)) (hd : decode M.2.1 pc = .ok (.getfield index, 3)) (kk : RJ M mc ms n0 Q ce sl sh (pc + 3) ls (vR x :: st) g z r) : RJ M mc ms n0 Q ce sl sh pc ls (vR (some c) :: st) g z r := by
  subst hrx
  intro p l e s m args below meth cd dC dI cy ad0 ad adK adV A H locs Ls hC hn hd0 hst hW hS hO hl hs hL
  have hx := hC.1
  have hb := hC.2.1
  obtain ⟨T, N, ty0, f1, f2, f3, f4, -, -, -, f8, f9⟩ := hf
  exact va_get (D := (dC, dI)) (ref := C) hx hb hC.2.2.2.2.2.2.2.1 f2 hC.2.2.2.2.2.1 hW.2.2 hW.1 c (by rw [wd_get hs0, ce_obj f9]) f1 k f3 (by rw [f4]; exact hC.2.2.2.2.2.2.2.1 _ hk) (by rw [f4]; exact fun _ h => h) (fv_get f8) hd (kk p l e s m args below meth cd dC dI cy ad0 ad adK adV A H locs Ls hC hn hd0 hst hW hS hO hl (okc (v := vR (r c k)) (fun a h => hO.2.2 c k a h) (okt hs)) hL)
theorem R_putI {ci k index c n : Nat} {C nm ds : String} {v : Int} (hf : FD ci k C nm ds false 0) (hty : parseFieldDescriptor ds = some (.int)) (hk : Cond.fieldLink M.1.cls index C nm ds ∈ TB) (hs0 : sh[c]? = some (ci, n)) (hd : decode M.2.1 pc = .ok (.putfield index, 3)) (kk : RJ M mc ms n0 Q ce sl sh (pc + 3) ls st (up2 g c k v) z r) : RJ M mc ms n0 Q ce sl sh pc ls (vI v :: vR (some c) :: st) g z r := by
  intro p l e s m args below meth cd dC dI cy ad0 ad adK adV A H locs Ls hC hn hd0 hst hW hS hO hl hs hL
  have hx := hC.1
  have hb := hC.2.1
  obtain ⟨T, N, ty0, f1, f2, f3, f4, f5, f6, f7, f8, f9⟩ := hf
  refine va_put (D := (dC, dI)) (ref := C) (v := cv ad (vI v)) (ty := .int) hx hb hC.2.2.2.2.2.2.2.1 f2 ty0 f5 f6 hC.2.2.2.2.2.1 hW.2.2 hW.1 hW.2.1 hS c (fs := fv ad g z r c ci) (by rw [wd_get hs0, ce_obj f9]) f1 k f3 (by rw [f4]; exact hC.2.2.2.2.2.2.2.1 _ hk) (by rw [f4]; exact fun _ h => h) (by rw [f4]) (by rw [f4]; exact hty) rfl rfl (by rw [fv_len, f7]; exact f3) hd (fun H1 locs1 hP1 hD1 hS1 => ?_)
  have hset : (wd cy ad sh g z r).set c (ad c, .inr (ci, (fv ad g z r c ci).set k (cv ad (vI v)))) = wd cy ad sh (up2 g c k v) z r := wd_set hs0 (by rw [ce_obj f9]; congr 2; exact fv_set f8 (by simp [cv, up2_s, upR_s]) (fun k' h' => ⟨by first | exact up2_k h' | rfl, by first | exact up2_k h' | rfl, by first | exact upR_k h' | rfl⟩)) (fun c' h' => ⟨by first | exact up2_ne h' | rfl, by first | exact up2_ne h' | rfl, by first | exact upR_ne h' | rfl⟩)
  rw [hset] at hP1 hD1
  exact kk p l e s m args below meth cd dC dI cy ad0 ad adK adV A H1 locs1 Ls hC hn hd0 hst ⟨hP1, hD1, hW.2.2⟩ hS1 ⟨up2_in hO.1 (okx hs), hO.2⟩ hl (okt (okt hs)) hL
theorem R_putZ {ci k index c n : Nat} {C nm ds : String} {v : Int} (h01 : v = 0 ∨ v = 1) (hf : FD ci k C nm ds false 0) (hty : parseFieldDescriptor ds = some (.boolean)) (hk : Cond.fieldLink M.1.cls index C nm ds ∈ TB) (hs0 : sh[c]? = some (ci, n)) (hd : decode M.2.1 pc = .ok (.putfield index, 3)) (kk : RJ M mc ms n0 Q ce sl sh (pc + 3) ls st (up2 g c k v) z r) : RJ M mc ms n0 Q ce sl sh pc ls (vI v :: vR (some c) :: st) g z r := by
  intro p l e s m args below meth cd dC dI cy ad0 ad adK adV A H locs Ls hC hn hd0 hst hW hS hO hl hs hL
  have hx := hC.1
  have hb := hC.2.1
  obtain ⟨T, N, ty0, f1, f2, f3, f4, f5, f6, f7, f8, f9⟩ := hf
  refine va_put (D := (dC, dI)) (ref := C) (v := cv ad (vI v)) (ty := .boolean) hx hb hC.2.2.2.2.2.2.2.1 f2 ty0 f5 f6 hC.2.2.2.2.2.1 hW.2.2 hW.1 hW.2.1 hS c (fs := fv ad g z r c ci) (by rw [wd_get hs0, ce_obj f9]) f1 k f3 (by rw [f4]; exact hC.2.2.2.2.2.2.2.1 _ hk) (by rw [f4]; exact fun _ h => h) (by rw [f4]) (by rw [f4]; exact hty) (by rcases h01 with rfl | rfl <;> rfl) (by rcases h01 with rfl | rfl <;> rfl) (by rw [fv_len, f7]; exact f3) hd (fun H1 locs1 hP1 hD1 hS1 => ?_)
  have hset : (wd cy ad sh g z r).set c (ad c, .inr (ci, (fv ad g z r c ci).set k (cv ad (vI v)))) = wd cy ad sh (up2 g c k v) z r := wd_set hs0 (by rw [ce_obj f9]; congr 2; exact fv_set f8 (by simp [cv, up2_s, upR_s]) (fun k' h' => ⟨by first | exact up2_k h' | rfl, by first | exact up2_k h' | rfl, by first | exact upR_k h' | rfl⟩)) (fun c' h' => ⟨by first | exact up2_ne h' | rfl, by first | exact up2_ne h' | rfl, by first | exact upR_ne h' | rfl⟩)
  rw [hset] at hP1 hD1
  exact kk p l e s m args below meth cd dC dI cy ad0 ad adK adV A H1 locs1 Ls hC hn hd0 hst ⟨hP1, hD1, hW.2.2⟩ hS1 ⟨up2_in hO.1 (okx hs), hO.2⟩ hl (okt (okt hs)) hL
theorem R_putJ {ci k index c n : Nat} {C nm ds : String} {v : Int} (hf : FD ci k C nm ds false 1) (hty : parseFieldDescriptor ds = some (.long)) (hk : Cond.fieldLink M.1.cls index C nm ds ∈ TB) (hs0 : sh[c]? = some (ci, n)) (hd : decode M.2.1 pc = .ok (.putfield index, 3)) (kk : RJ M mc ms n0 Q ce sl sh (pc + 3) ls st g (up2 z c k v) r) : RJ M mc ms n0 Q ce sl sh pc ls (vL v :: vR (some c) :: st) g z r := by
  intro p l e s m args below meth cd dC dI cy ad0 ad adK adV A H locs Ls hC hn hd0 hst hW hS hO hl hs hL
  have hx := hC.1
  have hb := hC.2.1
  obtain ⟨T, N, ty0, f1, f2, f3, f4, f5, f6, f7, f8, f9⟩ := hf
  refine va_put (D := (dC, dI)) (ref := C) (v := cv ad (vL v)) (ty := .long) hx hb hC.2.2.2.2.2.2.2.1 f2 ty0 f5 f6 hC.2.2.2.2.2.1 hW.2.2 hW.1 hW.2.1 hS c (fs := fv ad g z r c ci) (by rw [wd_get hs0, ce_obj f9]) f1 k f3 (by rw [f4]; exact hC.2.2.2.2.2.2.2.1 _ hk) (by rw [f4]; exact fun _ h => h) (by rw [f4]) (by rw [f4]; exact hty) rfl rfl (by rw [fv_len, f7]; exact f3) hd (fun H1 locs1 hP1 hD1 hS1 => ?_)
  have hset : (wd cy ad sh g z r).set c (ad c, .inr (ci, (fv ad g z r c ci).set k (cv ad (vL v)))) = wd cy ad sh g (up2 z c k v) r := wd_set hs0 (by rw [ce_obj f9]; congr 2; exact fv_set f8 (by simp [cv, up2_s, upR_s]) (fun k' h' => ⟨by first | exact up2_k h' | rfl, by first | exact up2_k h' | rfl, by first | exact upR_k h' | rfl⟩)) (fun c' h' => ⟨by first | exact up2_ne h' | rfl, by first | exact up2_ne h' | rfl, by first | exact upR_ne h' | rfl⟩)
  rw [hset] at hP1 hD1
  exact kk p l e s m args below meth cd dC dI cy ad0 ad adK adV A H1 locs1 Ls hC hn hd0 hst ⟨hP1, hD1, hW.2.2⟩ hS1 ⟨hO.1, up2_inL hO.2.1 (okx hs), hO.2.2⟩ hl (okt (okt hs)) hL
theorem R_putR {ci k index c n : Nat} {C nm ds : String} {v : Nat} {E : String} (hf : FD ci k C nm ds false 2) (hty : parseFieldDescriptor ds = some (.object E)) (hk : Cond.fieldLink M.1.cls index C nm ds ∈ TB) (hs0 : sh[c]? = some (ci, n)) (hd : decode M.2.1 pc = .ok (.putfield index, 3)) (kk : RJ M mc ms n0 Q ce sl sh (pc + 3) ls st g z (upR r c k (some v))) : RJ M mc ms n0 Q ce sl sh pc ls (vR (some v) :: vR (some c) :: st) g z r := by
  intro p l e s m args below meth cd dC dI cy ad0 ad adK adV A H locs Ls hC hn hd0 hst hW hS hO hl hs hL
  have hx := hC.1
  have hb := hC.2.1
  obtain ⟨T, N, ty0, f1, f2, f3, f4, f5, f6, f7, f8, f9⟩ := hf
  refine va_put (D := (dC, dI)) (ref := C) (v := cv ad (vR (some v))) (ty := .object E) hx hb hC.2.2.2.2.2.2.2.1 f2 ty0 f5 f6 hC.2.2.2.2.2.1 hW.2.2 hW.1 hW.2.1 hS c (fs := fv ad g z r c ci) (by rw [wd_get hs0, ce_obj f9]) f1 k f3 (by rw [f4]; exact hC.2.2.2.2.2.2.2.1 _ hk) (by rw [f4]; exact fun _ h => h) (by rw [f4]) (by rw [f4]; exact hty) rfl rfl (by rw [fv_len, f7]; exact f3) hd (fun H1 locs1 hP1 hD1 hS1 => ?_)
  have hset : (wd cy ad sh g z r).set c (ad c, .inr (ci, (fv ad g z r c ci).set k (cv ad (vR (some v))))) = wd cy ad sh g z (upR r c k (some v)) := wd_set hs0 (by rw [ce_obj f9]; congr 2; exact fv_set f8 (by simp [cv, up2_s, upR_s]) (fun k' h' => ⟨by first | exact up2_k h' | rfl, by first | exact up2_k h' | rfl, by first | exact upR_k h' | rfl⟩)) (fun c' h' => ⟨by first | exact up2_ne h' | rfl, by first | exact up2_ne h' | rfl, by first | exact upR_ne h' | rfl⟩)
  rw [hset] at hP1 hD1
  exact kk p l e s m args below meth cd dC dI cy ad0 ad adK adV A H1 locs1 Ls hC hn hd0 hst ⟨hP1, hD1, hW.2.2⟩ hS1 ⟨hO.1, hO.2.1, fun c1 k1 a1 h1 => by unfold upR at h1; split at h1; exact okx hs a1 h1; exact hO.2.2 c1 k1 a1 h1⟩ hl (okt (okt hs)) hL
theorem R_putRF {ci k index c n : Nat} {C nm ds : String} {v : Nat} {E : String} (hf : FD ci k C nm ds true 2) (hty : parseFieldDescriptor ds = some (.object E)) (hini : M.1.name = "<init>") (hown : M.1.cls = C) (hk : Cond.fieldLink M.1.cls index C nm ds ∈ TB) (hs0 : sh[c]? = some (ci, n)) (hd : decode M.2.1 pc = .ok (.putfield index, 3)) (kk : RJ M mc ms n0 Q ce sl sh (pc + 3) ls st g z (upR r c k (some v))) : RJ M mc ms n0 Q ce sl sh pc ls (vR (some v) :: vR (some c) :: st) g z r := by
  intro p l e s m args below meth cd dC dI cy ad0 ad adK adV A H locs Ls hC hn hd0 hst hW hS hO hl hs hL
  have hx := hC.1
  have hb := hC.2.1
  obtain ⟨T, N, ty0, f1, f2, f3, f4, f5, f6, f7, f8, f9⟩ := hf
  refine va_putF (D := (dC, dI)) (ref := C) (v := cv ad (vR (some v))) (ty := .object E) hx hb hC.2.2.2.2.2.2.2.1 f2 ty0 f5 f6 hC.2.2.2.2.2.1 hW.2.2 hW.1 hW.2.1 hS c (fs := fv ad g z r c ci) (by rw [wd_get hs0, ce_obj f9]) f1 k f3 (by rw [f4]; exact hC.2.2.2.2.2.2.2.1 _ hk) (by rw [f4]; exact fun _ h => h) (by rw [f4]) (hC.2.2.2.2.2.2.1.trans hini) (by rw [f4]; exact hown.symm) (by rw [f4]; exact hty) rfl rfl (by rw [fv_len, f7]; exact f3) hd (fun H1 locs1 hP1 hD1 hS1 => ?_)
  have hset : (wd cy ad sh g z r).set c (ad c, .inr (ci, (fv ad g z r c ci).set k (cv ad (vR (some v))))) = wd cy ad sh g z (upR r c k (some v)) := wd_set hs0 (by rw [ce_obj f9]; congr 2; exact fv_set f8 (by simp [cv, up2_s, upR_s]) (fun k' h' => ⟨by first | exact up2_k h' | rfl, by first | exact up2_k h' | rfl, by first | exact upR_k h' | rfl⟩)) (fun c' h' => ⟨by first | exact up2_ne h' | rfl, by first | exact up2_ne h' | rfl, by first | exact upR_ne h' | rfl⟩)
  rw [hset] at hP1 hD1
  exact kk p l e s m args below meth cd dC dI cy ad0 ad adK adV A H1 locs1 Ls hC hn hd0 hst ⟨hP1, hD1, hW.2.2⟩ hS1 ⟨hO.1, hO.2.1, fun c1 k1 a1 h1 => by unfold upR at h1; split at h1; exact okx hs a1 h1; exact hO.2.2 c1 k1 a1 h1⟩ hl (okt (okt hs)) hL
theorem R_putAF {ci k index c n : Nat} {C nm ds : String} {v : Nat} {E : FieldType} (hf : FD ci k C nm ds true 2) (hty : parseFieldDescriptor ds = some (.array E)) (hini : M.1.name = "<init>") (hown : M.1.cls = C) (hk : Cond.fieldLink M.1.cls index C nm ds ∈ TB) (hs0 : sh[c]? = some (ci, n)) (hd : decode M.2.1 pc = .ok (.putfield index, 3)) (kk : RJ M mc ms n0 Q ce sl sh (pc + 3) ls st g z (upR r c k (some v))) : RJ M mc ms n0 Q ce sl sh pc ls (vR (some v) :: vR (some c) :: st) g z r := by
  intro p l e s m args below meth cd dC dI cy ad0 ad adK adV A H locs Ls hC hn hd0 hst hW hS hO hl hs hL
  have hx := hC.1
  have hb := hC.2.1
  obtain ⟨T, N, ty0, f1, f2, f3, f4, f5, f6, f7, f8, f9⟩ := hf
  refine va_putF (D := (dC, dI)) (ref := C) (v := cv ad (vR (some v))) (ty := .array E) hx hb hC.2.2.2.2.2.2.2.1 f2 ty0 f5 f6 hC.2.2.2.2.2.1 hW.2.2 hW.1 hW.2.1 hS c (fs := fv ad g z r c ci) (by rw [wd_get hs0, ce_obj f9]) f1 k f3 (by rw [f4]; exact hC.2.2.2.2.2.2.2.1 _ hk) (by rw [f4]; exact fun _ h => h) (by rw [f4]) (hC.2.2.2.2.2.2.1.trans hini) (by rw [f4]; exact hown.symm) (by rw [f4]; exact hty) rfl rfl (by rw [fv_len, f7]; exact f3) hd (fun H1 locs1 hP1 hD1 hS1 => ?_)
  have hset : (wd cy ad sh g z r).set c (ad c, .inr (ci, (fv ad g z r c ci).set k (cv ad (vR (some v))))) = wd cy ad sh g z (upR r c k (some v)) := wd_set hs0 (by rw [ce_obj f9]; congr 2; exact fv_set f8 (by simp [cv, up2_s, upR_s]) (fun k' h' => ⟨by first | exact up2_k h' | rfl, by first | exact up2_k h' | rfl, by first | exact upR_k h' | rfl⟩)) (fun c' h' => ⟨by first | exact up2_ne h' | rfl, by first | exact up2_ne h' | rfl, by first | exact upR_ne h' | rfl⟩)
  rw [hset] at hP1 hD1
  exact kk p l e s m args below meth cd dC dI cy ad0 ad adK adV A H1 locs1 Ls hC hn hd0 hst ⟨hP1, hD1, hW.2.2⟩ hS1 ⟨hO.1, hO.2.1, fun c1 k1 a1 h1 => by unfold upR at h1; split at h1; exact okx hs a1 h1; exact hO.2.2 c1 k1 a1 h1⟩ hl (okt (okt hs)) hL
theorem R_iald {c n : Nat} {i : Int} (hs0 : sh[c]? = some (15, n)) (h0 : 0 ≤ i) (h1 : i < (n : Int)) (hd : decode M.2.1 pc = .ok (.iaload, 1)) (kk : RJ M mc ms n0 Q ce sl sh (pc + 1) ls (vI (g c i.toNat) :: st) g z r) : RJ M mc ms n0 Q ce sl sh pc ls (vI i :: vR (some c) :: st) g z r := by
  intro p l e s m args below meth cd dC dI cy ad0 ad adK adV A H locs Ls hC hn hd0 hst hW hS hO hl hs hL
  have hx := hC.1
  have hb := hC.2.1
  have hi : inI i := okx hs
  refine va_iald hx hb hW.2.2 hW.1 c 2 (by rw [wd_get hs0, ce_i 15 (by decide)]) rfl (vp_inI hi h0 h1) hd ?_
  rw [i32_clamp hi]
  exact kk p l e s m args below meth cd dC dI cy ad0 ad adK adV A H locs Ls hC hn hd0 hst hW hS hO hl (okc (v := vI (g c i.toNat)) (hO.1 c _) (okt (okt hs))) hL
theorem R_bald {c n : Nat} {i : Int} (hs0 : sh[c]? = some (13, n)) (h0 : 0 ≤ i) (h1 : i < (n : Int)) (hd : decode M.2.1 pc = .ok (.baload, 1)) (kk : RJ M mc ms n0 Q ce sl sh (pc + 1) ls (vI (g c i.toNat) :: st) g z r) : RJ M mc ms n0 Q ce sl sh pc ls (vI i :: vR (some c) :: st) g z r := by
  intro p l e s m args below meth cd dC dI cy ad0 ad adK adV A H locs Ls hC hn hd0 hst hW hS hO hl hs hL
  have hx := hC.1
  have hb := hC.2.1
  have hi : inI i := okx hs
  refine va_bald hx hb hW.2.2 hW.1 c 0 (by rw [wd_get hs0, ce_i 13 (by decide)]) rfl (vp_inI hi h0 h1) hd ?_
  rw [i32_clamp hi]
  exact kk p l e s m args below meth cd dC dI cy ad0 ad adK adV A H locs Ls hC hn hd0 hst hW hS hO hl (okc (v := vI (g c i.toNat)) (hO.1 c _) (okt (okt hs))) hL
theorem R_zald {c n : Nat} {i : Int} (hs0 : sh[c]? = some (17, n)) (h0 : 0 ≤ i) (h1 : i < (n : Int)) (hd : decode M.2.1 pc = .ok (.baload, 1)) (kk : RJ M mc ms n0 Q ce sl sh (pc + 1) ls (vI (g c i.toNat) :: st) g z r) : RJ M mc ms n0 Q ce sl sh pc ls (vI i :: vR (some c) :: st) g z r := by
  intro p l e s m args below meth cd dC dI cy ad0 ad adK adV A H locs Ls hC hn hd0 hst hW hS hO hl hs hL
  have hx := hC.1
  have hb := hC.2.1
  have hi : inI i := okx hs
  refine va_zald hx hb hW.2.2 hW.1 c 4 (by rw [wd_get hs0, ce_i 17 (by decide)]) rfl (vp_inI hi h0 h1) hd ?_
  rw [i32_clamp hi]
  exact kk p l e s m args below meth cd dC dI cy ad0 ad adK adV A H locs Ls hC hn hd0 hst hW hS hO hl (okc (v := vI (g c i.toNat)) (hO.1 c _) (okt (okt hs))) hL
theorem R_cald {c n : Nat} {i : Int} (hs0 : sh[c]? = some (14, n)) (h0 : 0 ≤ i) (h1 : i < (n : Int)) (hd : decode M.2.1 pc = .ok (.caload, 1)) (kk : RJ M mc ms n0 Q ce sl sh (pc + 1) ls (vI (g c i.toNat) :: st) g z r) : RJ M mc ms n0 Q ce sl sh pc ls (vI i :: vR (some c) :: st) g z r := by
  intro p l e s m args below meth cd dC dI cy ad0 ad adK adV A H locs Ls hC hn hd0 hst hW hS hO hl hs hL
  have hx := hC.1
  have hb := hC.2.1
  have hi : inI i := okx hs
  refine va_cald hx hb hW.2.2 hW.1 c 1 (by rw [wd_get hs0, ce_i 14 (by decide)]) rfl (vp_inI hi h0 h1) hd ?_
  rw [i32_clamp hi]
  exact kk p l e s m args below meth cd dC dI cy ad0 ad adK adV A H locs Ls hC hn hd0 hst hW hS hO hl (okc (v := vI (g c i.toNat)) (hO.1 c _) (okt (okt hs))) hL
theorem R_lald {c n : Nat} {i : Int} (hs0 : sh[c]? = some (16, n)) (h0 : 0 ≤ i) (h1 : i < (n : Int)) (hd : decode M.2.1 pc = .ok (.laload, 1)) (kk : RJ M mc ms n0 Q ce sl sh (pc + 1) ls (vL (z c i.toNat) :: st) g z r) : RJ M mc ms n0 Q ce sl sh pc ls (vI i :: vR (some c) :: st) g z r := by
  intro p l e s m args below meth cd dC dI cy ad0 ad adK adV A H locs Ls hC hn hd0 hst hW hS hO hl hs hL
  have hx := hC.1
  have hb := hC.2.1
  have hi : inI i := okx hs
  refine va_lald hx hb hW.2.2 hW.1 c 3 (by rw [wd_get hs0, ce_l]) rfl (vp_inI hi h0 h1) hd ?_
  rw [i32_clamp hi]
  exact kk p l e s m args below meth cd dC dI cy ad0 ad adK adV A H locs Ls hC hn hd0 hst hW hS hO hl (okc (v := vL (z c i.toNat)) (hO.2.1 c _) (okt (okt hs))) hL
theorem R_aald {c n : Nat} {i : Int} (x : Option Nat) (hrx : r c i.toNat = x) (hs0 : sh[c]? = some (18, n)) (h0 : 0 ≤ i) (h1 : i < (n : Int)) (hd : decode M.2.1 pc = .ok (.aaload, 1)) (kk : RJ M mc ms n0 Q ce sl sh (pc + 1) ls (vR x :: st) g z r) : RJ M mc ms n0 Q ce sl sh pc ls (vI i :: vR (some c) :: st) g z r := by
  subst hrx
  intro p l e s m args below meth cd dC dI cy ad0 ad adK adV A H locs Ls hC hn hd0 hst hW hS hO hl hs hL
  have hx := hC.1
  have hb := hC.2.1
  have hi : inI i := okx hs
  refine va_aldq hx hb hW.2.2 hW.1 c 5 (by rw [wd_get hs0, ce_q]) rfl (vp_inI hi h0 h1) hd ?_
  rw [i32_clamp hi]
  exact kk p l e s m args below meth cd dC dI cy ad0 ad adK adV A H locs Ls hC hn hd0 hst hW hS hO hl (okc (v := vR (r c i.toNat)) (fun a h => hO.2.2 c _ a h) (okt (okt hs))) hL
theorem R_iast {c n : Nat} {i v : Int} (hs0 : sh[c]? = some (15, n)) (h0 : 0 ≤ i) (h1 : i < (n : Int)) (hd : decode M.2.1 pc = .ok (.iastore, 1)) (kk : RJ M mc ms n0 Q ce sl sh (pc + 1) ls st (up2 g c i.toNat v) z r) : RJ M mc ms n0 Q ce sl sh pc ls (vI v :: vI i :: vR (some c) :: st) g z r := by
  intro p l e s m args below meth cd dC dI cy ad0 ad adK adV A H locs Ls hC hn hd0 hst hW hS hO hl hs hL
  have hx := hC.1
  have hb := hC.2.1
  have hi : inI i := okx (okt hs)
  have ev : i32 v = i32 v := rfl
  refine va_iast hx hb hW.2.2 hW.1 hW.2.1 hS c 2 (by rw [wd_get hs0, ce_i 15 (by decide)]) rfl (vp_inI hi h0 h1) hd (fun H1 locs1 hP1 hD1 hS1 => ?_)
  have hset : (wd cy ad sh g z r).set c (ad c, .inl (cy 15, n, .inl (upd (fun j => i32 (g c j)) (i32 i).toNatClampNeg (i32 v)))) = wd cy ad sh (up2 g c i.toNat v) z r := wd_set hs0 (by rw [ce_i 15 (by decide), i32_clamp hi, ev, upd_i]) (fun c' h' => ⟨up2_ne h', rfl, rfl⟩)
  rw [hset] at hP1 hD1
  exact kk p l e s m args below meth cd dC dI cy ad0 ad adK adV A H1 locs1 Ls hC hn hd0 hst ⟨hP1, hD1, hW.2.2⟩ hS1 ⟨up2_in hO.1 (okx hs), hO.2⟩ hl (okt (okt (okt hs))) hL
theorem R_bast {c n : Nat} {i v : Int} (hs0 : sh[c]? = some (13, n)) (h0 : 0 ≤ i) (h1 : i < (n : Int)) (hd : decode M.2.1 pc = .ok (.bastore, 1)) (kk : RJ M mc ms n0 Q ce sl sh (pc + 1) ls st (up2 g c i.toNat (b8 v)) z r) : RJ M mc ms n0 Q ce sl sh pc ls (vI v :: vI i :: vR (some c) :: st) g z r := by
  intro p l e s m args below meth cd dC dI cy ad0 ad adK adV A H locs Ls hC hn hd0 hst hW hS hO hl hs hL
  have hx := hC.1
  have hb := hC.2.1
  have hi : inI i := okx (okt hs)
  have ev : vp_nar .byte (i32 v) = i32 (b8 v) := (by rw [vp_nar_byte, b8, o32])
  refine va_bast hx hb hW.2.2 hW.1 hW.2.1 hS c 0 (by rw [wd_get hs0, ce_i 13 (by decide)]) rfl (vp_inI hi h0 h1) hd (fun H1 locs1 hP1 hD1 hS1 => ?_)
  have hset : (wd cy ad sh g z r).set c (ad c, .inl (cy 13, n, .inl (upd (fun j => i32 (g c j)) (i32 i).toNatClampNeg (vp_nar .byte (i32 v))))) = wd cy ad sh (up2 g c i.toNat (b8 v)) z r := wd_set hs0 (by rw [ce_i 13 (by decide), i32_clamp hi, ev, upd_i]) (fun c' h' => ⟨up2_ne h', rfl, rfl⟩)
  rw [hset] at hP1 hD1
  exact kk p l e s m args below meth cd dC dI cy ad0 ad adK adV A H1 locs1 Ls hC hn hd0 hst ⟨hP1, hD1, hW.2.2⟩ hS1 ⟨up2_in hO.1 (in32 _), hO.2⟩ hl (okt (okt (okt hs))) hL
theorem R_zast {c n : Nat} {i v : Int} (hs0 : sh[c]? = some (17, n)) (h01 : v = 0 ∨ v = 1) (h0 : 0 ≤ i) (h1 : i < (n : Int)) (hd : decode M.2.1 pc = .ok (.bastore, 1)) (kk : RJ M mc ms n0 Q ce sl sh (pc + 1) ls st (up2 g c i.toNat v) z r) : RJ M mc ms n0 Q ce sl sh pc ls (vI v :: vI i :: vR (some c) :: st) g z r := by
  intro p l e s m args below meth cd dC dI cy ad0 ad adK adV A H locs Ls hC hn hd0 hst hW hS hO hl hs hL
  have hx := hC.1
  have hb := hC.2.1
  have hi : inI i := okx (okt hs)
  have ev : vp_nar .boolean (i32 v) = i32 v := (by rcases h01 with rfl | rfl <;> rfl)
  refine va_zast hx hb hW.2.2 hW.1 hW.2.1 hS c 4 (by rw [wd_get hs0, ce_i 17 (by decide)]) rfl (vp_inI hi h0 h1) hd (fun H1 locs1 hP1 hD1 hS1 => ?_)
  have hset : (wd cy ad sh g z r).set c (ad c, .inl (cy 17, n, .inl (upd (fun j => i32 (g c j)) (i32 i).toNatClampNeg (vp_nar .boolean (i32 v))))) = wd cy ad sh (up2 g c i.toNat v) z r := wd_set hs0 (by rw [ce_i 17 (by decide), i32_clamp hi, ev, upd_i]) (fun c' h' => ⟨up2_ne h', rfl, rfl⟩)
  rw [hset] at hP1 hD1
  exact kk p l e s m args below meth cd dC dI cy ad0 ad adK adV A H1 locs1 Ls hC hn hd0 hst ⟨hP1, hD1, hW.2.2⟩ hS1 ⟨up2_in hO.1 (okx hs), hO.2⟩ hl (okt (okt (okt hs))) hL
theorem R_cast {c n : Nat} {i v : Int} (hs0 : sh[c]? = some (14, n)) (h01 : vp_nar .char (i32 v) = i32 v) (h0 : 0 ≤ i) (h1 : i < (n : Int)) (hd : decode M.2.1 pc = .ok (.castore, 1)) (kk : RJ M mc ms n0 Q ce sl sh (pc + 1) ls st (up2 g c i.toNat v) z r) : RJ M mc ms n0 Q ce sl sh pc ls (vI v :: vI i :: vR (some c) :: st) g z r := by
  intro p l e s m args below meth cd dC dI cy ad0 ad adK adV A H locs Ls hC hn hd0 hst hW hS hO hl hs hL
  have hx := hC.1
  have hb := hC.2.1
  have hi : inI i := okx (okt hs)
  have ev : vp_nar .char (i32 v) = i32 v := h01
  refine va_cast hx hb hW.2.2 hW.1 hW.2.1 hS c 1 (by rw [wd_get hs0, ce_i 14 (by decide)]) rfl (vp_inI hi h0 h1) hd (fun H1 locs1 hP1 hD1 hS1 => ?_)
  have hset : (wd cy ad sh g z r).set c (ad c, .inl (cy 14, n, .inl (upd (fun j => i32 (g c j)) (i32 i).toNatClampNeg (vp_nar .char (i32 v))))) = wd cy ad sh (up2 g c i.toNat v) z r := wd_set hs0 (by rw [ce_i 14 (by decide), i32_clamp hi, ev, upd_i]) (fun c' h' => ⟨up2_ne h', rfl, rfl⟩)
  rw [hset] at hP1 hD1
  exact kk p l e s m args below meth cd dC dI cy ad0 ad adK adV A H1 locs1 Ls hC hn hd0 hst ⟨hP1, hD1, hW.2.2⟩ hS1 ⟨up2_in hO.1 (okx hs), hO.2⟩ hl (okt (okt (okt hs))) hL
theorem R_last {c n : Nat} {i v : Int} (hs0 : sh[c]? = some (16, n)) (h0 : 0 ≤ i) (h1 : i < (n : Int)) (hd : decode M.2.1 pc = .ok (.lastore, 1)) (kk : RJ M mc ms n0 Q ce sl sh (pc + 1) ls st g (up2 z c i.toNat v) r) : RJ M mc ms n0 Q ce sl sh pc ls (vL v :: vI i :: vR (some c) :: st) g z r := by
  intro p l e s m args below meth cd dC dI cy ad0 ad adK adV A H locs Ls hC hn hd0 hst hW hS hO hl hs hL
  have hx := hC.1
  have hb := hC.2.1
  have hi : inI i := okx (okt hs)
  refine va_last hx hb hW.2.2 hW.1 hW.2.1 hS c 3 (by rw [wd_get hs0, ce_l]) rfl (vp_inI hi h0 h1) hd (fun H1 locs1 hP1 hD1 hS1 => ?_)
  have hset : (wd cy ad sh g z r).set c (ad c, .inl (cy 16, n, .inr (.inl (vp_updL (fun j => i64 (z c j)) (i32 i).toNatClampNeg (i64 v))))) = wd cy ad sh g (up2 z c i.toNat v) r := wd_set hs0 (by rw [ce_l, i32_clamp hi]; congr 5; funext j; by_cases hj : j = i.toNat; (subst hj; simp [vp_updL, up2]); simp [vp_updL, up2, hj]) (fun c' h' => ⟨rfl, up2_ne h', rfl⟩)
  rw [hset] at hP1 hD1
  exact kk p l e s m args below meth cd dC dI cy ad0 ad adK adV A H1 locs1 Ls hC hn hd0 hst ⟨hP1, hD1, hW.2.2⟩ hS1 ⟨hO.1, up2_inL hO.2.1 (okx hs), hO.2.2⟩ hl (okt (okt (okt hs))) hL
theorem R_aast {c n v n2 : Nat} {i : Int} (hs0 : sh[c]? = some (18, n)) (hs1 : sh[v]? = some (2, n2)) (h0 : 0 ≤ i) (h1 : i < (n : Int)) (hd : decode M.2.1 pc = .ok (.aastore, 1)) (kk : RJ M mc ms n0 Q ce sl sh (pc + 1) ls st g z (upR r c i.toNat (some v))) : RJ M mc ms n0 Q ce sl sh pc ls (vR (some v) :: vI i :: vR (some c) :: st) g z r := by
  intro p l e s m args below meth cd dC dI cy ad0 ad adK adV A H locs Ls hC hn hd0 hst hW hS hO hl hs hL
  have hx := hC.1
  have hb := hC.2.1
  have hi : inI i := okx (okt hs)
  refine va_astq hx hb hW.2.2 hW.1 hW.2.1 hS c 5 v 2 (by rw [wd_get hs0, ce_q]) rfl (by rw [wd_get hs1, ce_obj (by decide)]) rfl (vp_inI hi h0 h1) hd (fun H1 locs1 hP1 hD1 hS1 => ?_)
  have hset : (wd cy ad sh g z r).set c (ad c, .inl (cy 18, n, .inr (.inr (.inr (.inr (va_up (fun j => (r c j).map ad) (i32 i).toNatClampNeg (some (ad v)))))))) = wd cy ad sh g z (upR r c i.toNat (some v)) := wd_set hs0 (by rw [ce_q, i32_clamp hi]; congr 7; funext j; by_cases hj : j = i.toNat; (subst hj; simp [va_up, upR]); simp [va_up, upR, hj]) (fun c' h' => ⟨rfl, rfl, upR_ne h'⟩)
  rw [hset] at hP1 hD1
  exact kk p l e s m args below meth cd dC dI cy ad0 ad adK adV A H1 locs1 Ls hC hn hd0 hst ⟨hP1, hD1, hW.2.2⟩ hS1 ⟨hO.1, hO.2.1, fun c1 k1 a1 h1 => by unfold upR at h1; split at h1; exact okx hs a1 h1; exact hO.2.2 c1 k1 a1 h1⟩ hl (okt (okt (okt hs))) hL
theorem R_alen15 {c n : Nat} (hs0 : sh[c]? = some (15, n)) (hn0 : n < 2147483648) (hd : decode M.2.1 pc = .ok (.arraylength, 1)) (kk : RJ M mc ms n0 Q ce sl sh (pc + 1) ls (vI (n : Int) :: st) g z r) : RJ M mc ms n0 Q ce sl sh pc ls (vR (some c) :: st) g z r := by
  intro p l e s m args below meth cd dC dI cy ad0 ad adK adV A H locs Ls hC hn hd0 hst hW hS hO hl hs hL
  have hx := hC.1
  have hb := hC.2.1
  exact va_alen hx hb hW.2.2 hW.1 c 2 (by rw [wd_get hs0, ce_i 15 (by decide)]) rfl (v := i32 (n : Int)) (by rw [i32, Int32.ofInt_eq_ofNat]) hd (kk p l e s m args below meth cd dC dI cy ad0 ad adK adV A H locs Ls hC hn hd0 hst hW hS hO hl (okc (v := vI (n : Int)) (show inI (n : Int) by unfold inI; omega) (okt hs)) hL)
theorem R_alen18 {c n : Nat} (hs0 : sh[c]? = some (18, n)) (hn0 : n < 2147483648) (hd : decode M.2.1 pc = .ok (.arraylength, 1)) (kk : RJ M mc ms n0 Q ce sl sh (pc + 1) ls (vI (n : Int) :: st) g z r) : RJ M mc ms n0 Q ce sl sh pc ls (vR (some c) :: st) g z r := by
  intro p l e s m args below meth cd dC dI cy ad0 ad adK adV A H locs Ls hC hn hd0 hst hW hS hO hl hs hL
  have hx := hC.1
  have hb := hC.2.1
  exact va_alen hx hb hW.2.2 hW.1 c 5 (by rw [wd_get hs0, ce_q]) rfl (v := i32 (n : Int)) (by rw [i32, Int32.ofInt_eq_ofNat]) hd (kk p l e s m args below meth cd dC dI cy ad0 ad adK adV A H locs Ls hC hn hd0 hst hW hS hO hl (okc (v := vI (n : Int)) (show inI (n : Int) by unfold inI; omega) (okt hs)) hL)
theorem R_alen13 {c n : Nat} (hs0 : sh[c]? = some (13, n)) (hn0 : n < 2147483648) (hd : decode M.2.1 pc = .ok (.arraylength, 1)) (kk : RJ M mc ms n0 Q ce sl sh (pc + 1) ls (vI (n : Int) :: st) g z r) : RJ M mc ms n0 Q ce sl sh pc ls (vR (some c) :: st) g z r := by
  intro p l e s m args below meth cd dC dI cy ad0 ad adK adV A H locs Ls hC hn hd0 hst hW hS hO hl hs hL
  have hx := hC.1
  have hb := hC.2.1
  exact va_alen hx hb hW.2.2 hW.1 c 0 (by rw [wd_get hs0, ce_i 13 (by decide)]) rfl (v := i32 (n : Int)) (by rw [i32, Int32.ofInt_eq_ofNat]) hd (kk p l e s m args below meth cd dC dI cy ad0 ad adK adV A H locs Ls hC hn hd0 hst hW hS hO hl (okc (v := vI (n : Int)) (show inI (n : Int) by unfold inI; omega) (okt hs)) hL)
theorem R_ireturn {v : Int} {ty : FieldType} (hr0 : M.2.2.2.1 = some ty) (hnr : narrow ty (.int (i32 v)) = .int (i32 v)) (hce : ce ≤ mc) (hsl : sl ≤ ms) (hd : decode M.2.1 pc = .ok (.ireturn, 1)) (hq : Q (some (vI v)) sh g z r) : RJ M mc ms n0 Q ce sl sh pc ls [vI v] g z r := by
  intro p l e s m args below meth cd dC dI cy ad0 ad adK adV A H locs Ls hC hn hd0 hst hW hS hO hl hs hL
  have hx := hC.1
  have hb := hC.2.1
  refine W.widen (k := mc) (n := ms) hce hsl ?_
  exact W.zret (ty := ty) hx hb (hC.2.2.2.1.trans hr0) hnr (fun t ht hWm => ⟨⟨some (vI v), sh, ad, g, z, r, rfl, hq, hn, hd0, hO, (fun x hx => by cases hx; exact okx hs), by rw [ht]; exact hW.1, hW.2.1, va_K.moved hWm.alike hW.2.2⟩, hS.F ht⟩) hS.2.2 hd hC.2.2.2.2.1
theorem R_lreturn {v : Int} (hr0 : M.2.2.2.1 = some .long) (hce : ce ≤ mc) (hsl : sl ≤ ms) (hd : decode M.2.1 pc = .ok (.lreturn, 1)) (hq : Q (some (vL v)) sh g z r) : RJ M mc ms n0 Q ce sl sh pc ls [vL v] g z r := by
  intro p l e s m args below meth cd dC dI cy ad0 ad adK adV A H locs Ls hC hn hd0 hst hW hS hO hl hs hL
  have hx := hC.1
  have hb := hC.2.1
  refine W.widen (k := mc) (n := ms) hce hsl ?_
  exact W.lret hx hb (hC.2.2.2.1.trans hr0) (fun t ht hWm => ⟨⟨some (vL v), sh, ad, g, z, r, rfl, hq, hn, hd0, hO, (fun x hx => by cases hx; exact okx hs), by rw [ht]; exact hW.1, hW.2.1, va_K.moved hWm.alike hW.2.2⟩, hS.F ht⟩) hS.2.2 hd hC.2.2.2.2.1
theorem R_areturn {v : Option Nat} {ty : FieldType} (hr0 : M.2.2.2.1 = some ty) (hty : (∃ n, ty = .object n) ∨ ∃ t, ty = .array t) (hce : ce ≤ mc) (hsl : sl ≤ ms) (hd : decode M.2.1 pc = .ok (.areturn, 1)) (hq : Q (some (vR v)) sh g z r) : RJ M mc ms n0 Q ce sl sh pc ls [vR v] g z r := by
  intro p l e s m args below meth cd dC dI cy ad0 ad adK adV A H locs Ls hC hn hd0 hst hW hS hO hl hs hL
  have hx := hC.1
  have hb := hC.2.1
  refine W.widen (k := mc) (n := ms) hce hsl ?_
  exact W.aret (v := cv ad (vR v)) hx hb (hC.2.2.2.1.trans hr0) hty (by cases v with | none => exact Or.inl rfl | some a => exact Or.inr ⟨ad a, rfl⟩) (fun t ht hWm => ⟨⟨some (vR v), sh, ad, g, z, r, rfl, hq, hn, hd0, hO, (fun x hx => by cases hx; exact okx hs), by rw [ht]; exact hW.1, hW.2.1, va_K.moved hWm.alike hW.2.2⟩, hS.F ht⟩) hS.2.2 hd hC.2.2.2.2.1
theorem R_return (hr0 : M.2.2.2.1 = none) (hce : ce ≤ mc) (hsl : sl ≤ ms) (hd : decode M.2.1 pc = .ok (.return_, 1)) (hq : Q none sh g z r) : RJ M mc ms n0 Q ce sl sh pc ls [] g z r := by
  intro p l e s m args below meth cd dC dI cy ad0 ad adK adV A H locs Ls hC hn hd0 hst hW hS hO hl hs hL
  have hx := hC.1
  have hb := hC.2.1
  refine W.widen (k := mc) (n := ms) hce hsl ?_
  exact W.vret hx hb (hC.2.2.2.1.trans hr0) (fun t ht hWm => ⟨⟨none, sh, ad, g, z, r, rfl, hq, hn, hd0, hO, (fun x hx => by cases hx), by rw [ht]; exact hW.1, hW.2.1, va_K.moved hWm.alike hW.2.2⟩, hS.F ht⟩) hS.2.2 hd hC.2.2.2.2.1
theorem kOc : (Cond.code Lib.objectInit ⟨#[0xb1]⟩ 1 none) ∈ TB := TB_mem 112 (by decide +kernel) (by decide +kernel)
theorem kOi : (Cond.instanceMethod Lib.objectInit) ∈ TB := TB_mem 111 (by decide +kernel) (by decide +kernel)
theorem R_objInit {idx c : Nat} (hk : Cond.methodLink M.1.cls idx Lib.objectInit ∈ TB) (hf : 1 ≤ M.2.2.2.2.frames) (hl0 : 12 ≤ M.2.2.2.2.locals) (hd : decode M.2.1 pc = .ok (.invokespecial idx, 3)) (kk : RJ M mc ms n0 Q ce sl sh (pc + 3) ls [] g z r) : RJ M mc ms n0 Q ce sl sh pc ls [vR (some c)] g z r := by
  intro p l e s m args below meth cd dC dI cy ad0 ad adK adV A H locs Ls hC hn hd0 hst hW hS hO hl hs hL
  have hx := hC.1
  have hb := hC.2.1
  refine W.objInit hx hb hC.2.2.2.2.2.1 (hC.2.2.2.2.2.2.2.1 _ hk) (hC.2.2.2.2.2.2.2.1 _ kOi) (hC.2.2.2.2.2.2.2.1 _ kOc) rfl (by rw [hC.2.2.1]; exact hL.1) (a := ad c) (rest := []) rfl hd hf hl0 ?_
  exact kk p l e s m args below meth cd dC dI cy ad0 ad adK adV A H locs Ls hC hn hd0 hst hW hS hO hl (okt hs) hL
theorem R_ldcS {index i : Nat} {tx : String} (hi : i < 6) (hz : ∀ adK U, Sr adK U → vk_R M.1.cls index tx (adK i) U) (hd : decode M.2.1 pc = .ok (.ldc index, 2)) (kk : RJ M mc ms n0 Q ce sl sh (pc + 2) ls (vR (some (100000 + i)) :: st) g z r) : RJ M mc ms n0 Q ce sl sh pc ls st g z r := by
  intro p l e s m args below meth cd dC dI cy ad0 ad adK adV A H locs Ls hC hn hd0 hst hW hS hO hl hs hL
  have hx := hC.1
  have hb := hC.2.1
  have h := kk p l e s m args below meth cd dC dI cy ad0 ad adK adV A H locs Ls hC hn hd0 hst hW hS hO hl (okc (v := vR (some (100000 + i))) (fun a h => by cases h; right; omega) hs) hL
  rw [List.map_cons, show cv ad (vR (some (100000 + i))) = .ref (ad (100000 + i)) from rfl, (hst i hi).1] at h
  exact va_ldcS hx hb hC.2.2.2.2.2.1 (hz adK s hC.2.2.2.2.2.2.2.2.1.2) hd h
end HEAP
