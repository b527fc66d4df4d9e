/-! RULES FOR NEW: the world grows by one cell; g, z, r say 0, 0, none of it already -/
section NEW
theorem ce_ad {cy : Nat → ClassId} {ad ad' : Nat → Nat} {g z : GG} {r : RR} {n c : Nat} {q : Nat × Nat} (h : ∀ k a, r c k = some a → okr n a) (he : ∀ a, okr n a → ad' a = ad a) : ce cy ad' g z r c q = ce cy ad g z r c q := by
  have e : ∀ k, (r c k).map ad' = (r c k).map ad := by
    intro k
    cases hk : r c k with
    | none => rfl
    | some a => simp [he a (h k a hk)]
  unfold ce fv
  simp only [e]
theorem wd_ad {cy : Nat → ClassId} {ad ad' : Nat → Nat} {sh : SH} {g z : GG} {r : RR} (h : ∀ c k a, r c k = some a → okr sh.length a) (he : ∀ a, okr sh.length a → ad' a = ad a) : wd cy ad' sh g z r = wd cy ad sh g z r := by
  unfold wd
  apply List.ext_getElem?
  intro j
  simp only [List.getElem?_mapIdx]
  by_cases hj : j < sh.length
  · rw [List.getElem?_eq_getElem hj]
    simp only [Option.map_some]
    rw [ce_ad (h j) he, he j (Or.inl hj)]
  · rw [List.getElem?_eq_none (by omega)]; rfl
theorem wd_push {cy : Nat → ClassId} {ad ad' : Nat → Nat} {sh : SH} {g z : GG} {r : RR} {x : Nat × Nat} (h : ∀ c k a, r c k = some a → okr sh.length a) (he : ∀ a, okr sh.length a → ad' a = ad a) : wd cy ad' (sh ++ [x]) g z r = wd cy ad sh g z r ++ [(ad' sh.length, ce cy ad' g z r sh.length x)] := by
  rw [← wd_ad (ad := ad) (ad' := ad') h he]
  unfold wd
  rw [List.mapIdx_append]
  congr 1
  simp
def adN (ad : Nat → Nat) (n q : Nat) : Nat → Nat := fun a => if a = n then q else ad a
theorem adN_o {ad : Nat → Nat} {n q : Nat} (hn : n < 100000) : ∀ a, okr n a → adN ad n q a = ad a := by
  intro a ha
  unfold okr at ha
  unfold adN
  rw [if_neg (by omega)]
theorem adN_s {ad : Nat → Nat} {n q : Nat} : adN ad n q n = q := by simp [adN]
/-- the words that a new cell's slots hold -/
def dfl (ci : Nat) : List Value := (fk ci).map fun t => if t = 0 then .int 0 else if t = 1 then .long 0 else .null
theorem fv_dfl {ad : Nat → Nat} {g z : GG} {r : RR} {c ci : Nat} (h : ∀ j, g c j = 0 ∧ z c j = 0 ∧ r c j = none) : fv ad g z r c ci = dfl ci := by
  unfold fv dfl
  apply List.ext_getElem?
  intro j
  simp only [List.getElem?_mapIdx, List.getElem?_map, (h j).1, (h j).2.1, (h j).2.2]
  rfl
variable {M : MI} {mc ms n0 : Nat} {Q : PQ} {ce0 sl : Nat} {sh : SH} {pc : Nat} {ls : List (Option AV)} {st : List AV} {g z : GG} {r : RR}
/-- the world has grown by a cell -/
theorem new_go {p : Program} {l : Launch} {e : Env} {s : State} {m : MethodId} {args : Array Value} {below : List Frame} {meth : Method} {cd : Code} {dC : Nat → ClassId} {dI : Nat → Nat → Nat} {cy : Nat → ClassId} {ad0 ad adK adV : Nat → Nat} {A : Nat → Prop} {H1 : Heap} {locs : List Loc} {Ls : Array Slot} {q : Nat} {x : Nat × Nat} {sh' : SH} {n : Nat} {ent : va_E} {ce1 sl1 pc1 : Nat}
    (hC : Cx M p s m args meth cd adK adV A) (hn : n0 ≤ sh.length) (hd0 : ∀ a, okr n0 a → ad a = ad0 a) (hst : ∀ i, i < 6 → ad (100000 + i) = adK i ∧ ad (100010 + i) = adV i ∧ ad (100020 + i) = adV (10 + i)) (hO : okh sh.length g z r) (hl : ∀ v, some v ∈ ls → okv sh.length v) (hs : ∀ v ∈ st, okv sh.length v) (hL : lv_has Ls M.2.2.1 (lvl ad ls))
    (hsh : sh ++ [x] = sh') (hlen : sh.length = n) (hlt : n < 100000) (hent : ent = ce cy (adN ad n q) g z r n x)
    (hP : va_P (dC, dI) vwCl (wd cy ad sh g z r ++ [(q, ent)]) H1) (hD : va_D A (wd cy ad sh g z r ++ [(q, ent)])) (hK : va_K (dC, dI) vwCl (tyL cy) s) (hS : va_S A s.heap H1 locs)
    (kk : RJ M mc ms n0 Q ce1 sl1 sh' pc1 ls (vR (some n) :: st) g z r) : W p l e M.2.2.2.2 s m args below meth cd H1 locs ce1 sl1 (MQ below (QC ad0 n0 dC dI cy A Q) args s mc ms A) (F0 m pc1 Ls (.ref q :: st.map (cv ad))) := by
  subst hsh
  subst hlen
  have ho := adN_o (ad := ad) (q := q) hlt
  have hl1 : (sh ++ [x]).length = sh.length + 1 := by simp
  have hw : wd cy ad sh g z r ++ [(q, ent)] = wd cy (adN ad sh.length q) (sh ++ [x]) g z r := by
    rw [wd_push hO.2.2 ho, adN_s, hent]
  rw [hw] at hP hD
  have K := kk p l e s m args below meth cd dC dI cy ad0 (adN ad sh.length q) adK adV A H1 locs Ls hC (by rw [hl1]; omega) (fun a ha => (ho a (ha.mono hn)).trans (hd0 a ha)) (fun i hi => ⟨(ho _ (Or.inr (by omega))).trans (hst i hi).1, (ho _ (Or.inr (by omega))).trans (hst i hi).2.1, (ho _ (Or.inr (by omega))).trans (hst i hi).2.2⟩) ⟨hP, hD, hK⟩ hS ⟨hO.1, hO.2.1, fun c k a h => (hO.2.2 c k a h).mono (by rw [hl1]; omega)⟩ (fun v hv => (hl v hv).mono (by rw [hl1]; omega)) (okc (v := vR (some sh.length)) (fun a ha => Or.inl (by injection ha with ha; rw [hl1]; omega)) (fun v hv => (hs v hv).mono (by rw [hl1]; omega))) (by rw [lvl_ad hl ho]; exact hL)
  have es : (vR (some sh.length) :: st).map (cv (adN ad sh.length q)) = .ref q :: st.map (cv ad) := by
    rw [List.map_cons]
    congr 1
    · simp [cv, va_rf, adN_s]
    · exact List.map_congr_left fun x hx => cv_eq (hs x hx) ho
  rw [es] at K
  exact K
theorem R_new {C : String} {T : u_T} {N ci index : Nat} {ty : Nat → FieldType} (n : Nat) (sh' : SH) (hsh : sh ++ [(ci, N)] = sh') (hlen : sh.length = n) (hlt : n < 100000) (hin : ∀ w ∈ u_ws C T N, w ∈ TB) (hty : ∀ k, k < N → parseFieldDescriptor (T k).2.2.1 = some (ty k)) (hcl : Cond.classLink M.1.cls index C ∈ TB) (hinst : Cond.instantiable C N ∈ TB) (hini : Cond.initialized C ∈ TB) (hc : vwCl[ci]? = some (C, T, N)) (hci : ci < 13) (hfs : ∀ j, j < N → defaultValue (ty j) = vp_V (dfl ci) j) (hce : ce0 + 1 ≤ M.2.2.2.2.cells) (hsl : sl + N ≤ M.2.2.2.2.slots) (hd : decode M.2.1 pc = .ok (.new index, 3)) (h0 : ∀ j, g n j = 0 ∧ z n j = 0 ∧ r n j = none)
    (kk : RJ M mc ms n0 Q (ce0 + 1) (sl + N) sh' (pc + 3) ls (vR (some n) :: st) g z r) : RJ M mc ms n0 Q ce0 sl sh pc ls st g z r := by
  intro p l e s m args below meth cd dC dI cy ad0 ad adK adV A H locs Ls hC hn hd0 hst hW hS hO hl hs hL
  have hts := hC.2.2.2.2.2.2.2.1
  refine va_new (ci := ci) (fs := dfl ci) (C := C) (T := T) (N := N) hC.1 hC.2.1 hts hin ty hty hC.2.2.2.2.2.1 (hts _ hcl) (hts _ hinst) (hts _ hini) hW.2.2 hW.1 hW.2.1 hS hC.2.2.2.2.2.2.2.2.2 hc hfs hce hsl hd (fun q H1 hP hD hS1 => ?_)
  exact new_go hC hn hd0 hst hO hl hs hL hsh hlen hlt (by rw [ce_obj hci, fv_dfl h0]) hP hD hW.2.2 hS1 kk
theorem newa_cls {dC : Nat → ClassId} {dI : Nat → Nat → Nat} {cy : Nat → ClassId} {s : State} {cA c1 : ClassId} {t : FieldType} (k : Nat) (hK : va_K (dC, dI) vwCl (tyL cy) s) (hk : (tyL cy)[k]? = some (c1, t)) (hN : ∀ cX, va_RA s cX t → s.vm.findClass ("[" ++ t.toString) = some cX) (hK' : va_K (dC, dI) vwCl (tyL cy ++ [(cA, t)]) s) : cA = c1 := by
  have h1 := hN _ (hK.2 k _ hk).2
  have h2 := hN _ (hK'.2 (tyL cy).length (cA, t) (by simp)).2
  rw [h1] at h2
  injection h2 with h2
  exact h2.symm
theorem R_newI {atype : ArrayType} {t : FieldType} {x : Int} {N : Nat} (n ti k : Nat) (sh' : SH) (hat : newarray.typeOf atype = t) (hsh : sh ++ [(k, N)] = sh') (hlen : sh.length = n) (hlt : n < 100000) (hk : k = 13 ∨ k = 14 ∨ k = 15 ∨ k = 17) (htk : ∀ cy : Nat → ClassId, (tyL cy)[ti]? = some (cy k, t)) (hRA : ∀ s cX, va_RA s cX t → s.vm.findClass ("[" ++ t.toString) = some cX) (hdf : defaultValue t = .int 0) (harr : Cond.arrayClass t ∈ TB) (hx0 : 0 ≤ x) (hxN : x.toNat = N) (hby : N * componentBytes t ≤ 536870912) (hce : ce0 + 1 ≤ M.2.2.2.2.cells) (hsl : sl + N ≤ M.2.2.2.2.slots) (hd : decode M.2.1 pc = .ok (.newarray atype, 2)) (h0 : ∀ j, g n j = 0)
    (kk : RJ M mc ms n0 Q (ce0 + 1) (sl + N) sh' (pc + 2) ls (vR (some n) :: st) g z r) : RJ M mc ms n0 Q ce0 sl sh pc ls (vI x :: st) g z r := by
  intro p l e s m args below meth cd dC dI cy ad0 ad adK adV A H locs Ls hC hn hd0 hst hW hS hO hl hs hL
  have hts := hC.2.2.2.2.2.2.2.1
  have hxi : inI x := okx hs
  refine va_newa (a0 := (N, .inl fun j => i32 (g n j))) hC.1 hC.2.1 (by rw [hat]; exact hts _ harr) hat hW.2.2 hW.1 hW.2.1 hS hC.2.2.2.2.2.2.2.2.2 (fun cA => ?_) ?_ (by rw [i32_clamp hxi]; exact hxN) hby hce hsl hd (fun q cA H1 hK1 hP hD hS1 => ?_)
  · simp only [h0, hdf]; rfl
  · rw [show (0 : Int32) = i32 0 from rfl, i32_lt hxi inI0]; omega
  · have hcA := newa_cls ti hW.2.2 (htk cy) (hRA s) hK1
    subst hcA
    exact new_go hC hn hd0 hst hO hl (okt hs) hL hsh hlen hlt (by rw [ce_i k hk]) hP hD hW.2.2 hS1 kk
theorem R_newJ {x : Int} {N : Nat} (n : Nat) (sh' : SH) (hsh : sh ++ [(16, N)] = sh') (hlen : sh.length = n) (hlt : n < 100000) (hx0 : 0 ≤ x) (hxN : x.toNat = N) (hby : N * componentBytes .long ≤ 536870912) (hce : ce0 + 1 ≤ M.2.2.2.2.cells) (hsl : sl + N ≤ M.2.2.2.2.slots) (hd : decode M.2.1 pc = .ok (.newarray .long, 2)) (h0 : ∀ j, z n j = 0)
    (kk : RJ M mc ms n0 Q (ce0 + 1) (sl + N) sh' (pc + 2) ls (vR (some n) :: st) g z r) : RJ M mc ms n0 Q ce0 sl sh pc ls (vI x :: st) g z r := by
  intro p l e s m args below meth cd dC dI cy ad0 ad adK adV A H locs Ls hC hn hd0 hst hW hS hO hl hs hL
  have hts := hC.2.2.2.2.2.2.2.1
  have hxi : inI x := okx hs
  refine va_newa (atype := .long) (ty := .long) (a0 := (N, .inr (.inl fun j => i64 (z n j)))) hC.1 hC.2.1 (hts _ ky_long) rfl hW.2.2 hW.1 hW.2.1 hS hC.2.2.2.2.2.2.2.2.2 (fun cA => ?_) ?_ (by rw [i32_clamp hxi]; exact hxN) hby hce hsl hd (fun q cA H1 hK1 hP hD hS1 => ?_)
  · simp only [h0]; rfl
  · rw [show (0 : Int32) = i32 0 from rfl, i32_lt hxi inI0]; omega
  · have hcA := newa_cls 3 hW.2.2 (c1 := cy 16) rfl (fun _ h => h) hK1
    subst hcA
    exact new_go hC hn hd0 hst hO hl (okt hs) hL hsh hlen hlt (by rw [ce_l]) hP hD hW.2.2 hS1 kk
theorem R_newQ {x : Int} {N index : Nat} (n : Nat) (sh' : SH) (hsh : sh ++ [(18, N)] = sh') (hlen : sh.length = n) (hlt : n < 100000) (hcl : Cond.classLink M.1.cls index "FontList$Custom" ∈ TB) (hx0 : 0 ≤ x) (hxN : x.toNat = N) (hby : N * 4 ≤ 536870912) (hce : ce0 + 1 ≤ M.2.2.2.2.cells) (hsl : sl + N ≤ M.2.2.2.2.slots) (hd : decode M.2.1 pc = .ok (.anewarray index, 3)) (h0 : ∀ j, r n j = none)
    (kk : RJ M mc ms n0 Q (ce0 + 1) (sl + N) sh' (pc + 3) ls (vR (some n) :: st) g z r) : RJ M mc ms n0 Q ce0 sl sh pc ls (vI x :: st) g z r := by
  intro p l e s m args below meth cd dC dI cy ad0 ad adK adV A H locs Ls hC hn hd0 hst hW hS hO hl hs hL
  have hts := hC.2.2.2.2.2.2.2.1
  have hxi : inI x := okx hs
  refine va_newq (C := "FontList$Custom") hC.1 hC.2.1 hC.2.2.2.2.2.1 (hts _ hcl) hC.2.2.2.2.2.2.2.2.1.2.2.2 hW.2.2 hW.1 hW.2.1 hS hC.2.2.2.2.2.2.2.2.2 ?_ (by rw [i32_clamp hxi]; exact hxN) hby hce hsl hd (fun q cA H1 hK1 hP hD hS1 => ?_)
  · rw [show (0 : Int32) = i32 0 from rfl, i32_lt hxi inI0]; omega
  · have hcA := newa_cls 5 hW.2.2 (c1 := cy 18) rfl (fun _ h => by obtain ⟨_, _, _, _, _, h⟩ := h; exact h) hK1
    subst hcA
    exact new_go hC hn hd0 hst hO hl (okt hs) hL hsh hlen hlt (by rw [ce_q]; simp only [h0]; rfl) hP hD hW.2.2 hS1 kk
end NEW
