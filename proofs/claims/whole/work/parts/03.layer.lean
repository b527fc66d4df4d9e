/-! THE LAYER: an abstract machine over ints as Int, references as places in a world; RJ wraps W, CT wraps Met -/
abbrev AV : Type := Int ⊕ (Int ⊕ Option Nat)
abbrev vI (x : Int) : AV := .inl x
abbrev vL (x : Int) : AV := .inr (.inl x)
abbrev vR (r : Option Nat) : AV := .inr (.inr r)
abbrev GG : Type := Nat → Nat → Int
abbrev RR : Type := Nat → Nat → Option Nat
abbrev SH : Type := List (Nat × Nat)
abbrev i32 (x : Int) : Int32 := Int32.ofInt x
abbrev i64 (x : Int) : Int64 := Int64.ofInt x
def inI (x : Int) : Prop := -2147483648 ≤ x ∧ x < 2147483648
def inL (x : Int) : Prop := -9223372036854775808 ≤ x ∧ x < 9223372036854775808
def w32 (x : Int) : Int := (x + 2147483648) % 4294967296 - 2147483648
def w64 (x : Int) : Int := (x + 9223372036854775808) % 18446744073709551616 - 9223372036854775808
def up2 (f : GG) (c k : Nat) (v : Int) : GG := fun c' k' => if c' = c ∧ k' = k then v else f c' k'
def upR (f : RR) (c k : Nat) (v : Option Nat) : RR := fun c' k' => if c' = c ∧ k' = k then v else f c' k'
def cv (ad : Nat → Nat) : AV → Value
  | .inl x => .int (i32 x)
  | .inr (.inl x) => .long (i64 x)
  | .inr (.inr r) => va_rf (r.map ad)
def okr (n a : Nat) : Prop := a < n ∨ 100000 ≤ a
def okv (n : Nat) : AV → Prop
  | .inl x => inI x
  | .inr (.inl x) => inL x
  | .inr (.inr r) => ∀ a, r = some a → okr n a
def okh (n : Nat) (g z : GG) (r : RR) : Prop := (∀ c k, inI (g c k)) ∧ (∀ c k, inL (z c k)) ∧ ∀ c k a, r c k = some a → okr n a
def fv (ad : Nat → Nat) (g z : GG) (r : RR) (c ci : Nat) : List Value := (fk ci).mapIdx fun j t => if t = 0 then .int (i32 (g c j)) else if t = 1 then .long (i64 (z c j)) else va_rf ((r c j).map ad)
def ce (cy : Nat → ClassId) (ad : Nat → Nat) (g z : GG) (r : RR) (c : Nat) (q : Nat × Nat) : va_E :=
  if q.1 < 13 then .inr (q.1, fv ad g z r c q.1)
  else if q.1 = 16 then .inl (cy 16, q.2, .inr (.inl fun j => i64 (z c j)))
  else if q.1 = 18 then .inl (cy 18, q.2, .inr (.inr (.inr (.inr fun j => (r c j).map ad))))
  else .inl (cy q.1, q.2, .inl fun j => i32 (g c j))
def wd (cy : Nat → ClassId) (ad : Nat → Nat) (sh : SH) (g z : GG) (r : RR) : va_W := sh.mapIdx fun c q => (ad c, ce cy ad g z r c q)
def tyL (cy : Nat → ClassId) : List (ClassId × FieldType) := [(cy 13, .byte), (cy 14, .char), (cy 15, .int), (cy 16, .long), (cy 17, .boolean), (cy 18, .object "FontList$Custom")]
def sxL : List Nat := [9, 8, 1, 1, 2, 3]
def sxB : List (List Int32) := [[110, 98, 120, 121, 119, 116, 97, 101, 99], [70, 102, 77, 109, 80, 81, 83, 68], [124], [38], [43, 45], [42, 47, 37]]
/-- the constants' texts, and the tables' words that a change of state may not carry by itself -/
def Sr (adK : Nat → Nat) (U : State) : Prop :=
  (vk_R "FontList$Family" 24 "nbxywtaec" (adK 0) U ∧ vk_R "FontList$Reader" 116 "nbxywtaec" (adK 0) U ∧ vk_R "FontList" 184 "FfMmPQSD" (adK 1) U ∧ vk_R "FontList$Reader" 62 "FfMmPQSD" (adK 1) U ∧ vk_R "FontList$Reader" 80 "|" (adK 2) U ∧ vk_R "FontList$Reader" 82 "&" (adK 3) U ∧ vk_R "FontList$Reader" 84 "+-" (adK 4) U ∧ vk_R "FontList$Reader" 86 "*/%" (adK 5) U) ∧
  (va_Nw (.methodLinkNest "FontList" 9 yX0_init "FontList") U ∧ va_Nw (.methodLinkNest "FontList$Books" 11 yX5_init "FontList") U ∧ va_Nw (.methodLinkNest "FontList$Books" 20 yX1_init "FontList") U ∧ va_Nw (.methodLinkNest "FontList$Books" 27 yX4_init "FontList") U ∧ va_Nw (.methodLinkNest "FontList" 18 yX8_init "FontList") U ∧ va_Nw (.methodLinkNest "FontList" 31 yX6_init "FontList") U ∧ va_Nw (.methodLinkNest "FontList$Reader" 17 yX2_init "FontList") U ∧ va_Nw (.methodLinkNest "FontList" 73 yX2_init "FontList") U) ∧ va_AO "FontList$Custom" U
/-- the constants' cells, and the statics that their methods read -/
def SZ (adK adV : Nat → Nat) (A : Nat → Prop) (U : State) (H : Heap) : Prop := vk_S 6 sxL sxB adK adV A U H ∧ va_Z "java/lang/String" "COMPACT_STRINGS" "Z" (.int 1) A U H ∧ (va_Z "jdk/internal/util/Preconditions" "SIOOBE_FORMATTER" "Ljava/util/function/BiFunction;" .null A U H ∨ va_Z "jdk/internal/util/Preconditions" "SIOOBE_FORMATTER" "Ljava/util/function/BiFunction;" (.ref (adV 10)) A U H)
theorem SZ.moved {adK adV : Nat → Nat} {A : Nat → Prop} {u U : State} {H : Heap} (hvm : u.vm.Alike U.vm) (h : SZ adK adV A u H) : SZ adK adV A U H := ⟨vk_S.moved hvm h.1, va_Z.moved hvm h.2.1, h.2.2.elim (fun q => Or.inl (va_Z.moved hvm q)) (fun q => Or.inr (va_Z.moved hvm q))⟩
theorem SZ.kept {adK adV : Nat → Nat} {A : Nat → Prop} {U : State} {H H1 : Heap} (h : SZ adK adV A U H) (hq : ∀ a : Nat, a < H.size → ¬ A a → H1[a]? = H[a]?) : SZ adK adV A U H1 := ⟨h.1.kept hq, h.2.1.kept hq, h.2.2.elim (fun q => Or.inl (q.kept hq)) (fun q => Or.inr (q.kept hq))⟩
theorem SZ.narrow {adK adV : Nat → Nat} {A B : Nat → Prop} {U : State} {H : Heap} (h : SZ adK adV A U H) (hAB : ∀ q, B q → A q) : SZ adK adV B U H := ⟨h.1.narrow hAB, h.2.1.narrow hAB, h.2.2.elim (fun q => Or.inl (q.narrow hAB)) (fun q => Or.inr (q.narrow hAB))⟩
def Sx (adK adV : Nat → Nat) (A : Nat → Prop) (U : State) (H : Heap) : Prop := SZ adK adV A U H ∧ Sr adK U
/-- name, code, locals, what it returns, its room -/
abbrev MI : Type := MethodName × ByteArray × Nat × Option FieldType × Room
def rmD (d mc ms : Nat) : Room := { frames := d, cells := mc, slots := ms, locals := 64 * d }
def lvl (ad : Nat → Nat) (ls : List (Option AV)) : List (Nat × Value) := (ls.mapIdx fun i o => o.map fun v => (i, cv ad v)).filterMap id
def Wd (dC : Nat → ClassId) (dI : Nat → Nat → Nat) (cy : Nat → ClassId) (ad : Nat → Nat) (A : Nat → Prop) (sh : SH) (g z : GG) (r : RR) (s : State) (H : Heap) : Prop :=
  va_P (dC, dI) vwCl (wd cy ad sh g z r) H ∧ va_D A (wd cy ad sh g z r) ∧ va_K (dC, dI) vwCl (tyL cy) s
abbrev PQ : Type := Option AV → SH → GG → GG → RR → Prop
def QC (ad : Nat → Nat) (n0 : Nat) (dC : Nat → ClassId) (dI : Nat → Nat → Nat) (cy : Nat → ClassId) (A : Nat → Prop) (Q : PQ) : Array Value → State → Outcome → State → Prop := fun _ st o t =>
  (∃ (v : Option AV) (sh' : SH) (ad' : Nat → Nat) (g' z' : GG) (r' : RR), o = .returned (v.map (cv ad')) ∧ Q v sh' g' z' r' ∧ n0 ≤ sh'.length ∧ (∀ a, okr n0 a → ad' a = ad a) ∧ okh sh'.length g' z' r' ∧ (∀ x, v = some x → okv sh'.length x) ∧ Wd dC dI cy ad' A sh' g' z' r' t t.heap) ∧ va_F A st t
def Cx (M : MI) (p : Program) (s : State) (m : MethodId) (args : Array Value) (meth : Method) (c : Code) (adK adV : Nat → Nat) (A : Nat → Prop) : Prop :=
  p.tables.exec = Jvm.exec ∧ c.code = M.2.1 ∧ c.maxLocals = M.2.2.1 ∧ meth.sig.returnType = M.2.2.2.1 ∧ meth.locks = false ∧ s.vm.findClass M.1.cls = some m.cls ∧ meth.name = M.1.name ∧ (∀ w ∈ TB, w.before args s = true) ∧ Sx adK adV A s s.heap ∧ ∀ q, s.heap.size ≤ q → A q
def RJ (M : MI) (mc ms n0 : Nat) (Q : PQ) (ce sl : Nat) (sh : SH) (pc : Nat) (ls : List (Option AV)) (st : List AV) (g z : GG) (r : RR) : Prop :=
  ∀ (p : Program) (l : Launch) (e : Env) (s : State) (m : MethodId) (args : Array Value) (below : List Frame) (meth : Method) (c : Code) (dC : Nat → ClassId) (dI : Nat → Nat → Nat) (cy : Nat → ClassId) (ad0 ad adK adV : Nat → Nat) (A : Nat → Prop) (H : Heap) (locs : List Loc) (Ls : Array Slot),
    Cx M p s m args meth c adK adV A → n0 ≤ sh.length → (∀ a, okr n0 a → ad a = ad0 a) → (∀ i, i < 6 → ad (100000 + i) = adK i ∧ ad (100010 + i) = adV i ∧ ad (100020 + i) = adV (10 + i)) → Wd dC dI cy ad A sh g z r s H → va_S A s.heap H locs → okh sh.length g z r → (∀ v, some v ∈ ls → okv sh.length v) → (∀ v ∈ st, okv sh.length v) → lv_has Ls M.2.2.1 (lvl ad ls) →
    W p l e M.2.2.2.2 s m args below meth c H locs ce sl (MQ below (QC ad0 n0 dC dI cy A Q) args s mc ms A) (F0 m pc Ls (st.map (cv ad)))
/-! numbers -/
theorem w32_in (x : Int) : inI (w32 x) := by unfold inI w32; omega
theorem w64_in (x : Int) : inL (w64 x) := by unfold inL w64; omega
theorem w32_id {x : Int} (h : inI x) : w32 x = x := by unfold inI at h; unfold w32; omega
theorem w64_id {x : Int} (h : inL x) : w64 x = x := by unfold inL at h; unfold w64; omega
theorem t32 {x : Int} (h : inI x) : (i32 x).toInt = x := by
  unfold inI at h
  rw [Int32.toInt_ofInt, Int.bmod_eq_of_le_mul_two (by simp [Int32.size]; omega) (by simp [Int32.size]; omega)]
theorem t64 {x : Int} (h : inL x) : (i64 x).toInt = x := by
  unfold inL at h
  rw [Int64.toInt_ofInt, Int.bmod_eq_of_le_mul_two (by simp [Int64.size]; omega) (by simp [Int64.size]; omega)]
theorem in32 (x : Int32) : inI x.toInt := ⟨Int32.le_toInt x, Int32.toInt_lt x⟩
theorem in64 (x : Int64) : inL x.toInt := ⟨Int64.le_toInt x, Int64.toInt_lt x⟩
theorem o32 (x : Int32) : i32 x.toInt = x := Int32.ofInt_toInt x
theorem o64 (x : Int64) : i64 x.toInt = x := Int64.ofInt_toInt x
theorem e32 {x : Int32} {y : Int} (h : x.toInt = y) : i32 y = x := by rw [← h]; exact o32 x
theorem e64 {x : Int64} {y : Int} (h : x.toInt = y) : i64 y = x := by rw [← h]; exact o64 x
theorem wb32 (x : Int) : Int.bmod x (2 ^ 32) = w32 x := by unfold w32; rw [Int.bmod_def]; omega
theorem wb64 (x : Int) : Int.bmod x (2 ^ 64) = w64 x := by unfold w64; rw [Int.bmod_def]; omega
theorem i32_w (x : Int) : i32 (w32 x) = i32 x := e32 (by rw [Int32.toInt_ofInt]; exact wb32 x)
theorem i64_w (x : Int) : i64 (w64 x) = i64 x := e64 (by rw [Int64.toInt_ofInt]; exact wb64 x)
theorem i32_lt {a b : Int} (ha : inI a) (hb : inI b) : i32 a < i32 b ↔ a < b := by rw [Int32.lt_iff_toInt_lt, t32 ha, t32 hb]
theorem i32_le {a b : Int} (ha : inI a) (hb : inI b) : i32 a ≤ i32 b ↔ a ≤ b := by rw [Int32.le_iff_toInt_le, t32 ha, t32 hb]
theorem i32_eq {a b : Int} (ha : inI a) (hb : inI b) : i32 a = i32 b ↔ a = b := by rw [← Int32.toInt_inj, t32 ha, t32 hb]
theorem inI0 : inI 0 := by unfold inI; omega
theorem i32_clamp {a : Int} (ha : inI a) : (i32 a).toNatClampNeg = a.toNat := by rw [Int32.toNatClampNeg, t32 ha]
theorem vp_inI {a : Int} {n : Nat} (ha : inI a) (h0 : 0 ≤ a) (h1 : a < n) : vp_in (i32 a) n := by
  unfold vp_in
  rw [i32_clamp ha, show (0 : Int32) = i32 0 from rfl, i32_lt ha inI0]
  omega
/-! the world -/
theorem okr.mono {n n' a : Nat} (h : n ≤ n') (q : okr n a) : okr n' a := by unfold okr at *; omega
theorem okv.mono {n n' : Nat} {v : AV} (h : n ≤ n') (q : okv n v) : okv n' v := by
  match v with
  | .inl _ => exact q
  | .inr (.inl _) => exact q
  | .inr (.inr _) => exact fun a ha => (q a ha).mono h
theorem cv_eq {n : Nat} {v : AV} {ad ad' : Nat → Nat} (hv : okv n v) (h : ∀ a, okr n a → ad' a = ad a) : cv ad' v = cv ad v := by
  match v with
  | .inl _ => rfl
  | .inr (.inl _) => rfl
  | .inr (.inr none) => rfl
  | .inr (.inr (some a)) => simp [cv, va_rf, h a (hv a rfl)]
theorem wd_get {cy : Nat → ClassId} {ad : Nat → Nat} {sh : SH} {g z : GG} {r : RR} {c : Nat} {q : Nat × Nat} (h : sh[c]? = some q) : (wd cy ad sh g z r)[c]? = some (ad c, ce cy ad g z r c q) := by
  simp [wd, List.getElem?_mapIdx, h]
theorem wd_len {cy : Nat → ClassId} {ad : Nat → Nat} {sh : SH} {g z : GG} {r : RR} : (wd cy ad sh g z r).length = sh.length := by simp [wd]
theorem wd_set {cy : Nat → ClassId} {ad : Nat → Nat} {sh : SH} {g z g' z' : GG} {r r' : RR} {c : Nat} {q : Nat × Nat} (h : sh[c]? = some q) {x : va_E} (hx : x = ce cy ad g' z' r' c q) (ho : ∀ c', c' ≠ c → g' c' = g c' ∧ z' c' = z c' ∧ r' c' = r c') : (wd cy ad sh g z r).set c (ad c, x) = wd cy ad sh g' z' r' := by
  subst hx
  apply List.ext_getElem?
  intro j
  rw [List.getElem?_set, wd_len]
  by_cases hj : c = j
  · subst hj
    have hl : c < sh.length := (List.getElem?_eq_some_iff.mp h).1
    rw [if_pos rfl, if_pos hl]
    simp only [wd, List.getElem?_mapIdx, h, Option.map_some]
  · rw [if_neg hj]
    obtain ⟨e1, e2, e3⟩ := ho j (fun e => hj e.symm)
    simp only [wd, List.getElem?_mapIdx]
    cases sh[j]? with
    | none => rfl
    | some q' => simp [ce, fv, e1, e2, e3]
theorem up2_ne {f : GG} {c k : Nat} {v : Int} {c' : Nat} (h : c' ≠ c) : up2 f c k v c' = f c' := by funext k'; simp [up2, h]
theorem upR_ne {f : RR} {c k : Nat} {v : Option Nat} {c' : Nat} (h : c' ≠ c) : upR f c k v c' = f c' := by funext k'; simp [upR, h]
theorem up2_in {f : GG} (hf : ∀ c k, inI (f c k)) {c k : Nat} {v : Int} (hv : inI v) : ∀ c' k', inI (up2 f c k v c' k') := by
  intro c' k'
  unfold up2
  split
  · exact hv
  · exact hf c' k'
theorem up2_inL {f : GG} (hf : ∀ c k, inL (f c k)) {c k : Nat} {v : Int} (hv : inL v) : ∀ c' k', inL (up2 f c k v c' k') := by
  intro c' k'
  unfold up2
  split
  · exact hv
  · exact hf c' k'
theorem lvl_mem {ad : Nat → Nat} {ls : List (Option AV)} {q : Nat × Value} : q ∈ lvl ad ls ↔ ∃ i v, ls[i]? = some (some v) ∧ q = (i, cv ad v) := by
  simp only [lvl, List.mem_filterMap, id_eq, List.mem_mapIdx]
  constructor
  · rintro ⟨o, ⟨i, hi, rfl⟩, h⟩
    cases hv : ls[i] with
    | none => simp [hv] at h
    | some v => exact ⟨i, v, by rw [List.getElem?_eq_getElem hi, hv], by simpa [hv] using h.symm⟩
  · rintro ⟨i, v, hi, rfl⟩
    obtain ⟨h1, h2⟩ := List.getElem?_eq_some_iff.mp hi
    exact ⟨some (i, cv ad v), ⟨i, h1, by simp [h2]⟩, rfl⟩
theorem lvl_at {ad : Nat → Nat} {Ls : Array Slot} {nL : Nat} {ls : List (Option AV)} (h : lv_has Ls nL (lvl ad ls)) {i : Nat} {v : AV} (hi : ls[i]? = some (some v)) : Ls[i]? = some (.val (cv ad v)) := h.2.2 (i, cv ad v) (lvl_mem.mpr ⟨i, v, hi, rfl⟩)
theorem lvl_ad {n : Nat} {ad ad' : Nat → Nat} {ls : List (Option AV)} (hl : ∀ v, some v ∈ ls → okv n v) (h : ∀ a, okr n a → ad' a = ad a) : lvl ad' ls = lvl ad ls := by
  unfold lvl
  congr 1
  apply List.ext_getElem?
  intro i
  simp only [List.getElem?_mapIdx]
  cases hi : ls[i]? with
  | none => rfl
  | some o =>
    cases o with
    | none => rfl
    | some v => simp [cv_eq (hl v (List.mem_of_getElem? hi)) h]
/-- the place before holds no long -/
def nlg (ls : List (Option AV)) (i : Nat) : Bool := match i with
  | 0 => true
  | j + 1 => match ls[j]? with
    | some (some (.inr (.inl _))) => false
    | _ => true
theorem cv_cat {ad : Nat → Nat} {v : AV} (h : (cv ad v).category = 2) : ∃ x, v = vL x := by
  match v with
  | .inl _ => simp [cv, Value.category] at h
  | .inr (.inl x) => exact ⟨x, rfl⟩
  | .inr (.inr none) => simp [cv, va_rf, Value.category] at h
  | .inr (.inr (some _)) => simp [cv, va_rf, Value.category] at h
theorem lvl_st1 {ad : Nat → Nat} {Ls : Array Slot} {nL i : Nat} {ls : List (Option AV)} {v : AV} (hn : nlg ls i = true) (h : lv_has Ls nL ((i, cv ad v) :: (lvl ad ls).filter (fun q => !(q.1 == i) && !(q.1 + 1 == i && q.2.category == 2)))) : lv_has Ls nL (lvl ad (ls.set i (some v))) := by
  refine ⟨h.1, h.2.1, fun q hq => h.2.2 q ?_⟩
  obtain ⟨j, u, hj, rfl⟩ := lvl_mem.mp hq
  rw [List.getElem?_set] at hj
  by_cases hij : i = j
  · subst hij
    simp at hj
    obtain ⟨-, rfl⟩ := hj
    exact List.mem_cons_self
  · rw [if_neg hij] at hj
    refine List.mem_cons_of_mem _ (List.mem_filter.mpr ⟨lvl_mem.mpr ⟨j, u, hj, rfl⟩, ?_⟩)
    have h1 : ¬ (j = i) := fun e => hij e.symm
    simp only [Bool.and_eq_true, Bool.not_eq_true', beq_eq_false_iff_ne, ne_eq, h1, not_false_eq_true, true_and]
    by_cases h2 : j + 1 = i
    · subst h2
      simp only [beq_self_eq_true, Bool.true_and, beq_eq_false_iff_ne, ne_eq]
      intro hc
      obtain ⟨x, rfl⟩ := cv_cat hc
      simp [nlg, hj] at hn
    · simp [h2]
theorem lvl_st2 {ad : Nat → Nat} {Ls : Array Slot} {nL i : Nat} {ls : List (Option AV)} {v : AV} (hn : nlg ls i = true) (h : lv_has Ls nL ((i, cv ad v) :: (lvl ad ls).filter (fun q => !(q.1 == i) && (!(q.1 == i + 1) && !(q.1 + 1 == i && q.2.category == 2))))) : lv_has Ls nL (lvl ad ((ls.set i (some v)).set (i + 1) none)) := by
  refine ⟨h.1, h.2.1, fun q hq => h.2.2 q ?_⟩
  obtain ⟨j, u, hj, rfl⟩ := lvl_mem.mp hq
  rw [List.getElem?_set] at hj
  by_cases h3 : i + 1 = j
  · rw [if_pos h3] at hj
    split at hj <;> simp at hj
  rw [if_neg h3, List.getElem?_set] at hj
  by_cases hij : i = j
  · subst hij
    simp at hj
    obtain ⟨-, rfl⟩ := hj
    exact List.mem_cons_self
  · rw [if_neg hij] at hj
    refine List.mem_cons_of_mem _ (List.mem_filter.mpr ⟨lvl_mem.mpr ⟨j, u, hj, rfl⟩, ?_⟩)
    have h1 : ¬ (j = i) := fun e => hij e.symm
    have h4 : ¬ (j = i + 1) := fun e => h3 e.symm
    simp only [Bool.and_eq_true, Bool.not_eq_true', beq_eq_false_iff_ne, ne_eq, h1, h4, not_false_eq_true, true_and]
    by_cases h2 : j + 1 = i
    · subst h2
      simp only [beq_self_eq_true, Bool.true_and, beq_eq_false_iff_ne, ne_eq]
      intro hc
      obtain ⟨x, rfl⟩ := cv_cat hc
      simp [nlg, hj] at hn
    · simp [h2]
theorem set_ok {n : Nat} {ls : List (Option AV)} {i : Nat} {o : Option AV} (h : ∀ v, some v ∈ ls → okv n v) (ho : ∀ v, o = some v → okv n v) : ∀ v, some v ∈ ls.set i o → okv n v := by
  intro v hv
  rcases List.mem_or_eq_of_mem_set hv with h1 | h1
  · exact h v h1
  · exact ho v h1.symm
