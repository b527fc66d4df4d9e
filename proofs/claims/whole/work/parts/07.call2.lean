section CALL2
variable {M : MI} {mc ms n0 : Nat} {Q : PQ} {ce sl : Nat} {sh : SH} {pc : Nat} {ls : List (Option AV)} {st : List AV} {g z : GG} {r : RR}
theorem run_go {p : Program} {l : Launch} {e : Env} {s : State} {m : MethodId} {args : Array Value} {below : List Frame} {meth : Method} {cd : Code} {dC : Nat → ClassId} {dI : Nat → Nat → Nat} {cy : Nat → ClassId} {ad0 ad adK adV : Nat → Nat} {A : Nat → Prop} {H : Heap} {locs : List Loc} {Ls : Array Slot} {mc' ms' : Nat} {Q' : PQ} {stk : List Value} {a : Array Value}
    (hC : Cx M p s m args meth cd adK adV A) (hn : n0 ≤ sh.length) (hd0 : ∀ a, okr n0 a → ad a = ad0 a) (hst : ∀ i, i < 6 → ad (100000 + i) = adK i ∧ ad (100010 + i) = adV i ∧ ad (100020 + i) = adV (10 + i)) (hW : Wd dC dI cy ad A sh g z r s H) (hS : va_S A s.heap H locs) (hl : ∀ v, some v ∈ ls → okv sh.length v) (hs : ∀ v ∈ st, okv sh.length v) (hL : lv_has Ls M.2.2.1 (lvl ad ls))
    (hrun : va_Run p l e M.2.2.2.2 s m args below meth cd H locs ce sl mc' ms' (F0 m pc Ls stk) (st.map (cv ad)) (QC ad sh.length dC dI cy (va_A (wd cy ad sh g z r) H.size) Q' a) (va_A (wd cy ad sh g z r) H.size))
    (kk : ∀ v sh' g' z' r', Q' v sh' g' z' r' → RJ M mc ms n0 Q (ce + mc') (sl + ms') sh' (pc + 3) ls (v.toList ++ st) g' z' r') :
    W p l e M.2.2.2.2 s m args below meth cd H locs ce sl (MQ below (QC ad0 n0 dC dI cy A Q) args s mc ms A) (F0 m pc Ls stk) := by
  have hsub : ∀ q, va_A (wd cy ad sh g z r) H.size q → A q := by
    intro q hq
    rcases hq with ⟨k, e, hk⟩ | hq
    · exact hW.2.1.2 k _ hk
    · exact hC.2.2.2.2.2.2.2.2.2 q (Nat.le_trans hS.1 hq)
  intro T hT X
  obtain ⟨v, st₀, t, T', L, h0, X', hLL, e1, e2, hq, stp⟩ := hrun T hT X
  obtain ⟨⟨v', sh', ad', g', z', r', hv, hQ, hn', had, hOk, hvok, hP', hD', -⟩, hF1, hF2⟩ := hq
  have hv : v = v'.map (cv ad') := by injection hv
  rw [h0] at hF1 hF2
  have had' : ∀ a, okr n0 a → ad' a = ad0 a := fun a ha => (had a (ha.mono hn)).trans (hd0 a ha)
  have hst' : ∀ i, i < 6 → ad' (100000 + i) = adK i ∧ ad' (100010 + i) = adV i ∧ ad' (100020 + i) = adV (10 + i) := fun i hi => ⟨(had _ (Or.inr (by omega))).trans (hst i hi).1, (had _ (Or.inr (by omega))).trans (hst i hi).2.1, (had _ (Or.inr (by omega))).trans (hst i hi).2.2⟩
  have hS' : va_S A s.heap T'.heap (locs ++ L) := by
    refine ⟨Nat.le_trans hS.1 (by rw [e1]; exact hF1), fun q h1 h2 => ?_, fun q hq => ?_⟩
    · rw [e1, hF2 q (Nat.lt_of_lt_of_le h1 hS.1) (fun w => h2 (hsub q w))]
      exact hS.2.1 q h1 h2
    · rcases List.mem_append.mp hq with h | h
      · exact hS.2.2 q h
      · exact hsub _ (hLL q h)
  have hlv : lvl ad' ls = lvl ad ls := lvl_ad hl had
  have K := kk v' sh' g' z' r' hQ p l e s m args below meth cd dC dI cy ad0 ad' adK adV A T'.heap (locs ++ L) Ls hC (Nat.le_trans hn hn') had' hst' ⟨by rw [e1]; exact hP', hD'.weaken (fun k q _ h => hsub _ h), hW.2.2⟩ hS' hOk (fun v hv => (hl v hv).mono hn') (by
    intro x hx
    rcases List.mem_append.mp hx with h | h
    · exact hvok x (by simpa using h)
    · exact (hs x h).mono hn') (by rw [hlv]; exact hL)
  obtain ⟨t2, a1, b1⟩ := K T' rfl X'
  refine ⟨t2, stp t2 ?_, b1⟩
  have es : (v'.toList ++ st).map (cv ad') = v.toList ++ st.map (cv ad) := by
    rw [List.map_append, hv]
    congr 1
    · cases v' <;> rfl
    · exact List.map_congr_left fun x hx => cv_eq (hs x hx) had
  rw [es] at a1
  exact a1
def MV (M : MI) (n : Nat) : Prop := Cond.initialized M.1.cls ∈ TB ∧ Cond.code M.1 M.2.1 M.2.2.1 M.2.2.2.1 ∈ TB ∧ (M.1.cls ≠ "java/lang/invoke/MethodHandle" ∧ M.1.cls ≠ "java/lang/invoke/VarHandle" ∧ (parseMethodDescriptor M.1.desc).map (fun d => d.parameters.length) = some n)
def rmOK (M M' : MI) (mc' ms' ce sl : Nat) : Prop := M'.2.2.2.2.cells = mc' ∧ M'.2.2.2.2.slots = ms' ∧ (M'.2.2.2.2.frames + 1 ≤ M.2.2.2.2.frames ∧ 8 + (M'.2.2.1 + 11) + M'.2.2.2.2.locals ≤ M.2.2.2.2.locals) ∧ (ce + mc' ≤ M.2.2.2.2.cells ∧ sl + ms' ≤ M.2.2.2.2.slots)
theorem cat_sum {ad : Nat → Nat} (st : List AV) : ((st.map (cv ad)).map fun v => v.category).sum ≤ 2 * st.length := by
  induction st with
  | nil => simp
  | cons v t ih =>
    have : (cv ad v).category ≤ 2 := by rcases lv_cat (cv ad v) with q | q <;> omega
    simp only [List.map_cons, List.sum_cons, List.length_cons]
    omega
theorem good_TB {M' : MI} (hv : Cond.code M'.1 M'.2.1 M'.2.2.1 M'.2.2.2.1 ∈ TB) : GoodIn TB (Cond.code M'.1 M'.2.1 M'.2.2.1 M'.2.2.2.1 :: TB) := by
  intro w hw
  have : w ∈ TB := by
    rcases List.mem_cons.mp hw with h | h
    · rw [h]; exact hv
    · exact h
  exact ⟨this, good_of_word (TB_good w this)⟩
theorem good_app {ws ws' : List Cond} (h : ∀ w ∈ ws, w ∈ TB) (h' : GoodIn TB ws') : GoodIn TB (ws ++ ws') := by
  intro w hw
  rcases List.mem_append.mp hw with q | q
  · exact ⟨h w q, good_of_word (TB_good w (h w q))⟩
  · exact h' w q
theorem PC.at {p : Program} {s : State} {m : MethodId} {args : Array Value} {meth : Method} {cd : Code} {dC : Nat → ClassId} {dI : Nat → Nat → Nat} {cy : Nat → ClassId} {ad adK adV : Nat → Nat} {A : Nat → Prop} {H : Heap} {locs : List Loc} {av : List AV}
    (hC : Cx M p s m args meth cd adK adV A) (hW : Wd dC dI cy ad A sh g z r s H) (hS : va_S A s.heap H locs) : ∀ U : State, U.heap = H → s.WarmedH U.vm → PC dC dI cy ad adK adV sh g z r H.size av (av.map (cv ad)).toArray U := by
  intro U hU hWm
  have hsub : ∀ q, va_A (wd cy ad sh g z r) H.size q → A q := by
    intro q hq
    rcases hq with ⟨k, e, hk⟩ | hq
    · exact hW.2.1.2 k _ hk
    · exact hC.2.2.2.2.2.2.2.2.2 q (Nat.le_trans hS.1 hq)
  refine ⟨rfl, by rw [hU], by rw [hU]; exact hW.1, va_K.moved hWm.alike hW.2.2, hW.2.1.weaken (fun _ _ _ _ => trivial), ?_, hC.2.2.2.2.2.2.2.2.1.2.warm hWm⟩
  rw [hU]
  exact ((hC.2.2.2.2.2.2.2.2.1.1.kept (fun q h1 h2 => hS.2.1 q h1 h2)).narrow hsub).moved hWm.alike
theorem R_callV {M' : MI} {mc' ms' : Nat} {Q' : PQ} {as : List AV} {c ci n2 index : Nat} {T : u_T} {N : Nat} (hct : CT M' mc' ms' sh (vR (some c) :: as) g z r Q') (hv : MV M' as.length) (hi : Cond.instanceMethod M'.1 ∈ TB) (hse : Cond.selects M'.1.cls M'.1 M'.1 ∈ TB) (hk : Cond.methodLink M.1.cls index M'.1 ∈ TB) (hs0 : sh[c]? = some (ci, n2)) (hc : vwCl[ci]? = some (M'.1.cls, T, N)) (hci : ci < 13) (hrm : rmOK M M' mc' ms' ce sl) (hst4 : st.length ≤ 4) (hd : decode M.2.1 pc = .ok (.invokevirtual index, 3))
    (kk : ∀ v sh' g' z' r', Q' v sh' g' z' r' → RJ M mc ms n0 Q (ce + mc') (sl + ms') sh' (pc + 3) ls (v.toList ++ st) g' z' r') : RJ M mc ms n0 Q ce sl sh pc ls (as.reverse ++ vR (some c) :: st) g z r := by
  intro p l e s m args below meth cd dC dI cy ad0 ad adK adV A H locs Ls hC hn hd0 hst hW hS hO hl hs hL
  have hs1 : ∀ v ∈ st, okv sh.length v := fun v h => hs v (List.mem_append_right _ (List.mem_cons_of_mem _ h))
  have hs2 : ∀ v ∈ vR (some c) :: as, okv sh.length v := fun v h => by
    rcases List.mem_cons.mp h with q | q
    · rw [q]; exact hs _ (List.mem_append_right _ List.mem_cons_self)
    · exact hs v (List.mem_append_left _ (List.mem_reverse.mpr q))
  have hM := hct l dC dI cy ad adK adV H.size hst hO hs2
  refine run_go hC hn hd0 hst hW hS hl hs1 hL (va_runV (bytes := M'.2.1) (maxL := M'.2.2.1) (ret := M'.2.2.2.1) (As := as.map (cv ad)) (b := ad c) (C := M'.1.cls) (n := as.length) ⟨hC.1, hC.2.1, hC.2.2.1, hC.2.2.2.2.2.1, hC.2.2.2.2.2.2.2.1⟩ hM ?_ ⟨PC.blind, va_recv hW.2.2 hW.1 hc (by rw [wd_get hs0, ce_obj hci]), PC.at hC hW hS⟩ rfl (by rw [List.length_map]) hL.1 ?_ ?_ hd hrm.2.2.2) kk
  · refine cwV as.length hC.2.2.2.2.2.2.2.1 (good_app (fun w hw => ?_) (good_TB hv.2.1)) rfl hrm.1 hrm.2.1 ⟨rfl, hv.2.2⟩ hrm.2.2.1
    simp only [List.mem_cons, List.not_mem_nil, or_false] at hw
    rcases hw with rfl | rfl | rfl | rfl
    · exact hk
    · exact hi
    · exact hse
    · exact hv.1
  · simp only [List.map_append, List.map_cons, List.map_reverse]; rfl
  · exact lv_room (Nat.le_trans (cat_sum st) (by omega))
theorem R_callS {M' : MI} {mc' ms' : Nat} {Q' : PQ} {as : List AV} {index : Nat} (hct : CT M' mc' ms' sh as g z r Q') (hv : MV M' as.length) (hi : Cond.static M'.1 ∈ TB) (hk : Cond.methodLink M.1.cls index M'.1 ∈ TB) (hrm : rmOK M M' mc' ms' ce sl) (hst4 : st.length ≤ 4) (hd : decode M.2.1 pc = .ok (.invokestatic index, 3))
    (kk : ∀ v sh' g' z' r', Q' v sh' g' z' r' → RJ M mc ms n0 Q (ce + mc') (sl + ms') sh' (pc + 3) ls (v.toList ++ st) g' z' r') : RJ M mc ms n0 Q ce sl sh pc ls (as.reverse ++ st) g z r := by
  intro p l e s m args below meth cd dC dI cy ad0 ad adK adV A H locs Ls hC hn hd0 hst hW hS hO hl hs hL
  have hs1 : ∀ v ∈ st, okv sh.length v := fun v h => hs v (List.mem_append_right _ h)
  have hs2 : ∀ v ∈ as, okv sh.length v := fun v h => hs v (List.mem_append_left _ (List.mem_reverse.mpr h))
  have hM := hct l dC dI cy ad adK adV H.size hst hO hs2
  refine run_go hC hn hd0 hst hW hS hl hs1 hL (va_runS (bytes := M'.2.1) (maxL := M'.2.2.1) (ret := M'.2.2.2.1) (As := as.map (cv ad)) (n := as.length) ⟨hC.1, hC.2.1, hC.2.2.1, hC.2.2.2.2.2.1, hC.2.2.2.2.2.2.2.1⟩ hM ?_ ⟨PC.blind, PC.at hC hW hS⟩ rfl (by rw [List.length_map]) hL.1 ?_ ?_ hd hrm.2.2.2) kk
  · refine va_cwS as.length hC.2.2.2.2.2.2.2.1 (good_app (fun w hw => ?_) (good_TB hv.2.1)) rfl hrm.1 hrm.2.1 hv.2.2 hrm.2.2.1
    simp only [List.mem_cons, List.not_mem_nil, or_false] at hw
    rcases hw with rfl | rfl | rfl
    · exact hk
    · exact hi
    · exact hv.1
  · simp only [List.map_append, List.map_reverse]
  · exact lv_room (Nat.le_trans (cat_sum st) (by omega))
theorem R_callI {M' : MI} {mc' ms' : Nat} {Q' : PQ} {as : List AV} {c index : Nat} (hct : CT M' mc' ms' sh (vR (some c) :: as) g z r Q') (hv : MV M' as.length) (hr0 : M'.2.2.2.1 = none) (hnm : M'.1.name = "<init>") (hi : Cond.instanceMethod M'.1 ∈ TB) (hk : Cond.methodLink M.1.cls index M'.1 ∈ TB) (hrm : rmOK M M' mc' ms' ce sl) (hst4 : st.length ≤ 4) (hd : decode M.2.1 pc = .ok (.invokespecial index, 3))
    (kk : ∀ v sh' g' z' r', Q' v sh' g' z' r' → RJ M mc ms n0 Q (ce + mc') (sl + ms') sh' (pc + 3) ls (v.toList ++ st) g' z' r') : RJ M mc ms n0 Q ce sl sh pc ls (as.reverse ++ vR (some c) :: st) g z r := by
  intro p l e s m args below meth cd dC dI cy ad0 ad adK adV A H locs Ls hC hn hd0 hst hW hS hO hl hs hL
  have hs1 : ∀ v ∈ st, okv sh.length v := fun v h => hs v (List.mem_append_right _ (List.mem_cons_of_mem _ h))
  have hs2 : ∀ v ∈ vR (some c) :: as, okv sh.length v := fun v h => by
    rcases List.mem_cons.mp h with q | q
    · rw [q]; exact hs _ (List.mem_append_right _ List.mem_cons_self)
    · exact hs v (List.mem_append_left _ (List.mem_reverse.mpr q))
  have hM := hct l dC dI cy ad adK adV H.size hst hO hs2
  refine run_go hC hn hd0 hst hW hS hl hs1 hL (va_runI (As := as.map (cv ad)) (b := ad c) (n := as.length) ⟨hC.1, hC.2.1, hC.2.2.1, hC.2.2.2.2.2.1, hC.2.2.2.2.2.2.2.1⟩ hM (bytes := M'.2.1) (maxL := M'.2.2.1) ?_ ⟨PC.blind, PC.at hC hW hS⟩ rfl (by rw [List.length_map]) hL.1 ?_ ?_ hd hrm.2.2.2) kk
  · exact cwI as.length hC.2.2.2.2.2.2.2.1 (good_TB hv.2.1) (by rw [hr0]) hrm.1 hrm.2.1 (hC.2.2.2.2.2.2.2.1 _ hv.1) (hC.2.2.2.2.2.2.2.1 _ hk) (hC.2.2.2.2.2.2.2.1 _ hi) hnm hv.2.2 hrm.2.2.1
  · simp only [List.map_append, List.map_cons, List.map_reverse]; rfl
  · exact lv_room (Nat.le_trans (cat_sum st) (by omega))
theorem R_callN {M' : MI} {mc' ms' : Nat} {Q' : PQ} {as : List AV} {c index : Nat} {host : String} (hct : CT M' mc' ms' sh (vR (some c) :: as) g z r Q') (hv : MV M' as.length) (hr0 : M'.2.2.2.1 = none) (hnm : M'.1.name = "<init>") (hi : Cond.instanceMethod M'.1 ∈ TB) (hk : ∀ adK U, Sr adK U → va_Nw (.methodLinkNest M.1.cls index M'.1 host) U) (hrm : rmOK M M' mc' ms' ce sl) (hst4 : st.length ≤ 4) (hd : decode M.2.1 pc = .ok (.invokespecial index, 3))
    (kk : ∀ v sh' g' z' r', Q' v sh' g' z' r' → RJ M mc ms n0 Q (ce + mc') (sl + ms') sh' (pc + 3) ls (v.toList ++ st) g' z' r') : RJ M mc ms n0 Q ce sl sh pc ls (as.reverse ++ vR (some c) :: st) g z r := by
  intro p l e s m args below meth cd dC dI cy ad0 ad adK adV A H locs Ls hC hn hd0 hst hW hS hO hl hs hL
  have hs1 : ∀ v ∈ st, okv sh.length v := fun v h => hs v (List.mem_append_right _ (List.mem_cons_of_mem _ h))
  have hs2 : ∀ v ∈ vR (some c) :: as, okv sh.length v := fun v h => by
    rcases List.mem_cons.mp h with q | q
    · rw [q]; exact hs _ (List.mem_append_right _ List.mem_cons_self)
    · exact hs v (List.mem_append_left _ (List.mem_reverse.mpr q))
  have hM := hct l dC dI cy ad adK adV H.size hst hO hs2
  refine run_go hC hn hd0 hst hW hS hl hs1 hL (va_runIN (As := as.map (cv ad)) (b := ad c) (n := as.length) (host := host) ⟨hC.1, hC.2.1, hC.2.2.1, hC.2.2.2.2.2.1, hC.2.2.2.2.2.2.2.1⟩ hM (bytes := M'.2.1) (maxL := M'.2.2.1) ?_ ⟨PC.blind, PC.at hC hW hS⟩ rfl (by rw [List.length_map]) hL.1 ?_ ?_ hd hrm.2.2.2) kk
  · exact ⟨va_cnB as.length hC.2.2.2.2.2.2.2.1 (good_TB hv.2.1) (by rw [hr0]) hrm.1 hrm.2.1 (hk adK s hC.2.2.2.2.2.2.2.2.1.2) (hC.2.2.2.2.2.2.2.1 _ hv.1) hv.2.2 hrm.2.2.1, hnm, hC.2.2.2.2.2.2.2.1 _ hi⟩
  · simp only [List.map_append, List.map_cons, List.map_reverse]; rfl
  · exact lv_room (Nat.le_trans (cat_sum st) (by omega))
end CALL2
