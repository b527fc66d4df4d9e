section CALLS
def entL (av : List AV) : List (Option AV) := av.flatMap fun v => match v with
  | .inr (.inl _) => [some v, none]
  | _ => [some v]
def PC (dC : Nat → ClassId) (dI : Nat → Nat → Nat) (cy : Nat → ClassId) (ad adK adV : Nat → Nat) (sh : SH) (g z : GG) (r : RR) (sz : Nat) (av : List AV) : Array Value → State → Prop :=
  va_Pc (av.map (cv ad)) (fun U => U.heap.size = sz ∧ va_P (dC, dI) vwCl (wd cy ad sh g z r) U.heap ∧ va_K (dC, dI) vwCl (tyL cy) U ∧ va_D (fun _ => True) (wd cy ad sh g z r) ∧ Sx adK adV (va_A (wd cy ad sh g z r) sz) U U.heap)
/-- M's contract: from the world sh, g, z, r and the arguments av it returns, with Q -/
def CT (M : MI) (mc ms : Nat) (sh : SH) (av : List AV) (g z : GG) (r : RR) (Q : PQ) : Prop :=
  ∀ (l : Launch) (dC : Nat → ClassId) (dI : Nat → Nat → Nat) (cy : Nat → ClassId) (ad adK adV : Nat → Nat) (sz : Nat), (∀ i, i < 6 → ad (100000 + i) = adK i ∧ ad (100010 + i) = adV i ∧ ad (100020 + i) = adV (10 + i)) → okh sh.length g z r → (∀ v ∈ av, okv sh.length v) →
    Met l M.1 (Cond.code M.1 M.2.1 M.2.2.1 M.2.2.2.1 :: TB) M.2.2.2.2 (PC dC dI cy ad adK adV sh g z r sz av) (QC ad sh.length dC dI cy (va_A (wd cy ad sh g z r) sz) Q) mc ms (va_A (wd cy ad sh g z r) sz)
theorem cv_isL {ad : Nat → Nat} {x : Int} : (cv ad (vL x)).category = 2 := rfl
theorem lv_args_app (j : Nat) (a b : List Value) : lv_args j (a ++ b) = lv_args j a ++ lv_args (j + (lg_sl a).length) b := by
  induction a generalizing j with
  | nil => simp [lv_args, lg_sl]
  | cons v t ih =>
    simp only [List.cons_append, lv_args, ih, lg_sl, List.flatMap_cons, List.length_append]
    by_cases h : v.category = 2
    · simp [h]; congr 1; omega
    · simp [h]; congr 1; omega
theorem entL_get {ad : Nat → Nat} (av : List AV) : ∀ (j i : Nat) (v : AV), (entL av)[i]? = some (some v) → (j + i, cv ad v) ∈ lv_args j (av.map (cv ad)) := by
  induction av with
  | nil => intro j i v h; simp [entL] at h
  | cons u t ih =>
    intro j i v h
    by_cases hu : ∃ x, u = vL x
    · obtain ⟨x, rfl⟩ := hu
      have e : entL (vL x :: t) = some (vL x) :: none :: entL t := rfl
      rw [e] at h
      rw [List.map_cons, lv_args, if_pos cv_isL]
      match i, h with
      | 0, h => simp at h; subst h; exact List.mem_cons_self
      | 1, h => simp at h
      | k + 2, h =>
        have := ih (j + 2) k v (by simpa using h)
        refine List.mem_cons_of_mem _ ?_
        rw [show j + (k + 2) = j + 2 + k by omega]
        exact this
    · have e : entL (u :: t) = some u :: entL t := by
        match u, hu with
        | .inl _, _ => rfl
        | .inr (.inr _), _ => rfl
        | .inr (.inl x), hu => exact absurd ⟨x, rfl⟩ hu
      have hc : ¬ (cv ad u).category = 2 := fun q => hu (cv_cat q)
      rw [e] at h
      rw [List.map_cons, lv_args, if_neg hc]
      match i, h with
      | 0, h => simp at h; subst h; exact List.mem_cons_self
      | k + 1, h =>
        have := ih (j + 1) k v (by simpa using h)
        refine List.mem_cons_of_mem _ ?_
        rw [show j + (k + 1) = j + 1 + k by omega]
        exact this
theorem entL_len {ad : Nat → Nat} (av : List AV) : (lg_sl (av.map (cv ad))).length = (entL av).length := by
  induction av with
  | nil => rfl
  | cons u t ih =>
    have e1 : lg_sl ((u :: t).map (cv ad)) = (if (cv ad u).category = 2 then [.val (cv ad u), .second] else [.val (cv ad u)]) ++ lg_sl (t.map (cv ad)) := by simp [lg_sl]
    rw [e1, List.length_append, ih]
    by_cases hu : ∃ x, u = vL x
    · obtain ⟨x, rfl⟩ := hu
      rw [if_pos cv_isL]
      have e : entL (vL x :: t) = some (vL x) :: none :: entL t := rfl
      rw [e]; simp; omega
    · have e : entL (u :: t) = some u :: entL t := by
        match u, hu with
        | .inl _, _ => rfl
        | .inr (.inr _), _ => rfl
        | .inr (.inl x), hu => exact absurd ⟨x, rfl⟩ hu
      have hc : ¬ (cv ad u).category = 2 := fun q => hu (cv_cat q)
      rw [e, if_neg hc]; simp; omega
theorem entL_ok {n : Nat} {av : List AV} (h : ∀ v ∈ av, okv n v) : ∀ v, some v ∈ entL av → okv n v := by
  intro v hv
  simp only [entL, List.mem_flatMap] at hv
  obtain ⟨u, hu, hv⟩ := hv
  match u, hu, hv with
  | .inl x, hu, hv => simp at hv; subst hv; exact h _ hu
  | .inr (.inr x), hu, hv => simp at hv; subst hv; exact h _ hu
  | .inr (.inl x), hu, hv => simp at hv; subst hv; exact h _ hu
theorem Sr.calling {adK : Nat → Nat} {U V : State} (hv : V.vm = U.vm) (ha : U.vm.Alike V.vm) (h : Sr adK U) : Sr adK V := by
  obtain ⟨⟨a1, a2, a3, a4, a5, a6, a7, a8⟩, ⟨b1, b2, b3, b4, b5, b6, b7, b8⟩, c⟩ := h
  exact ⟨⟨a1.same hv, a2.same hv, a3.same hv, a4.same hv, a5.same hv, a6.same hv, a7.same hv, a8.same hv⟩, ⟨b1.same rfl hv.symm, b2.same rfl hv.symm, b3.same rfl hv.symm, b4.same rfl hv.symm, b5.same rfl hv.symm, b6.same rfl hv.symm, b7.same rfl hv.symm, b8.same rfl hv.symm⟩, c.moved ha⟩
theorem Sr.warm {adK : Nat → Nat} {U V : State} (hw : U.WarmedH V.vm) (h : Sr adK U) : Sr adK V := by
  obtain ⟨⟨a1, a2, a3, a4, a5, a6, a7, a8⟩, ⟨b1, b2, b3, b4, b5, b6, b7, b8⟩, c⟩ := h
  exact ⟨⟨a1.warm hw, a2.warm hw, a3.warm hw, a4.warm hw, a5.warm hw, a6.warm hw, a7.warm hw, a8.warm hw⟩, ⟨b1.warmM hw, b2.warmM hw, b3.warmM hw, b4.warmM hw, b5.warmM hw, b6.warmM hw, b7.warmM hw, b8.warmM hw⟩, c.moved hw.alike⟩
theorem PC.blind {dC : Nat → ClassId} {dI : Nat → Nat → Nat} {cy : Nat → ClassId} {ad adK adV : Nat → Nat} {sh : SH} {g z : GG} {r : RR} {sz : Nat} {av : List AV} : FrameBlind (PC dC dI cy ad adK adV sh g z r sz av) := by
  intro a U g mk q
  obtain ⟨q0, q1, qP, qK, qD, qX, qR⟩ := q
  exact ⟨q0, q1, qP, va_K.moved (u := U) (U := U.calling g mk a) (Vm.Alike.refl U.vm) qK, qD, SZ.moved (u := U) (U := U.calling g mk a) (Vm.Alike.refl U.vm) qX, qR.calling rfl (Vm.Alike.refl U.vm)⟩
variable {M : MI} {mc ms n0 : Nat} {Q : PQ} {ce sl : Nat} {sh : SH} {pc : Nat} {ls : List (Option AV)} {st : List AV} {g z : GG} {r : RR}
theorem CT.of {av : List AV} (k : Nat) (hpl : plainName M.1.cls = true) (hk : (entL av).length + k = M.2.2.1) (h : RJ M mc ms sh.length Q 0 0 sh 0 (entL av ++ List.replicate k none) [] g z r) : CT M mc ms sh av g z r Q := by
  intro l dC dI cy ad adK adV sz hst hO hav
  refine Met.ofW (cc := M.2.1) (maxL := M.2.2.1) (ret := M.2.2.2.1) hpl rfl ?_
  intro p e s m args below meth cd s₁ B hml hv
  obtain ⟨rfl, hsz, hP, hK, hD0, hX⟩ := hv
  have hts := atoms_spec (ws := Cond.code M.1 M.2.1 M.2.2.1 M.2.2.2.1 :: TB) B.pre
  have hown : s.vm.findClass M.1.cls = some m.cls := findClass_of_methodNamed B.named
  have hin : meth.name = M.1.name := (name_of_methodNamed B.named B.method).1
  subst hsz
  have hD := hD0.self (sz := s.heap.size)
  have hl := lv_entry (av.map (cv ad)) (n := M.2.2.1) (by rw [entL_len]; omega)
  rw [lg_entry_eq]
  refine h p l e s m _ below meth cd dC dI cy ad ad adK adV _ s.heap [] _ ⟨B.exec, B.bytes, hml, B.returns, B.notSynchronized, hown, hin, fun w hw => hts w (List.mem_cons_of_mem _ hw), hX, fun q hq => Or.inr hq⟩ (Nat.le_refl _) (fun _ _ => rfl) hst ⟨hP, hD, hK⟩ va_S.rf hO ?_ (fun v hv => by cases hv) ?_
  · intro v hv
    rcases List.mem_append.mp hv with h1 | h1
    · exact entL_ok hav v h1
    · rw [List.mem_replicate] at h1; exact absurd h1.2 (by simp)
  · refine ⟨hl.1, hl.2.1, fun q hq => hl.2.2 q ?_⟩
    obtain ⟨i, v, hi, rfl⟩ := lvl_mem.mp hq
    by_cases hlt : i < (entL av).length
    · rw [List.getElem?_append_left hlt] at hi
      have := entL_get (ad := ad) av 0 i v hi
      rw [Nat.zero_add] at this
      exact this
    · rw [List.getElem?_append_right (by omega)] at hi
      have := List.mem_of_getElem? hi
      rw [List.mem_replicate] at this
      exact absurd this.2 (by simp)
theorem CT.weaken {av : List AV} {Q' : PQ} (h : CT M mc ms sh av g z r Q) (hq : ∀ v sh' g' z' r', Q v sh' g' z' r' → Q' v sh' g' z' r') : CT M mc ms sh av g z r Q' := by
  intro l dC dI cy ad adK adV sz hst hO hav p e h1 h2 h3 s m args below h4 h5 h6 h7
  obtain ⟨k, o, a1, a2, a3, ⟨⟨v, sh', ad', g', z', r', b1, b2, b3⟩, b4⟩, b5⟩ := h l dC dI cy ad adK adV sz hst hO hav p e h1 h2 h3 s m args below h4 h5 h6 h7
  exact ⟨k, o, a1, a2, a3, ⟨⟨v, sh', ad', g', z', r', b1, hq _ _ _ _ _ b2, b3⟩, b4⟩, b5⟩
end CALLS
