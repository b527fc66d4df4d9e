section WHOLE3
def adF (b : Nat) (adK adV : Nat → Nat) : Nat → Nat := fun a => if a = 100030 then b else if a < 100010 then adK (a - 100000) else if a < 100020 then adV (a - 100010) else adV (a - 100010)
theorem adF_st {b : Nat} {adK adV : Nat → Nat} : ∀ i, i < 6 → adF b adK adV (100000 + i) = adK i ∧ adF b adK adV (100010 + i) = adV i ∧ adF b adK adV (100020 + i) = adV (10 + i) := by
  intro i hi
  unfold adF
  refine ⟨?_, ?_, ?_⟩
  · rw [if_neg (by omega), if_pos (by omega), show 100000 + i - 100000 = i by omega]
  · rw [if_neg (by omega), if_neg (by omega), if_pos (by omega), show 100010 + i - 100010 = i by omega]
  · rw [if_neg (by omega), if_neg (by omega), if_neg (by omega), show 100020 + i - 100010 = 10 + i by omega]
theorem Sx_of {s : State} {b : Nat} {L : Nat} {xs : Nat → Int32} {p : Program} {m : MethodId} {meth : Method} {c : Code} (C0 : lw_At p s m meth c b L xs) : ∃ adK adV : Nat → Nat, Sx adK adV (fun q => s.heap.size ≤ q) s s.heap := by
  obtain ⟨hx, hb, hr, hml, hown, hts, hX, hbl, hlk, hgv⟩ := C0
  have hs : ∀ w ∈ fS, w.before #[Value.ref b] s = true := flat_of_before _ hgv
  have hA : ∀ a : Nat, a < s.heap.size → ¬ (fun q => s.heap.size ≤ q) a := fun a h q => by simp only at q; omega
  obtain ⟨adK, adV0, hS, hev⟩ := vk_Sof (args := #[Value.ref b]) (s := s) (N := 6) (tm := tmS) (len := sxL) (byt := sxB) (A := fun q => s.heap.size ≤ q) (by decide) (fun i hi => hs _ (fS_ex i hi)) (fun i hi => hs _ (fS_co i hi)) (fun i hi => hs _ (fS_ar i hi)) (fun i hi => hs _ (fS_le i hi)) (fun i hi j hj => hs _ (fS_el i hi j hj)) (fun i j hi hj hij => by
    rcases Nat.lt_or_gt_of_ne hij with h | h
    · exact Or.inl (hs _ (fS_ne i hi j hj h))
    · exact Or.inr (hs _ (fS_ne j hj i hi h))) hA
  have hZ1 := va_Zof (A := fun q => s.heap.size ≤ q) (hts (.laysStatic "java/lang/String" "COMPACT_STRINGS" "Z") (by decide +kernel)) (hts (.initialized "java/lang/String") (by decide +kernel)) (va_eqt (hs _ fS_C)) hA
  have hZ2 := va_Zqof (A := fun q => s.heap.size ≤ q) (hts (.laysStatic "jdk/internal/util/Preconditions" "SIOOBE_FORMATTER" "Ljava/util/function/BiFunction;") (by decide +kernel)) (hts (.initialized "jdk/internal/util/Preconditions") (by decide +kernel)) (hs _ fS_F) hA
  have hR : Sr adK s := by
    refine ⟨⟨vk_R.of (hts (.stringRef "FontList$Family" 24 "nbxywtaec") (by decide +kernel)) (hev 0 (by decide)), vk_R.of (hts (.stringRef "FontList$Reader" 116 "nbxywtaec") (by decide +kernel)) (va_eqR (hs _ fS_1) (hev 0 (by decide))), vk_R.of (hts (.stringRef "FontList" 184 "FfMmPQSD") (by decide +kernel)) (va_eqR (hs _ fS_2) (hev 1 (by decide))), vk_R.of (hts (.stringRef "FontList$Reader" 62 "FfMmPQSD") (by decide +kernel)) (hev 1 (by decide)), vk_R.of (hts (.stringRef "FontList$Reader" 80 "|") (by decide +kernel)) (hev 2 (by decide)), vk_R.of (hts (.stringRef "FontList$Reader" 82 "&") (by decide +kernel)) (hev 3 (by decide)), vk_R.of (hts (.stringRef "FontList$Reader" 84 "+-") (by decide +kernel)) (hev 4 (by decide)), vk_R.of (hts (.stringRef "FontList$Reader" 86 "*/%") (by decide +kernel)) (hev 5 (by decide))⟩, ⟨?_, ?_, ?_, ?_, ?_, ?_, ?_, ?_⟩, va_AO.of (hts (.arrayOver (.object "FontList$Custom")) (by decide +kernel))⟩
    · exact va_Nw.of rfl (hts (.methodLinkNest "FontList" 9 yX0_init "FontList") (by decide +kernel))
    · exact va_Nw.of rfl (hts (.methodLinkNest "FontList$Books" 11 yX5_init "FontList") (by decide +kernel))
    · exact va_Nw.of rfl (hts (.methodLinkNest "FontList$Books" 20 yX1_init "FontList") (by decide +kernel))
    · exact va_Nw.of rfl (hts (.methodLinkNest "FontList$Books" 27 yX4_init "FontList") (by decide +kernel))
    · exact va_Nw.of rfl (hts (.methodLinkNest "FontList" 18 yX8_init "FontList") (by decide +kernel))
    · exact va_Nw.of rfl (hts (.methodLinkNest "FontList" 31 yX6_init "FontList") (by decide +kernel))
    · exact va_Nw.of rfl (hts (.methodLinkNest "FontList$Reader" 17 yX2_init "FontList") (by decide +kernel))
    · exact va_Nw.of rfl (hts (.methodLinkNest "FontList" 73 yX2_init "FontList") (by decide +kernel))
  rcases hZ2 with h | ⟨t, h⟩
  · exact ⟨adK, adV0, ⟨hS, hZ1, Or.inl h⟩, hR⟩
  · refine ⟨adK, fun i => if i = 10 then t else adV0 i, ⟨⟨fun i hi => ?_, hS.2⟩, hZ1, Or.inr (by simpa using h)⟩, hR⟩
    have e : (if i = 10 then t else adV0 i) = adV0 i := if_neg (by omega)
    simp only [e]
    exact hS.1 i hi
end WHOLE3
/-- from the entry, for every script of at most 3072 ints, the law comes to its end with true -/
theorem whole_start {p : Program} {e : Env} {s : State} {m : MethodId} {below : List Frame} {meth : Method} {c : Code} (l : Launch) {b L : Nat} {xs : Nat → Int32} (hL : L ≤ 3072) (C0 : lw_At p s m meth c b L xs) : W p l e room_1 s m #[Value.ref b] below meth c s.heap [] 0 0 (lw_Z below #[Value.ref b] s) (entryFrame m ([Value.ref b] : List Value).toArray 4) := by
  obtain ⟨adK, adV, hSx⟩ := Sx_of C0
  obtain ⟨hx, hb, hr, hml, hown, hts, hX, hbl, hlk, hgv⟩ := C0
  have htsT : ∀ w ∈ TB, w.before #[Value.ref b] s = true := fun w hw => hts w (TB_in w hw)
  obtain ⟨dC, dI, cy, hK⟩ := K_of htsT (hts (.arrayOver (.object "FontList$Custom")) (by decide +kernel))
  have hb30 : adF b adK adV 100030 = b := by unfold adF; rw [if_pos rfl]
  have hXS : XS (L, fun j => (xs j).toInt) s (fun q => s.heap.size ≤ q) (adF b adK adV) #[Value.ref b] := by
    refine ⟨?_, by rw [hb30]; exact hbl, fun q => Iff.rfl, by rw [hb30], fun j => in32 _, by show L < _; omega⟩
    rw [hb30, show (fun j => i32 (((L, fun j => (xs j).toInt) : Nat × (Nat → Int)).2 j)) = xs from funext fun j => o32 _]
    exact hX
  have hl := lv_entry ([Value.ref b] : List Value) (n := 4) (Nat.le_of_ble_eq_true rfl)
  rw [lg_entry_eq]
  refine lw_first (nm := meth.name) (Xs := (L, fun j => (xs j).toInt)) hL p l e s m #[Value.ref b] below meth c dC dI cy (adF b adK adV) adK adV (fun q => s.heap.size ≤ q) s.heap [] _ ⟨hx, hb, hml, hr, hlk, hown, rfl, htsT, hSx, fun q hq => hq⟩ hXS adF_st ⟨(fun k q hq => by cases hq), ⟨(fun i j p q hi => by cases hi), (fun k q hq => by cases hq)⟩, hK⟩ va_S.rf ⟨(fun _ _ => inI0), (fun _ _ => (show inL 0 by unfold inL; omega)), (fun _ _ _ h => by cases h)⟩ ?_ (fun v hv => by cases hv) ?_
  · intro v hv
    simp at hv
    subst hv
    intro a ha
    injection ha with ha
    exact Or.inr (by omega)
  · refine ⟨hl.1, hl.2.1, fun q hq => hl.2.2 q ?_⟩
    obtain ⟨i, v, hi, rfl⟩ := lvl_mem.mp hq
    match i, hi with
    | 0, hi =>
      simp at hi
      subst hi
      simp [cv, va_rf, hb30, lv_args]
    | 1, hi => simp at hi
    | 2, hi => simp at hi
    | 3, hi => simp at hi
    | n + 4, hi => simp at hi
