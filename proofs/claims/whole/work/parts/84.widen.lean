def qZ (sh : SH) (r : RR) (P : Option AV → GG → GG → Prop) : PQ := fun v sh' g' z' r' => P v g' z' ∧ sh' = sh ∧ r = r'
theorem lcm_z {a b : Int} : (lcm a b = 0) = (a = b) := by unfold lcm; split; simp; omega; split <;> simp <;> omega
/-- the class's tables at the set S tell of the WAYS of the colours ks -/
def XI (g z : GG) (G : Nat → Nat → Option Int) (T : Nat → Nat) (ks : List Nat) (S : Nat) : Prop := ∃ le co : Nat, g 46 S = (le : Int) ∧ g 47 S = (co : Int) ∧ AGC (XW G T ks S) (g 44 S) (g 45 S) (z 48 S) (z 49 S) le co
def wkS (o : Option Int) : Int := match o with
  | some w => w
  | none => -1000000
def stF (G : Nat → Option Int) (k : Nat) (L : Nat → List PR) (S p : Nat) : List PR := match G p with
  | none => []
  | some w => (L (S ^^^ p)).map (fun q => (q.1 + w, q.2 ||| k * sprd p))
theorem XW_cons {G : Nat → Nat → Option Int} {T : Nat → Nat} {k : Nat} {ks : List Nat} {S : Nat} : XW G T (k :: ks) S = (subs (S &&& T k)).flatMap (stF (G k) k (XW G T ks) S) := by
  rw [XW]
  unfold stepW
  congr 1
section WIDEN
variable {g z : GG} {r : RR}
theorem c_X10_shared (a b : Nat) (ha : a < 2 ^ 30) (hb : b < 2 ^ 30) : CT (mX10_shared (rmD 0 0 0)) 0 0 shW [vI (a : Int), vI (b : Int)] g z r (qP shW g z r (some (vI (shN a b : Nat)))) := by
  refine CT.of 2 rfl rfl ?_
  have hd := Nat.xor_lt_two_pow ha hb
  have hl : ((((a ^^^ b) ||| (a ^^^ b) / 2) ||| (a ^^^ b) / 4) &&& 153391689) ≤ 153391689 := Nat.and_le_right
  have h2 : (a ^^^ b) / 2 < 2 ^ 30 := by omega
  have h4 : (a ^^^ b) / 4 < 2 ^ 30 := by omega
  have ho := Nat.or_lt_two_pow hd h2
  have ho2 := Nat.or_lt_two_pow ho h4
  have e : shN a b = a ||| ((((a ^^^ b) ||| (a ^^^ b) / 2) ||| (a ^^^ b) / 4) &&& 153391689) * 7 := rfl
  generalize hde : a ^^^ b = d at *
  generalize hle : (((d ||| d / 2) ||| d / 4) &&& 153391689) = lo at *
  refine R_iload_n dX10_shared_0 rfl ?_
  refine R_iload_n dX10_shared_1 rfl ?_
  refine R_ixor dX10_shared_2 ?_
  rw [bXor_n (by omega) (by omega), hde]
  refine R_istore_n dX10_shared_3 (by decide) rfl [_, _, _, _] rfl ?_
  refine R_iload_n dX10_shared_4 rfl ?_
  refine R_iload_n dX10_shared_5 rfl ?_
  refine R_iconst dX10_shared_6 rfl rfl ?_
  refine R_ishr dX10_shared_7 ?_
  rw [show bShr (d : Int) 1 = ((d / 2 : Nat) : Int) from bShr_n (k := 1) (by decide) (by omega)]
  refine R_ior dX10_shared_8 ?_
  rw [bOr_n (by omega) (by omega)]
  refine R_iload_n dX10_shared_9 rfl ?_
  refine R_iconst dX10_shared_10 rfl rfl ?_
  refine R_ishr dX10_shared_11 ?_
  rw [show bShr (d : Int) 2 = ((d / 4 : Nat) : Int) from bShr_n (k := 2) (by decide) (by omega)]
  refine R_ior dX10_shared_12 ?_
  rw [bOr_n (by omega) (by omega)]
  refine R_ldc (v := 153391689) kk10_113 dX10_shared_13 (by decide) ?_
  refine R_iand dX10_shared_15 ?_
  rw [show bAnd ((d ||| d / 2 ||| d / 4 : Nat) : Int) 153391689 = (lo : Int) by rw [show (153391689 : Int) = ((153391689 : Nat) : Int) from rfl, bAnd_n (by omega), hle]]
  refine R_istore_n dX10_shared_16 (by decide) rfl [_, _, _, _] rfl ?_
  refine R_iload_n dX10_shared_17 rfl ?_
  refine R_iload_n dX10_shared_18 rfl ?_
  refine R_bipush dX10_shared_19 rfl (by decide +kernel) ?_
  refine R_imulN dX10_shared_21 (by unfold inI; omega) ?_
  refine R_ior dX10_shared_22 ?_
  rw [show (lo : Int) * 7 = ((lo * 7 : Nat) : Int) by omega, bOr_n (by omega) (by omega)]
  refine R_ireturn rfl (by first | rfl | exact nar_b2i | exact nar_bi) (by decide) (by decide) dX10_shared_23 ?_
  exact ⟨by rw [e], rfl, rfl, rfl, rfl⟩
theorem c_X10_widen (hr : RS r) (hsp : ∀ x, x < 1024 → g 43 x = (sprd x : Int)) (G : Nat → Nat → Option Int) (T : Nat → Nat) (k : Nat) (ks : List Nat) (hX : XOK G T (k :: ks)) (S Tk : Nat) (hS : S < 1024) (hTk : Tk < 1024) (hT : T k = Tk) (hwo : ∀ p, p &&& Tk = p → g 42 p = wkS (G k p)) (hI : ∀ S', S' &&& S = S' → XI g z G T ks S') :
    CT (mX10_widen (rmD 1 0 0)) 0 0 shW [vR (some 41), vI (S : Int), vI (k : Int), vI (Tk : Int)] g z r (qZ shW r fun v g' z' => v = none ∧ ∃ (mo nx be al : Int) (le co : Nat), AGC (XW G T (k :: ks) S) mo nx be al le co ∧ g' = up2 (up2 (up2 (up2 g 44 S mo) 45 S nx) 46 S (le : Int)) 47 S (co : Int) ∧ z' = up2 (up2 z 48 S be) 49 S al) := by
  refine CT.of 14 rfl rfl ?_
  generalize hQ : (qZ shW r fun v g' z' => v = none ∧ ∃ (mo nx be al : Int) (le co : Nat), AGC (XW G T (k :: ks) S) mo nx be al le co ∧ g' = up2 (up2 (up2 (up2 g 44 S mo) 45 S nx) 46 S (le : Int)) 47 S (co : Int) ∧ z' = up2 (up2 z 48 S be) 49 S al) = Q
  have hk : k ≤ 6 := hX.1 k List.mem_cons_self
  have hks := hX.tail
  have hnum := hX.num hS
  have hbd : ∀ x ∈ XW G T (k :: ks) S, -70000 ≤ x.1 ∧ x.1 ≤ 7000 := fun x hx => hX.bd hx
  have hwi : S &&& Tk < 1024 := Nat.lt_of_le_of_lt Nat.and_le_left hS
  have hXW : XW G T (k :: ks) S = (sbF (S &&& Tk) ((S &&& Tk) + 1) (S &&& Tk)).flatMap (stF (G k) k (XW G T ks) S) := by rw [XW_cons, hT]; rfl
  generalize hwie : S &&& Tk = wi at *
  generalize hFe : stF (G k) k (XW G T ks) S = F at *
  have fin : ∀ (mo nx be al : Int) (le co : Nat), AGC (XW G T (k :: ks) S) mo nx be al le co → RJ (mX10_widen (rmD 1 0 0)) 0 0 shW.length Q 0 0 shW 29 [some (vR (some 41)), some (vI (S : Int)), some (vI (k : Int)), some (vI (Tk : Int)), some (vI mo), some (vI nx), some (vI (le : Int)), some (vI (co : Int)), some (vL be), none, some (vL al), none, some (vI (wi : Int)), some (vI (-1)), none, none, none, none] [] g z r := by
    intro mo nx be al le co hA
    refine R_iload dX10_widen_29 rfl ?_
    refine R_if_lt 292 dX10_widen_31 (by decide) (fun hc31 => ?_) (fun hc31 => ?_)
    · refine R_aload_n dX10_widen_292 rfl ?_
      refine R_getR _ (hr _ _ _ rfl) fd10_4 kf10_18 rfl dX10_widen_293 ?_
      refine R_iload_n dX10_widen_296 rfl ?_
      refine R_iload dX10_widen_297 rfl ?_
      refine R_iast rfl (by omega) (by omega) dX10_widen_299 ?_
      try rw [Int.toNat_natCast]
      refine R_aload_n dX10_widen_300 rfl ?_
      refine R_getR _ (hr _ _ _ rfl) fd10_5 kf10_21 rfl dX10_widen_301 ?_
      try simp +decide only [up2_far, up2_s, up2_kk]
      refine R_iload_n dX10_widen_304 rfl ?_
      refine R_iload dX10_widen_305 rfl ?_
      refine R_iast rfl (by omega) (by omega) dX10_widen_307 ?_
      try rw [Int.toNat_natCast]
      refine R_aload_n dX10_widen_308 rfl ?_
      refine R_getR _ (hr _ _ _ rfl) fd10_6 kf10_24 rfl dX10_widen_309 ?_
      try simp +decide only [up2_far, up2_s, up2_kk]
      refine R_iload_n dX10_widen_312 rfl ?_
      refine R_iload dX10_widen_313 rfl ?_
      refine R_iast rfl (by omega) (by omega) dX10_widen_315 ?_
      try rw [Int.toNat_natCast]
      refine R_aload_n dX10_widen_316 rfl ?_
      refine R_getR _ (hr _ _ _ rfl) fd10_7 kf10_27 rfl dX10_widen_317 ?_
      try simp +decide only [up2_far, up2_s, up2_kk]
      refine R_iload_n dX10_widen_320 rfl ?_
      refine R_iload dX10_widen_321 rfl ?_
      refine R_iast rfl (by omega) (by omega) dX10_widen_323 ?_
      try rw [Int.toNat_natCast]
      refine R_aload_n dX10_widen_324 rfl ?_
      refine R_getR _ (hr _ _ _ rfl) fd10_8 kf10_30 rfl dX10_widen_325 ?_
      try simp +decide only [up2_far, up2_s, up2_kk]
      refine R_iload_n dX10_widen_328 rfl ?_
      refine R_lload dX10_widen_329 rfl ?_
      refine R_last rfl (by omega) (by omega) dX10_widen_331 ?_
      try rw [Int.toNat_natCast]
      refine R_aload_n dX10_widen_332 rfl ?_
      refine R_getR _ (hr _ _ _ rfl) fd10_9 kf10_34 rfl dX10_widen_333 ?_
      try simp +decide only [up2_far, up2_s, up2_kk]
      refine R_iload_n dX10_widen_336 rfl ?_
      refine R_lload dX10_widen_337 rfl ?_
      refine R_last rfl (by omega) (by omega) dX10_widen_339 ?_
      try rw [Int.toNat_natCast]
      refine R_return rfl (by decide) (by decide) dX10_widen_340 ?_
      rw [← hQ]
      exact ⟨⟨rfl, mo, nx, be, al, le, co, hA, rfl, rfl⟩, rfl, rfl⟩
    · exact absurd (by decide) hc31
  have loop : ∀ (n p : Nat) (W1 : List PR) (mo nx be al : Int) (le co : Nat), p < n → p &&& wi = p → W1 ++ (sbF wi n p).flatMap F = XW G T (k :: ks) S → AGC W1 mo nx be al le co → RJ (mX10_widen (rmD 1 0 0)) 0 0 shW.length Q 0 0 shW 29 [some (vR (some 41)), some (vI (S : Int)), some (vI (k : Int)), some (vI (Tk : Int)), some (vI mo), some (vI nx), some (vI (le : Int)), some (vI (co : Int)), some (vL be), none, some (vL al), none, some (vI (wi : Int)), some (vI (p : Int)), none, none, none, none] [] g z r := by
    intro n
    induction n with
    | zero => intro p W1 mo nx be al le co hp; omega
    | succ n ih =>
      intro p W1 mo nx be al le co hp hpw htot hA
      have hp10 : p < 1024 := Nat.lt_of_le_of_lt (sub_le hpw) hwi
      have hpST : p &&& (S &&& Tk) = p := by rw [hwie]; exact hpw
      have hpS := sub_and hpST
      have hpT : p &&& Tk = p := sub_and (by rw [Nat.and_comm Tk S]; exact hpST)
      have hw42 := hwo p hpT
      unfold sbF at htot
      rw [List.flatMap_cons, ← List.append_assoc] at htot
      have next : ∀ (mo nx be al : Int) (le co : Nat) (a14 a15 a16 a17 : Option AV), AGC (W1 ++ F p) mo nx be al le co → RJ (mX10_widen (rmD 1 0 0)) 0 0 shW.length Q 0 0 shW 271 [some (vR (some 41)), some (vI (S : Int)), some (vI (k : Int)), some (vI (Tk : Int)), some (vI mo), some (vI nx), some (vI (le : Int)), some (vI (co : Int)), some (vL be), none, some (vL al), none, some (vI (wi : Int)), some (vI (p : Int)), a14, a15, a16, a17] [] g z r := by
        intro mo nx be al le co a14 a15 a16 a17 hA'
        refine RJ.msk [true, true, true, true, true, true, true, true, true, true, true, true, true, true, false, false, false, false] _ rfl ?_
        refine R_iload dX10_widen_271 rfl ?_
        refine R_if_ne 280 dX10_widen_273 (by decide) (fun hc273 => ?_) (fun hc273 => ?_)
        · have hp0 : p ≠ 0 := by omega
          rw [if_neg hp0] at htot
          refine R_iload dX10_widen_280 rfl ?_
          refine R_iconst dX10_widen_282 rfl rfl ?_
          refine R_isubN dX10_widen_283 (by unfold inI; omega) ?_
          refine R_iload dX10_widen_284 rfl ?_
          refine R_iand dX10_widen_286 ?_
          rw [show (p : Int) - 1 = ((p - 1 : Nat) : Int) by omega, bAnd_n (by omega)]
          refine R_istore dX10_widen_287 (by decide) rfl [_, _, _, _, _, _, _, _, _, _, _, _, _, _, _, _, _, _] rfl ?_
          refine R_goto 29 dX10_widen_289 (by decide) ?_
          have hle : (p - 1) &&& wi ≤ p - 1 := Nat.and_le_left
          exact ih ((p - 1) &&& wi) _ _ _ _ _ _ _ (by omega) (by rw [Nat.and_assoc, Nat.and_self]) htot hA'
        · have hp0 : p = 0 := by omega
          rw [if_pos hp0, List.flatMap_nil, List.append_nil] at htot
          refine R_iconst dX10_widen_276 rfl rfl ?_
          refine R_goto 287 dX10_widen_277 (by decide) ?_
          refine R_istore dX10_widen_287 (by decide) rfl [_, _, _, _, _, _, _, _, _, _, _, _, _, _, _, _, _, _] rfl ?_
          refine R_goto 29 dX10_widen_289 (by decide) ?_
          exact fin _ _ _ _ _ _ (by rw [← htot]; exact hA')
      have hsub : ∀ x ∈ W1 ++ F p, x ∈ XW G T (k :: ks) S := fun x hx => by rw [← htot]; exact List.mem_append.mpr (Or.inl hx)
      have hlen : (W1 ++ F p).length ≤ 2 ^ 30 := by
        rw [← htot, List.length_append] at hnum
        omega
      rw [List.length_append] at hlen
      have hA1 := hA.bd (fun x hx => hbd x (hsub x (List.mem_append.mpr (Or.inl hx))))
      have hrest := xor_lt hS hpS
      refine R_iload dX10_widen_29 rfl ?_
      refine R_if_lt 292 dX10_widen_31 (by decide) (fun hc31 => ?_) (fun hc31 => ?_)
      · exact absurd hc31 (by omega)
      refine R_iload_n dX10_widen_34 rfl ?_
      refine R_iload dX10_widen_35 rfl ?_
      refine R_ixor dX10_widen_37 ?_
      rw [bXor_n (by omega) (by omega)]
      refine R_istore dX10_widen_38 (by decide) rfl [_, _, _, _, _, _, _, _, _, _, _, _, _, _, _, _, _, _] rfl ?_
      refine R_aload_n dX10_widen_40 rfl ?_
      refine R_getR _ (hr _ _ _ rfl) fd10_2 kf10_11 rfl dX10_widen_41 ?_
      refine R_iload dX10_widen_44 rfl ?_
      refine R_iald rfl (by omega) (by omega) dX10_widen_46 ?_
      try rw [Int.toNat_natCast]
      rw [hw42]
      cases hG : G k p with
      | none =>
        have hFp : F p = [] := by rw [← hFe]; unfold stF; rw [hG]
        rw [hFp, List.append_nil] at next
        show RJ _ _ _ _ _ _ _ _ _ _ (vI (-1000000) :: _) _ _ _
        refine R_ldcC (v := -1000000) kk10_100 (by decide +kernel) dX10_widen_47 (by decide) ?_
        refine R_icmp_eq 271 dX10_widen_49 (by decide) (fun hc49 => ?_) (fun hc49 => ?_)
        · exact next _ _ _ _ _ _ _ _ _ _ hA
        · exact absurd rfl hc49
      | some w =>
        have hw := (hX.2.2 k List.mem_cons_self p w hG).2
        have hFp : F p = (XW G T ks (S ^^^ p)).map (fun q => (q.1 + w, q.2 ||| k * sprd p)) := by rw [← hFe]; unfold stF; rw [hG]
        rw [hG] at hw42
        have hw42 : g 42 p = w := hw42
        show RJ _ _ _ _ _ _ _ _ _ _ (vI w :: _) _ _ _
        obtain ⟨le2, co2, e46, e47, hA2⟩ := hI (S ^^^ p) (by rw [sub_bit]; intro i hi; rw [xor_sub hpS, Bool.and_eq_true] at hi; exact hi.1)
        have hB2 := hA2.bd (fun x hx => hks.bd hx)
        refine R_ldcC (v := -1000000) kk10_100 (by decide +kernel) dX10_widen_47 (by decide) ?_
        refine R_icmp_eq 271 dX10_widen_49 (by decide) (fun hc49 => ?_) (fun hc49 => ?_)
        · exact absurd hc49 (by omega)
        refine R_aload_n dX10_widen_52 rfl ?_
        refine R_getR _ (hr _ _ _ rfl) fd10_9 kf10_34 rfl dX10_widen_53 ?_
        refine R_iload dX10_widen_56 rfl ?_
        refine R_lald rfl (by omega) (by omega) dX10_widen_58 ?_
        try rw [Int.toNat_natCast]
        refine R_lconst dX10_widen_59 ?_
        refine R_lcmp dX10_widen_60 ?_
        refine R_if_ne 67 dX10_widen_61 (by decide) (fun hc61 => ?_) (fun hc61 => ?_)
        rw [ne_eq, lcm_z] at hc61
        rotate_left
        · rw [lcm_z] at hc61
          refine R_goto 271 dX10_widen_64 (by decide) ?_
          have hnil : XW G T ks (S ^^^ p) = [] := by
            apply List.length_eq_zero_iff.mp
            have h0 : z 49 (S ^^^ p) = 0 := hc61
            omega
          rw [hFp, hnil, List.map_nil, List.append_nil] at next
          exact next _ _ _ _ _ _ _ _ _ _ hA
        have hne : XW G T ks (S ^^^ p) ≠ [] := by
          intro e
          apply hc61
          rw [hB2.2.2.2, e]
          rfl
        have hrows : ∀ x ∈ XW G T ks (S ^^^ p), RowF ks (S ^^^ p) x.2 := fun x hx => ((hks.mem hrest x).mp hx).1
        have hSh := AGC_shift w hk hS hpS hrows (fun x hx => by have := hks.bd hx; omega) hA2 hne
        rw [← hFp] at hSh
        have hne2 : F p ≠ [] := by rw [hFp]; exact fun e => hne (List.map_eq_nil_iff.mp e)
        have hAp := AGC_app (fun x hx => by have := hbd x (hsub x (List.mem_append.mpr (Or.inl hx))); omega) (fun x hx => by have := hbd x (hsub x (List.mem_append.mpr (Or.inr hx))); omega) hA hSh hne2
        have hS1 := hSh.bd (fun x hx => hbd x (hsub x (List.mem_append.mpr (Or.inr hx))))
        have hmul : (k : Int) * g 43 p = ((k * sprd p : Nat) : Int) := by rw [hsp p hp10]; simp
        have hsp2 := (fld_sp p hp10 k (by omega)).2
        generalize hade : k * sprd p = ad at *
        have cont : ∀ fw : Int, fw = (if g 45 (S ^^^ p) = -1000000 then -1000000 else g 45 (S ^^^ p) + w) → RJ (mX10_widen (rmD 1 0 0)) 0 0 shW.length Q 0 0 shW 116 [some (vR (some 41)), some (vI (S : Int)), some (vI (k : Int)), some (vI (Tk : Int)), some (vI mo), some (vI nx), some (vI (le : Int)), some (vI (co : Int)), some (vL be), none, some (vL al), none, some (vI (wi : Int)), some (vI (p : Int)), some (vI ((S ^^^ p : Nat) : Int)), some (vI (g 44 (S ^^^ p) + w)), none, none] [vI fw] g z r := by
          intro fw hfw
          rw [← hfw] at hAp hS1
          refine R_istore dX10_widen_116 (by decide) rfl [_, _, _, _, _, _, _, _, _, _, _, _, _, _, _, _, _, _] rfl ?_
          refine R_iload_n dX10_widen_118 rfl ?_
          refine R_aload_n dX10_widen_119 rfl ?_
          refine R_getR _ (hr _ _ _ rfl) fd10_3 kf10_15 rfl dX10_widen_120 ?_
          refine R_iload dX10_widen_123 rfl ?_
          refine R_iald rfl (by omega) (by omega) dX10_widen_125 ?_
          try rw [Int.toNat_natCast]
          rw [show g 43 p = (sprd p : Int) from hsp p hp10]
          rw [show g 43 p = (sprd p : Int) from hsp p hp10] at hmul
          refine R_imulN dX10_widen_126 (by rw [hmul]; unfold inI; omega) ?_
          rw [hmul]
          refine R_istore dX10_widen_127 (by decide) rfl [_, _, _, _, _, _, _, _, _, _, _, _, _, _, _, _, _, _] rfl ?_
          refine R_lload dX10_widen_129 rfl ?_
          refine R_aload_n dX10_widen_131 rfl ?_
          refine R_getR _ (hr _ _ _ rfl) fd10_9 kf10_34 rfl dX10_widen_132 ?_
          refine R_iload dX10_widen_135 rfl ?_
          refine R_lald rfl (by omega) (by omega) dX10_widen_137 ?_
          try rw [Int.toNat_natCast]
          refine R_laddN dX10_widen_138 (by unfold inL; omega) ?_
          refine R_lstore dX10_widen_139 (by decide) rfl [_, _, _, _, _, _, _, _, _, _, _, _, _, _, _, _, _, _] rfl ?_
          refine R_iload dX10_widen_141 rfl ?_
          refine R_iload dX10_widen_143 rfl ?_
          refine R_icmp_le 197 dX10_widen_145 (by decide) (fun hc145 => ?_) (fun hc145 => ?_)
          · refine R_iload dX10_widen_197 rfl ?_
            refine R_iload dX10_widen_199 rfl ?_
            refine R_icmp_ne 262 dX10_widen_201 (by decide) (fun hc201 => ?_) (fun hc201 => ?_)
            · have hlt : ¬ mo < g 44 (S ^^^ p) + w := by omega
              have hne3 : ¬ g 44 (S ^^^ p) + w = mo := hc201
              simp only [if_neg hlt, if_neg hne3] at hAp
              refine R_iload dX10_widen_262 rfl ?_
              refine R_iload dX10_widen_264 rfl ?_
              refine R_mmax km10_101 (by decide) (by decide) (by decide) (by decide) dX10_widen_266 ?_
              refine R_istore dX10_widen_269 (by decide) rfl [_, _, _, _, _, _, _, _, _, _, _, _, _, _, _, _, _, _] rfl ?_
              exact next _ _ _ _ _ _ _ _ _ _ hAp
            · have hlt : ¬ mo < g 44 (S ^^^ p) + w := by omega
              have heq3 : g 44 (S ^^^ p) + w = mo := hc201
              simp only [if_neg hlt, if_pos heq3] at hAp
              refine R_iload dX10_widen_204 rfl ?_
              refine R_iload dX10_widen_206 rfl ?_
              refine R_mmax km10_101 (by decide) (by decide) (by decide) (by decide) dX10_widen_208 ?_
              refine R_istore dX10_widen_211 (by decide) rfl [_, _, _, _, _, _, _, _, _, _, _, _, _, _, _, _, _, _] rfl ?_
              refine R_iload dX10_widen_213 rfl ?_
              refine R_aload_n dX10_widen_215 rfl ?_
              refine R_getR _ (hr _ _ _ rfl) fd10_6 kf10_24 rfl dX10_widen_216 ?_
              refine R_iload dX10_widen_219 rfl ?_
              refine R_iald rfl (by omega) (by omega) dX10_widen_221 ?_
              try rw [Int.toNat_natCast]
              refine R_iload dX10_widen_222 rfl ?_
              refine R_ior dX10_widen_224 ?_
              rw [e46, bOr_n (by have := hA2.2.2.1; omega) (by omega)]
              refine R_mmin km10_107 (by decide) (by decide) (by decide) (by decide) dX10_widen_225 ?_
              refine R_istore dX10_widen_228 (by decide) rfl [_, _, _, _, _, _, _, _, _, _, _, _, _, _, _, _, _, _] rfl ?_
              refine R_iload dX10_widen_230 rfl ?_
              refine R_aload_n dX10_widen_232 rfl ?_
              refine R_getR _ (hr _ _ _ rfl) fd10_7 kf10_27 rfl dX10_widen_233 ?_
              refine R_iload dX10_widen_236 rfl ?_
              refine R_iald rfl (by omega) (by omega) dX10_widen_238 ?_
              try rw [Int.toNat_natCast]
              refine R_iload dX10_widen_239 rfl ?_
              refine R_ior dX10_widen_241 ?_
              rw [e47, bOr_n (by have := hA2.2.2.2; omega) (by omega)]
              refine R_callS (c_X10_shared co (co2 ||| ad) hA.2.2.2 hSh.2.2.2) (mvX10_shared _) ksX10_shared km10_110 ⟨rfl, rfl, by decide, by decide⟩ (Nat.le_of_ble_eq_true rfl) dX10_widen_242 (fun v1 sh1 g1 z1 r1 hq => ?_)
              obtain ⟨rfl, rfl, rfl, rfl, rfl⟩ := hq
              refine R_istore dX10_widen_245 (by decide) rfl [_, _, _, _, _, _, _, _, _, _, _, _, _, _, _, _, _, _] rfl ?_
              refine R_lload dX10_widen_247 rfl ?_
              refine R_aload_n dX10_widen_249 rfl ?_
              refine R_getR _ (hr _ _ _ rfl) fd10_8 kf10_30 rfl dX10_widen_250 ?_
              refine R_iload dX10_widen_253 rfl ?_
              refine R_lald rfl (by omega) (by omega) dX10_widen_255 ?_
              try rw [Int.toNat_natCast]
              refine R_laddN dX10_widen_256 (by unfold inL; omega) ?_
              refine R_lstore dX10_widen_257 (by decide) rfl [_, _, _, _, _, _, _, _, _, _, _, _, _, _, _, _, _, _] rfl ?_
              refine R_goto 271 dX10_widen_259 (by decide) ?_
              have emn : (if ((le2 ||| ad : Nat) : Int) < (le : Int) then ((le2 ||| ad : Nat) : Int) else (le : Int)) = ((mn le (le2 ||| ad) : Nat) : Int) := by
                unfold mn
                by_cases h : le2 ||| ad < le
                · rw [if_pos h, if_pos (by omega)]
                · rw [if_neg h, if_neg (by omega)]
              rw [emn]
              exact next _ _ _ _ _ _ _ _ _ _ hAp
          · have hlt : mo < g 44 (S ^^^ p) + w := by omega
            simp only [if_pos hlt] at hAp
            refine R_iload dX10_widen_148 rfl ?_
            refine R_iload dX10_widen_150 rfl ?_
            refine R_mmax km10_101 (by decide) (by decide) (by decide) (by decide) dX10_widen_152 ?_
            refine R_istore dX10_widen_155 (by decide) rfl [_, _, _, _, _, _, _, _, _, _, _, _, _, _, _, _, _, _] rfl ?_
            refine R_iload dX10_widen_157 rfl ?_
            refine R_istore dX10_widen_159 (by decide) rfl [_, _, _, _, _, _, _, _, _, _, _, _, _, _, _, _, _, _] rfl ?_
            refine R_aload_n dX10_widen_161 rfl ?_
            refine R_getR _ (hr _ _ _ rfl) fd10_6 kf10_24 rfl dX10_widen_162 ?_
            refine R_iload dX10_widen_165 rfl ?_
            refine R_iald rfl (by omega) (by omega) dX10_widen_167 ?_
            try rw [Int.toNat_natCast]
            refine R_iload dX10_widen_168 rfl ?_
            refine R_ior dX10_widen_170 ?_
            rw [e46, bOr_n (by have := hA2.2.2.1; omega) (by omega)]
            refine R_istore dX10_widen_171 (by decide) rfl [_, _, _, _, _, _, _, _, _, _, _, _, _, _, _, _, _, _] rfl ?_
            refine R_aload_n dX10_widen_173 rfl ?_
            refine R_getR _ (hr _ _ _ rfl) fd10_7 kf10_27 rfl dX10_widen_174 ?_
            refine R_iload dX10_widen_177 rfl ?_
            refine R_iald rfl (by omega) (by omega) dX10_widen_179 ?_
            try rw [Int.toNat_natCast]
            refine R_iload dX10_widen_180 rfl ?_
            refine R_ior dX10_widen_182 ?_
            rw [e47, bOr_n (by have := hA2.2.2.2; omega) (by omega)]
            refine R_istore dX10_widen_183 (by decide) rfl [_, _, _, _, _, _, _, _, _, _, _, _, _, _, _, _, _, _] rfl ?_
            refine R_aload_n dX10_widen_185 rfl ?_
            refine R_getR _ (hr _ _ _ rfl) fd10_8 kf10_30 rfl dX10_widen_186 ?_
            refine R_iload dX10_widen_189 rfl ?_
            refine R_lald rfl (by omega) (by omega) dX10_widen_191 ?_
            try rw [Int.toNat_natCast]
            refine R_lstore dX10_widen_192 (by decide) rfl [_, _, _, _, _, _, _, _, _, _, _, _, _, _, _, _, _, _] rfl ?_
            refine R_goto 271 dX10_widen_194 (by decide) ?_
            exact next _ _ _ _ _ _ _ _ _ _ hAp
        refine R_aload_n dX10_widen_67 rfl ?_
        refine R_getR _ (hr _ _ _ rfl) fd10_4 kf10_18 rfl dX10_widen_68 ?_
        refine R_iload dX10_widen_71 rfl ?_
        refine R_iald rfl (by omega) (by omega) dX10_widen_73 ?_
        try rw [Int.toNat_natCast]
        refine R_aload_n dX10_widen_74 rfl ?_
        refine R_getR _ (hr _ _ _ rfl) fd10_2 kf10_11 rfl dX10_widen_75 ?_
        refine R_iload dX10_widen_78 rfl ?_
        refine R_iald rfl (by omega) (by omega) dX10_widen_80 ?_
        try rw [Int.toNat_natCast]
        rw [hw42]
        refine R_iaddN dX10_widen_81 (by unfold inI; omega) ?_
        refine R_istore dX10_widen_82 (by decide) rfl [_, _, _, _, _, _, _, _, _, _, _, _, _, _, _, _, _, _] rfl ?_
        refine R_aload_n dX10_widen_84 rfl ?_
        refine R_getR _ (hr _ _ _ rfl) fd10_5 kf10_21 rfl dX10_widen_85 ?_
        refine R_iload dX10_widen_88 rfl ?_
        refine R_iald rfl (by omega) (by omega) dX10_widen_90 ?_
        try rw [Int.toNat_natCast]
        refine R_ldcC (v := -1000000) kk10_100 (by decide +kernel) dX10_widen_91 (by decide) ?_
        refine R_icmp_ne 101 dX10_widen_93 (by decide) (fun hc93 => ?_) (fun hc93 => ?_)
        · refine R_aload_n dX10_widen_101 rfl ?_
          refine R_getR _ (hr _ _ _ rfl) fd10_5 kf10_21 rfl dX10_widen_102 ?_
          refine R_iload dX10_widen_105 rfl ?_
          refine R_iald rfl (by omega) (by omega) dX10_widen_107 ?_
          try rw [Int.toNat_natCast]
          refine R_aload_n dX10_widen_108 rfl ?_
          refine R_getR _ (hr _ _ _ rfl) fd10_2 kf10_11 rfl dX10_widen_109 ?_
          refine R_iload dX10_widen_112 rfl ?_
          refine R_iald rfl (by omega) (by omega) dX10_widen_114 ?_
          try rw [Int.toNat_natCast]
          rw [hw42]
          refine R_iaddN dX10_widen_115 (by unfold inI; omega) ?_
          exact cont _ (by rw [if_neg hc93])
        · refine R_ldcC (v := -1000000) kk10_100 (by decide +kernel) dX10_widen_96 (by decide) ?_
          refine R_goto 116 dX10_widen_98 (by decide) ?_
          exact cont _ (by rw [if_pos hc93])
  refine R_ldcC (v := -1000000) kk10_100 (by decide +kernel) dX10_widen_0 (by decide) ?_
  refine R_istore dX10_widen_2 (by decide) rfl [_, _, _, _, _, _, _, _, _, _, _, _, _, _, _, _, _, _] rfl ?_
  refine R_ldcC (v := -1000000) kk10_100 (by decide +kernel) dX10_widen_4 (by decide) ?_
  refine R_istore dX10_widen_6 (by decide) rfl [_, _, _, _, _, _, _, _, _, _, _, _, _, _, _, _, _, _] rfl ?_
  refine R_iconst dX10_widen_8 rfl rfl ?_
  refine R_istore dX10_widen_9 (by decide) rfl [_, _, _, _, _, _, _, _, _, _, _, _, _, _, _, _, _, _] rfl ?_
  refine R_iconst dX10_widen_11 rfl rfl ?_
  refine R_istore dX10_widen_12 (by decide) rfl [_, _, _, _, _, _, _, _, _, _, _, _, _, _, _, _, _, _] rfl ?_
  refine R_lconst dX10_widen_14 ?_
  refine R_lstore dX10_widen_15 (by decide) rfl [_, _, _, _, _, _, _, _, _, _, _, _, _, _, _, _, _, _] rfl ?_
  refine R_lconst dX10_widen_17 ?_
  refine R_lstore dX10_widen_18 (by decide) rfl [_, _, _, _, _, _, _, _, _, _, _, _, _, _, _, _, _, _] rfl ?_
  refine R_iload_n dX10_widen_20 rfl ?_
  refine R_iload_n dX10_widen_21 rfl ?_
  refine R_iand dX10_widen_22 ?_
  rw [bAnd_n (by omega), hwie]
  refine R_istore dX10_widen_23 (by decide) rfl [_, _, _, _, _, _, _, _, _, _, _, _, _, _, _, _, _, _] rfl ?_
  refine R_iload dX10_widen_25 rfl ?_
  refine R_istore dX10_widen_27 (by decide) rfl [_, _, _, _, _, _, _, _, _, _, _, _, _, _, _, _, _, _] rfl ?_
  exact loop (wi + 1) wi [] (-1000000) (-1000000) 0 0 0 0 (by omega) (Nat.and_self _) (by rw [List.nil_append]; exact hXW.symm) AGC_nil
end WIDEN
