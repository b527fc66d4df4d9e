section FGT
variable {M : MI} {mc ms n0 : Nat} {Q : PQ} {ce sl : Nat} {sh : SH} {pc : Nat} {ls : List (Option AV)} {st : List AV} {g z : GG} {r : RR}
/-- forget some locals -/
theorem RJ.msk (m : List Bool) (ls' : List (Option AV)) (hls : List.zipWith (fun b o => cond b o none) m ls = ls') (h : RJ M mc ms n0 Q ce sl sh pc ls' st g z r) : RJ M mc ms n0 Q ce sl sh pc ls st g z r := by
  have key : ∀ (i : Nat) (v : AV), ls'[i]? = some (some v) → ls[i]? = some (some v) := by
    intro i v hi
    rw [← hls, List.getElem?_zipWith] at hi
    cases h1 : m[i]? with
    | none => simp [h1] at hi
    | some b =>
      cases h2 : ls[i]? with
      | none => simp [h1, h2] at hi
      | some o =>
        simp only [h1, h2, Option.some.injEq] at hi
        cases b with
        | false => simp at hi
        | true => simpa using hi
  intro p l e s m args below meth cd dC dI cy ad0 ad adK adV A H locs Ls hC hn hd0 hst hW hS hO hl hs hL
  refine h p l e s m args below meth cd dC dI cy ad0 ad adK adV A H locs Ls hC hn hd0 hst hW hS hO (fun v hv => ?_) hs ⟨hL.1, hL.2.1, fun q hq => hL.2.2 q ?_⟩
  · obtain ⟨i, hi⟩ := List.getElem?_of_mem hv
    exact hl v (List.mem_of_getElem? (key i v hi))
  · obtain ⟨i, v, hi, rfl⟩ := lvl_mem.mp hq
    exact lvl_mem.mpr ⟨i, v, key i v hi, rfl⟩
end FGT
def SK (o : Nat → Int) (stk : List Int) : Prop := ∀ (j : Nat) (x : Int), stk.reverse[j]? = some x → o j = x
theorem SK_push {o : Nat → Int} {stk : List Int} {x : Int} (h : SK o stk) : SK (fun j => if j = stk.length then x else o j) (x :: stk) := by
  intro j y hj
  rw [List.reverse_cons] at hj
  by_cases hl : j < stk.length
  · rw [List.getElem?_append_left (by simpa using hl)] at hj
    show (if j = stk.length then x else o j) = y
    rw [if_neg (by omega)]
    exact h j y hj
  · rw [List.getElem?_append_right (by simp; omega)] at hj
    have : j = stk.length := by
      have := (List.getElem?_eq_some_iff.mp hj).1
      simp at this; omega
    subst this
    simp at hj
    simp [hj]
theorem SK_tail {o : Nat → Int} {stk : List Int} {x : Int} (h : SK o (x :: stk)) : SK o stk := by
  intro j y hj
  refine h j y ?_
  rw [List.reverse_cons, List.getElem?_append_left (List.getElem?_eq_some_iff.mp hj).1]
  exact hj
theorem SK_top {o : Nat → Int} {stk : List Int} {x : Int} (h : SK o (x :: stk)) : o stk.length = x := by
  refine h _ x ?_
  rw [List.reverse_cons, List.getElem?_append_right (by simp)]
  simp
section HOLDS
variable {g z : GG} {r : RR}
theorem c_X2_holds (hr : RS r) (c : Nat) (hc : isCu c) (fr to : Nat) (hto : to ≤ 160) (hva : ∀ j, j < to → 0 ≤ g (c + 4) j ∧ g (c + 4) j ≤ 100000) : CT (mX2_holds (rmD 1 0 0)) 0 0 shW [vR (some c), vI (fr : Int), vI (to : Int), vR (some 37)] g z r (qG shW z r fun v g' => v = some (vI (bi (hC (g (c + 3)) (g (c + 4)) (g 37) to 200 fr []))) ∧ ∃ o, g' = upC g (c + 5) o) := by
  refine CT.of 4 rfl rfl ?_
  generalize hX : hC (g (c + 3)) (g (c + 4)) (g 37) to 200 fr [] = X
  generalize hQ : (qG shW z r fun v g' => v = some (vI (bi X)) ∧ ∃ o, g' = upC g (c + 5) o) = Q
  have n3 : c + 3 ≠ c + 5 := by omega
  have n4 : c + 4 ≠ c + 5 := by omega
  have n37 : (37 : Nat) ≠ c + 5 := by rcases hc with rfl | rfl | rfl | rfl | rfl <;> decide
  have fls46 : ∀ (ls : List (Option AV)) (o : Nat → Int), X = false → RJ (mX2_holds (rmD 1 0 0)) 0 0 shW.length Q 0 0 shW 46 ls [vI 0] (upC g (c + 5) o) z r := by
    intro ls o hf
    refine R_ireturn rfl (by first | rfl | exact nar_b2i | exact nar_bi) (by decide) (by decide) dX2_holds_46 ?_
    rw [← hQ]
    exact ⟨⟨by rw [hf]; rfl, o, rfl⟩, rfl, rfl, rfl⟩
  have fls95 : ∀ (ls : List (Option AV)) (o : Nat → Int), X = false → RJ (mX2_holds (rmD 1 0 0)) 0 0 shW.length Q 0 0 shW 95 ls [vI 0] (upC g (c + 5) o) z r := by
    intro ls o hf
    refine R_ireturn rfl (by first | rfl | exact nar_b2i | exact nar_bi) (by decide) (by decide) dX2_holds_95 ?_
    rw [← hQ]
    exact ⟨⟨by rw [hf]; rfl, o, rfl⟩, rfl, rfl, rfl⟩
  have fls242 : ∀ (ls : List (Option AV)) (o : Nat → Int), X = false → RJ (mX2_holds (rmD 1 0 0)) 0 0 shW.length Q 0 0 shW 242 ls [vI 0] (upC g (c + 5) o) z r := by
    intro ls o hf
    refine R_ireturn rfl (by first | rfl | exact nar_b2i | exact nar_bi) (by decide) (by decide) dX2_holds_242 ?_
    rw [← hQ]
    exact ⟨⟨by rw [hf]; rfl, o, rfl⟩, rfl, rfl, rfl⟩
  have fls302 : ∀ (ls : List (Option AV)) (o : Nat → Int), X = false → RJ (mX2_holds (rmD 1 0 0)) 0 0 shW.length Q 0 0 shW 302 ls [vI 0] (upC g (c + 5) o) z r := by
    intro ls o hf
    refine R_ireturn rfl (by first | rfl | exact nar_b2i | exact nar_bi) (by decide) (by decide) dX2_holds_302 ?_
    rw [← hQ]
    exact ⟨⟨by rw [hf]; rfl, o, rfl⟩, rfl, rfl, rfl⟩
  have loop : ∀ (n step : Nat) (stk : List Int) (o : Nat → Int), (1 ≤ n ∧ to < step + n) → stk.length ≤ 16 → SK o stk → hC (g (c + 3)) (g (c + 4)) (g 37) to n step stk = X → RJ (mX2_holds (rmD 1 0 0)) 0 0 shW.length Q 0 0 shW 6 [some (vR (some c)), some (vI ((fr : Int))), some (vI ((to : Int))), some (vR (some 37)), some (vI (((stk.length : Nat) : Int))), some (vI ((step : Int))), none, none] [] (upC g (c + 5) o) z r := by
    intro n
    induction n with
    | zero => intro step stk o h0; exact absurd h0.1 (by omega)
    | succ n ih =>
      intro step stk o h1n hlen hsk hx
      have back : ∀ (stk' : List Int) (o' : Nat → Int) (step' : Nat) (a6 a7 : Option AV), step < to → step ≤ step' → step' ≤ 200000 → stk'.length ≤ 16 → SK o' stk' → hC (g (c + 3)) (g (c + 4)) (g 37) to n (step' + 1) stk' = X → RJ (mX2_holds (rmD 1 0 0)) 0 0 shW.length Q 0 0 shW 276 [some (vR (some c)), some (vI (fr : Int)), some (vI (to : Int)), some (vR (some 37)), some (vI ((stk'.length : Nat) : Int)), some (vI (step' : Int)), a6, a7] [] (upC g (c + 5) o') z r := by
        intro stk' o' step' a6 a7 hlt hle h200 hl' hsk' hx'
        refine R_iincN dX2_holds_276 rfl (by decide) rfl (by unfold inI; omega) [_, _, _, _, _, _, _, _] rfl ?_
        refine R_goto 6 dX2_holds_279 (by decide) ?_
        refine RJ.msk [true, true, true, true, true, true, false, false] [_, _, _, _, _, _, _, _] rfl ?_
        exact ih (step' + 1) stk' o' (by omega) hl' hsk' hx'
      by_cases hlt : step < to
      · unfold hC at hx
        rw [if_pos hlt] at hx
        have hv := hva step hlt
        refine R_iload dX2_holds_6 rfl ?_
        refine R_iload_n dX2_holds_8 rfl ?_
        refine R_icmp_ge 282 dX2_holds_9 (by decide) (fun hc9 => ?_) (fun hc9 => ?_)
        · exact absurd hc9 (by omega)
        refine R_aload_n dX2_holds_12 rfl ?_
        refine R_getR _ (isCu_r2 hr hc) fd2_2 kf2_18 (isCu_sh hc) dX2_holds_13 ?_
        refine R_iload dX2_holds_16 rfl ?_
        refine R_iald (isCu_s3 hc) (by omega) (by omega) dX2_holds_18 ?_
        simp only [upC_far n3, upC_far n4, upC_s, Int.toNat_natCast]
        by_cases hnum : g (c + 3) step = 48 ∨ g (c + 3) step = 110
        · rw [if_pos hnum] at hx
          by_cases h16 : 16 ≤ stk.length
          · rw [if_pos h16] at hx
            have fin : ∀ a6, RJ (mX2_holds (rmD 1 0 0)) 0 0 shW.length Q 0 0 shW 35 [some (vR (some c)), some (vI (fr : Int)), some (vI (to : Int)), some (vR (some 37)), some (vI ((stk.length : Nat) : Int)), some (vI (step : Int)), some a6, none] [] (upC g (c + 5) o) z r := by
              intro a6
              refine R_iload dX2_holds_35 rfl ?_
              refine R_aload_n dX2_holds_37 rfl ?_
              refine R_getR _ (isCu_r4 hr hc) fd2_4 kf2_24 (isCu_sh hc) dX2_holds_38 ?_
              refine R_alen15 (isCu_s5 hc) (by decide) dX2_holds_41 ?_
              refine R_icmp_lt 47 dX2_holds_42 (by decide) (fun hc42 => ?_) (fun hc42 => ?_)
              · exact absurd hc42 (by omega)
              refine R_iconst dX2_holds_45 rfl rfl ?_
              exact fls46 _ _ hx.symm
            refine R_istore dX2_holds_19 (by decide) rfl [_, _, _, _, _, _, _, _] rfl ?_
            refine R_iload dX2_holds_21 rfl ?_
            refine R_bipush dX2_holds_23 rfl (by decide +kernel) ?_
            refine R_icmp_eq 35 dX2_holds_25 (by decide) (fun hc25 => ?_) (fun hc25 => ?_)
            · exact fin _
            refine R_iload dX2_holds_28 rfl ?_
            refine R_bipush dX2_holds_30 rfl (by decide +kernel) ?_
            refine R_icmp_ne 88 dX2_holds_32 (by decide) (fun hc32 => ?_) (fun hc32 => ?_)
            · exact absurd hc32 (by omega)
            · exact fin _
          · rw [if_neg h16] at hx
            have psh : SK (fun j => if j = stk.length then (if g (c + 3) step = 48 then g (c + 4) step else fA (g 37) (g (c + 4) step)) else o j) ((if g (c + 3) step = 48 then g (c + 4) step else fA (g 37) (g (c + 4) step)) :: stk) := SK_push hsk
            have fin : RJ (mX2_holds (rmD 1 0 0)) 0 0 shW.length Q 0 0 shW 35 [some (vR (some c)), some (vI (fr : Int)), some (vI (to : Int)), some (vR (some 37)), some (vI ((stk.length : Nat) : Int)), some (vI (step : Int)), some (vI (g (c + 3) step)), none] [] (upC g (c + 5) o) z r := by
              refine R_iload dX2_holds_35 rfl ?_
              refine R_aload_n dX2_holds_37 rfl ?_
              refine R_getR _ (isCu_r4 hr hc) fd2_4 kf2_24 (isCu_sh hc) dX2_holds_38 ?_
              refine R_alen15 (isCu_s5 hc) (by decide) dX2_holds_41 ?_
              refine R_icmp_lt 47 dX2_holds_42 (by decide) (fun hc42 => ?_) (fun hc42 => ?_)
              · refine R_aload_n dX2_holds_47 rfl ?_
                refine R_getR _ (isCu_r4 hr hc) fd2_4 kf2_24 (isCu_sh hc) dX2_holds_48 ?_
                refine R_iload dX2_holds_51 rfl ?_
                refine R_iload dX2_holds_53 rfl ?_
                refine R_bipush dX2_holds_55 rfl (by decide +kernel) ?_
                refine R_icmp_ne 70 dX2_holds_57 (by decide) (fun hc57 => ?_) (fun hc57 => ?_)
                · rw [if_neg hc57] at hx psh
                  refine R_aload_n dX2_holds_70 rfl ?_
                  refine R_aload_n dX2_holds_71 rfl ?_
                  refine R_getR _ (isCu_r3 hr hc) fd2_3 kf2_21 (isCu_sh hc) dX2_holds_72 ?_
                  refine R_iload dX2_holds_75 rfl ?_
                  refine R_iald (isCu_s4 hc) (by omega) (by omega) dX2_holds_77 ?_
                  simp only [upC_far n3, upC_far n4, upC_s, Int.toNat_natCast]
                  refine R_callS (c_X2_factAt (g (c + 4) step)) (mvX2_factAt _) ksX2_factAt km2_38 ⟨rfl, rfl, by decide, by decide⟩ (Nat.le_of_ble_eq_true rfl) dX2_holds_78 (fun v1 sh1 g1 z1 r1 hq => ?_)
                  obtain ⟨rfl, rfl, rfl, rfl, rfl⟩ := hq
                  have e37 : (upC g (c + 5) o) 37 = g 37 := by funext j; exact upC_far n37
                  rw [e37]
                  refine R_iast (isCu_s5 hc) (by omega) (by omega) dX2_holds_81 ?_
                  refine R_iincN dX2_holds_82 rfl (by decide) rfl (by unfold inI; omega) [_, _, _, _, _, _, _, _] rfl ?_
                  refine R_goto 276 dX2_holds_85 (by decide) ?_
                  rw [up2_upC, Int.toNat_natCast]
                  exact back (_ :: stk) _ step _ _ hlt (Nat.le_refl _) (by omega) (by simp; omega) psh hx
                · rw [if_pos hc57] at hx psh
                  refine R_aload_n dX2_holds_60 rfl ?_
                  refine R_getR _ (isCu_r3 hr hc) fd2_3 kf2_21 (isCu_sh hc) dX2_holds_61 ?_
                  refine R_iload dX2_holds_64 rfl ?_
                  refine R_iald (isCu_s4 hc) (by omega) (by omega) dX2_holds_66 ?_
                  simp only [upC_far n3, upC_far n4, upC_s, Int.toNat_natCast]
                  refine R_goto 81 dX2_holds_67 (by decide) ?_
                  refine R_iast (isCu_s5 hc) (by omega) (by omega) dX2_holds_81 ?_
                  refine R_iincN dX2_holds_82 rfl (by decide) rfl (by unfold inI; omega) [_, _, _, _, _, _, _, _] rfl ?_
                  refine R_goto 276 dX2_holds_85 (by decide) ?_
                  rw [up2_upC, Int.toNat_natCast]
                  exact back (_ :: stk) _ step _ _ hlt (Nat.le_refl _) (by omega) (by simp; omega) psh hx
              · exact absurd hc42 (by omega)
            refine R_istore dX2_holds_19 (by decide) rfl [_, _, _, _, _, _, _, _] rfl ?_
            refine R_iload dX2_holds_21 rfl ?_
            refine R_bipush dX2_holds_23 rfl (by decide +kernel) ?_
            refine R_icmp_eq 35 dX2_holds_25 (by decide) (fun hc25 => ?_) (fun hc25 => ?_)
            · exact fin
            refine R_iload dX2_holds_28 rfl ?_
            refine R_bipush dX2_holds_30 rfl (by decide +kernel) ?_
            refine R_icmp_ne 88 dX2_holds_32 (by decide) (fun hc32 => ?_) (fun hc32 => ?_)
            · exact absurd hc32 (by omega)
            · exact fin
        rw [if_neg hnum] at hx
        refine R_istore dX2_holds_19 (by decide) rfl [_, _, _, _, _, _, _, _] rfl ?_
        refine R_iload dX2_holds_21 rfl ?_
        refine R_bipush dX2_holds_23 rfl (by decide +kernel) ?_
        refine R_icmp_eq 35 dX2_holds_25 (by decide) (fun hc25 => ?_) (fun hc25 => ?_)
        · exact absurd hc25 (by omega)
        refine R_iload dX2_holds_28 rfl ?_
        refine R_bipush dX2_holds_30 rfl (by decide +kernel) ?_
        refine R_icmp_ne 88 dX2_holds_32 (by decide) (fun hc32 => ?_) (fun hc32 => ?_)
        · cases stk with
          | nil =>
            refine R_iload dX2_holds_88 rfl ?_
            refine R_iconst dX2_holds_90 rfl rfl ?_
            refine R_icmp_ge 96 dX2_holds_91 (by decide) (fun hc91 => ?_) (fun hc91 => ?_)
            · exact absurd hc91 (by simp)
            refine R_iconst dX2_holds_94 rfl rfl ?_
            exact fls95 _ _ hx.symm
          | cons x t =>
            have htop : o t.length = x := SK_top hsk
            have hlt1 : t.length + 1 ≤ 16 := hlen
            have elen : (((x :: t).length : Nat) : Int) = ((t.length : Nat) : Int) + 1 := by simp
            rw [elen]
            simp only at hx
            refine R_iload dX2_holds_88 rfl ?_
            refine R_iconst dX2_holds_90 rfl rfl ?_
            refine R_icmp_ge 96 dX2_holds_91 (by decide) (fun hc91 => ?_) (fun hc91 => ?_)
            · by_cases hex : g (c + 3) step = 33
              · rw [if_pos hex] at hx
                refine R_iload dX2_holds_96 rfl ?_
                refine R_bipush dX2_holds_98 rfl (by decide +kernel) ?_
                refine R_icmp_ne 126 dX2_holds_100 (by decide) (fun hc100 => ?_) (fun hc100 => ?_)
                · exact absurd hex hc100
                refine R_aload_n dX2_holds_103 rfl ?_
                refine R_getR _ (isCu_r4 hr hc) fd2_4 kf2_24 (isCu_sh hc) dX2_holds_104 ?_
                refine R_iload dX2_holds_107 rfl ?_
                refine R_iconst dX2_holds_109 rfl rfl ?_
                refine R_isubN dX2_holds_110 (by unfold inI; omega) ?_
                refine R_iconst dX2_holds_111 rfl rfl ?_
                refine R_aload_n dX2_holds_112 rfl ?_
                refine R_getR _ (isCu_r4 hr hc) fd2_4 kf2_24 (isCu_sh hc) dX2_holds_113 ?_
                refine R_iload dX2_holds_116 rfl ?_
                refine R_iconst dX2_holds_118 rfl rfl ?_
                refine R_isubN dX2_holds_119 (by unfold inI; omega) ?_
                refine R_iald (isCu_s5 hc) (by omega) (by omega) dX2_holds_120 ?_
                simp only [upC_s]
                rw [show ((t.length : Nat) : Int) + 1 - 1 = ((t.length : Nat) : Int) by omega, Int.toNat_natCast, htop]
                refine R_isub dX2_holds_121 ?_
                refine R_iast (isCu_s5 hc) (by omega) (by omega) dX2_holds_122 ?_
                refine R_goto 276 dX2_holds_123 (by decide) ?_
                rw [up2_upC, Int.toNat_natCast]
                have := back (w32 (1 - x) :: t) _ step (some (vI (g (c + 3) step))) none hlt (Nat.le_refl _) (by omega) hlen (SK_push (SK_tail hsk)) hx
                rw [show (((w32 (1 - x) :: t).length : Nat) : Int) = ((t.length : Nat) : Int) + 1 by simp] at this
                exact this
              · rw [if_neg hex] at hx
                refine R_iload dX2_holds_96 rfl ?_
                refine R_bipush dX2_holds_98 rfl (by decide +kernel) ?_
                refine R_icmp_ne 126 dX2_holds_100 (by decide) (fun hc100 => ?_) (fun hc100 => ?_)
                · by_cases hlog : g (c + 3) step = 38 ∨ g (c + 3) step = 124
                  · rw [if_pos hlog] at hx
                    have jump : ∀ (b : Int), b = (if (x = 0 ↔ g (c + 3) step = 38) then 1 else 0) → RJ (mX2_holds (rmD 1 0 0)) 0 0 shW.length Q 0 0 shW 177 [some (vR (some c)), some (vI (fr : Int)), some (vI (to : Int)), some (vR (some 37)), some (vI (((t.length : Nat) : Int) + 1)), some (vI (step : Int)), some (vI (g (c + 3) step)), none] [vI b] (upC g (c + 5) o) z r := by
                      intro b hb
                      refine R_istore dX2_holds_177 (by decide) rfl [_, _, _, _, _, _, _, _] rfl ?_
                      refine R_iload dX2_holds_179 rfl ?_
                      refine R_if_eq 203 dX2_holds_181 (by decide) (fun hc181 => ?_) (fun hc181 => ?_)
                      · rw [hc181] at hb
                        have hq : ¬ (x = 0 ↔ g (c + 3) step = 38) := fun q => by rw [if_pos q] at hb; exact absurd hb (by omega)
                        rw [if_neg hq] at hx
                        refine R_iincN dX2_holds_203 rfl (by decide) rfl (by unfold inI; omega) [_, _, _, _, _, _, _, _] rfl ?_
                        refine R_goto 276 dX2_holds_206 (by decide) ?_
                        rw [show ((t.length : Nat) : Int) + 1 + -1 = ((t.length : Nat) : Int) by omega]
                        exact back t o step _ _ hlt (Nat.le_refl _) (by omega) (by omega) (SK_tail hsk) hx
                      · have hq : (x = 0 ↔ g (c + 3) step = 38) := by
                          by_cases q : (x = 0 ↔ g (c + 3) step = 38)
                          · exact q
                          · rw [if_neg q] at hb; exact absurd hb hc181
                        rw [if_pos hq] at hx
                        refine R_iload dX2_holds_184 rfl ?_
                        refine R_aload_n dX2_holds_186 rfl ?_
                        refine R_getR _ (isCu_r3 hr hc) fd2_3 kf2_21 (isCu_sh hc) dX2_holds_187 ?_
                        refine R_iload dX2_holds_190 rfl ?_
                        refine R_iald (isCu_s4 hc) (by omega) (by omega) dX2_holds_192 ?_
                        simp only [upC_far n3, upC_far n4, upC_s, Int.toNat_natCast]
                        refine R_iconst dX2_holds_193 rfl rfl ?_
                        refine R_isubN dX2_holds_194 (by unfold inI; omega) ?_
                        refine R_mmax km2_42 (by decide) (by decide) (by decide) (by decide) dX2_holds_195 ?_
                        rw [show (if (step : Int) < g (c + 4) step - 1 then g (c + 4) step - 1 else (step : Int)) = (((if (step : Int) < g (c + 4) step - 1 then (g (c + 4) step - 1).toNat else step) : Nat) : Int) by split <;> omega]
                        refine R_istore dX2_holds_198 (by decide) rfl [_, _, _, _, _, _, _, _] rfl ?_
                        refine R_goto 206 dX2_holds_200 (by decide) ?_
                        refine R_goto 276 dX2_holds_206 (by decide) ?_
                        have := back (x :: t) o (if (step : Int) < g (c + 4) step - 1 then (g (c + 4) step - 1).toNat else step) (some (vI (g (c + 3) step))) (some (vI b)) hlt (by split <;> omega) (by split <;> omega) hlen hsk hx
                        rw [elen] at this
                        exact this
                    have pre : RJ (mX2_holds (rmD 1 0 0)) 0 0 shW.length Q 0 0 shW 140 [some (vR (some c)), some (vI (fr : Int)), some (vI (to : Int)), some (vR (some 37)), some (vI (((t.length : Nat) : Int) + 1)), some (vI (step : Int)), some (vI (g (c + 3) step)), none] [] (upC g (c + 5) o) z r := by
                      refine R_aload_n dX2_holds_140 rfl ?_
                      refine R_getR _ (isCu_r4 hr hc) fd2_4 kf2_24 (isCu_sh hc) dX2_holds_141 ?_
                      refine R_iload dX2_holds_144 rfl ?_
                      refine R_iconst dX2_holds_146 rfl rfl ?_
                      refine R_isubN dX2_holds_147 (by unfold inI; omega) ?_
                      refine R_iald (isCu_s5 hc) (by omega) (by omega) dX2_holds_148 ?_
                      simp only [upC_s]
                      rw [show ((t.length : Nat) : Int) + 1 - 1 = ((t.length : Nat) : Int) by omega, Int.toNat_natCast, htop]
                      refine R_if_ne 156 dX2_holds_149 (by decide) (fun hc149 => ?_) (fun hc149 => ?_)
                      · refine R_iconst dX2_holds_156 rfl rfl ?_
                        refine R_iload dX2_holds_157 rfl ?_
                        refine R_bipush dX2_holds_159 rfl (by decide +kernel) ?_
                        refine R_icmp_ne 168 dX2_holds_161 (by decide) (fun hc161 => ?_) (fun hc161 => ?_)
                        · refine R_iconst dX2_holds_168 rfl rfl ?_
                          refine R_icmp_ne 176 dX2_holds_169 (by decide) (fun hc169 => ?_) (fun hc169 => ?_)
                          · refine R_iconst dX2_holds_176 rfl rfl ?_
                            first | exact absurd rfl hc169 | (exfalso; omega) | exact jump _ (by simp [hc149, hc161])
                          · refine R_iconst dX2_holds_172 rfl rfl ?_
                            refine R_goto 177 dX2_holds_173 (by decide) ?_
                            first | exact absurd rfl hc169 | (exfalso; omega) | exact jump _ (by simp [hc149, hc161])
                        · refine R_iconst dX2_holds_164 rfl rfl ?_
                          refine R_goto 169 dX2_holds_165 (by decide) ?_
                          refine R_icmp_ne 176 dX2_holds_169 (by decide) (fun hc169 => ?_) (fun hc169 => ?_)
                          · refine R_iconst dX2_holds_176 rfl rfl ?_
                            first | exact absurd rfl hc169 | (exfalso; omega) | exact jump _ (by simp [hc149, hc161])
                          · refine R_iconst dX2_holds_172 rfl rfl ?_
                            refine R_goto 177 dX2_holds_173 (by decide) ?_
                            first | exact absurd rfl hc169 | (exfalso; omega) | exact jump _ (by simp [hc149, hc161])
                      · refine R_iconst dX2_holds_152 rfl rfl ?_
                        refine R_goto 157 dX2_holds_153 (by decide) ?_
                        refine R_iload dX2_holds_157 rfl ?_
                        refine R_bipush dX2_holds_159 rfl (by decide +kernel) ?_
                        refine R_icmp_ne 168 dX2_holds_161 (by decide) (fun hc161 => ?_) (fun hc161 => ?_)
                        · refine R_iconst dX2_holds_168 rfl rfl ?_
                          refine R_icmp_ne 176 dX2_holds_169 (by decide) (fun hc169 => ?_) (fun hc169 => ?_)
                          · refine R_iconst dX2_holds_176 rfl rfl ?_
                            first | exact absurd rfl hc169 | (exfalso; omega) | exact jump _ (by simp [hc149, hc161])
                          · refine R_iconst dX2_holds_172 rfl rfl ?_
                            refine R_goto 177 dX2_holds_173 (by decide) ?_
                            first | exact absurd rfl hc169 | (exfalso; omega) | exact jump _ (by simp [hc149, hc161])
                        · refine R_iconst dX2_holds_164 rfl rfl ?_
                          refine R_goto 169 dX2_holds_165 (by decide) ?_
                          refine R_icmp_ne 176 dX2_holds_169 (by decide) (fun hc169 => ?_) (fun hc169 => ?_)
                          · refine R_iconst dX2_holds_176 rfl rfl ?_
                            first | exact absurd rfl hc169 | (exfalso; omega) | exact jump _ (by simp [hc149, hc161])
                          · refine R_iconst dX2_holds_172 rfl rfl ?_
                            refine R_goto 177 dX2_holds_173 (by decide) ?_
                            first | exact absurd rfl hc169 | (exfalso; omega) | exact jump _ (by simp [hc149, hc161])
                    refine R_iload dX2_holds_126 rfl ?_
                    refine R_bipush dX2_holds_128 rfl (by decide +kernel) ?_
                    refine R_icmp_eq 140 dX2_holds_130 (by decide) (fun hc130 => ?_) (fun hc130 => ?_)
                    · exact pre
                    refine R_iload dX2_holds_133 rfl ?_
                    refine R_bipush dX2_holds_135 rfl (by decide +kernel) ?_
                    refine R_icmp_ne 209 dX2_holds_137 (by decide) (fun hc137 => ?_) (fun hc137 => ?_)
                    · exact absurd hc137 (by omega)
                    · exact pre
                  · rw [if_neg hlog] at hx
                    have bin : RJ (mX2_holds (rmD 1 0 0)) 0 0 shW.length Q 0 0 shW 209 [some (vR (some c)), some (vI (fr : Int)), some (vI (to : Int)), some (vR (some 37)), some (vI (((t.length : Nat) : Int) + 1)), some (vI (step : Int)), some (vI (g (c + 3) step)), none] [] (upC g (c + 5) o) z r := by
                      cases t with
                      | nil =>
                        refine R_iload dX2_holds_209 rfl ?_
                        refine R_iconst dX2_holds_211 rfl rfl ?_
                        refine R_icmp_lt 241 dX2_holds_212 (by decide) (fun hc212 => ?_) (fun hc212 => ?_)
                        · refine R_iconst dX2_holds_241 rfl rfl ?_
                          exact fls242 _ _ hx.symm
                        · exact absurd (by simp) hc212
                      | cons y t' =>
                        simp only at hx
                        have htop2 : o t'.length = y := SK_top (SK_tail hsk)
                        have go : ¬ (x = 0 ∧ (g (c + 3) step = 47 ∨ g (c + 3) step = 37)) → RJ (mX2_holds (rmD 1 0 0)) 0 0 shW.length Q 0 0 shW 243 [some (vR (some c)), some (vI (fr : Int)), some (vI (to : Int)), some (vR (some 37)), some (vI ((((y :: t').length : Nat) : Int) + 1)), some (vI (step : Int)), some (vI (g (c + 3) step)), none] [] (upC g (c + 5) o) z r := by
                          intro hz
                          rw [if_neg hz] at hx
                          refine R_iincN dX2_holds_243 rfl (by decide) rfl (by unfold inI; omega) [_, _, _, _, _, _, _, _] rfl ?_
                          refine R_aload_n dX2_holds_246 rfl ?_
                          refine R_getR _ (isCu_r4 hr hc) fd2_4 kf2_24 (isCu_sh hc) dX2_holds_247 ?_
                          refine R_iload dX2_holds_250 rfl ?_
                          refine R_iconst dX2_holds_252 rfl rfl ?_
                          refine R_isubN dX2_holds_253 (by unfold inI; omega) ?_
                          refine R_iload dX2_holds_254 rfl ?_
                          refine R_aload_n dX2_holds_256 rfl ?_
                          refine R_getR _ (isCu_r4 hr hc) fd2_4 kf2_24 (isCu_sh hc) dX2_holds_257 ?_
                          refine R_iload dX2_holds_260 rfl ?_
                          refine R_iconst dX2_holds_262 rfl rfl ?_
                          refine R_isubN dX2_holds_263 (by unfold inI; omega) ?_
                          refine R_iald (isCu_s5 hc) (by simp; omega) (by simp at hlt1 ⊢; omega) dX2_holds_264 ?_
                          simp only [upC_s]
                          rw [show ((((y :: t').length : Nat) : Int) + 1 + -1 - 1).toNat = t'.length by simp only [List.length_cons]; omega, htop2]
                          refine R_aload_n dX2_holds_265 rfl ?_
                          refine R_getR _ (isCu_r4 hr hc) fd2_4 kf2_24 (isCu_sh hc) dX2_holds_266 ?_
                          refine R_iload dX2_holds_269 rfl ?_
                          refine R_iald (isCu_s5 hc) (by simp; omega) (by simp at hlt1 ⊢; omega) dX2_holds_271 ?_
                          simp only [upC_s]
                          rw [show ((((y :: t').length : Nat) : Int) + 1 + -1).toNat = (y :: t').length by simp only [List.length_cons]; omega, htop]
                          refine R_callS (c_X2_reckon (g (c + 3) step) y x) (mvX2_reckon _) ksX2_reckon km2_48 ⟨rfl, rfl, by decide, by decide⟩ (Nat.le_of_ble_eq_true rfl) dX2_holds_272 (fun v1 sh1 g1 z1 r1 hq => ?_)
                          obtain ⟨rfl, rfl, rfl, rfl, rfl⟩ := hq
                          refine R_iast (isCu_s5 hc) (by simp; omega) (by simp at hlt1 ⊢; omega) dX2_holds_275 ?_
                          rw [up2_upC, show ((((y :: t').length : Nat) : Int) + 1 + -1 - 1).toNat = t'.length by simp only [List.length_cons]; omega]
                          have := back (reck (g (c + 3) step) y x :: t') _ step (some (vI (g (c + 3) step))) none hlt (Nat.le_refl _) (by omega) (by simp at hlt1 ⊢; omega) (SK_push (SK_tail (SK_tail hsk))) hx
                          rw [show (((reck (g (c + 3) step) y x :: t').length : Nat) : Int) = (((y :: t').length : Nat) : Int) + 1 + -1 by simp only [List.length_cons]; omega] at this
                          exact this
                        have bad : (x = 0 ∧ (g (c + 3) step = 47 ∨ g (c + 3) step = 37)) → RJ (mX2_holds (rmD 1 0 0)) 0 0 shW.length Q 0 0 shW 241 [some (vR (some c)), some (vI (fr : Int)), some (vI (to : Int)), some (vR (some 37)), some (vI ((((y :: t').length : Nat) : Int) + 1)), some (vI (step : Int)), some (vI (g (c + 3) step)), none] [] (upC g (c + 5) o) z r := by
                          intro hz
                          rw [if_pos hz] at hx
                          refine R_iconst dX2_holds_241 rfl rfl ?_
                          exact fls242 _ _ hx.symm
                        refine R_iload dX2_holds_209 rfl ?_
                        refine R_iconst dX2_holds_211 rfl rfl ?_
                        refine R_icmp_lt 241 dX2_holds_212 (by decide) (fun hc212 => ?_) (fun hc212 => ?_)
                        · exact absurd hc212 (by simp; omega)
                        refine R_aload_n dX2_holds_215 rfl ?_
                        refine R_getR _ (isCu_r4 hr hc) fd2_4 kf2_24 (isCu_sh hc) dX2_holds_216 ?_
                        refine R_iload dX2_holds_219 rfl ?_
                        refine R_iconst dX2_holds_221 rfl rfl ?_
                        refine R_isubN dX2_holds_222 (by unfold inI; omega) ?_
                        refine R_iald (isCu_s5 hc) (by simp; omega) (by simp at hlt1 ⊢; omega) dX2_holds_223 ?_
                        simp only [upC_s]
                        rw [show ((((y :: t').length : Nat) : Int) + 1 - 1).toNat = (y :: t').length by simp only [List.length_cons]; omega, htop]
                        refine R_if_ne 243 dX2_holds_224 (by decide) (fun hc224 => ?_) (fun hc224 => ?_)
                        · exact go (by omega)
                        · refine R_iload dX2_holds_227 rfl ?_
                          refine R_bipush dX2_holds_229 rfl (by decide +kernel) ?_
                          refine R_icmp_eq 241 dX2_holds_231 (by decide) (fun hc231 => ?_) (fun hc231 => ?_)
                          · exact bad (by omega)
                          · refine R_iload dX2_holds_234 rfl ?_
                            refine R_bipush dX2_holds_236 rfl (by decide +kernel) ?_
                            refine R_icmp_ne 243 dX2_holds_238 (by decide) (fun hc238 => ?_) (fun hc238 => ?_)
                            · exact go (by omega)
                            · exact bad (by omega)
                    refine R_iload dX2_holds_126 rfl ?_
                    refine R_bipush dX2_holds_128 rfl (by decide +kernel) ?_
                    refine R_icmp_eq 140 dX2_holds_130 (by decide) (fun hc130 => ?_) (fun hc130 => ?_)
                    · exact absurd hc130 (by omega)
                    refine R_iload dX2_holds_133 rfl ?_
                    refine R_bipush dX2_holds_135 rfl (by decide +kernel) ?_
                    refine R_icmp_ne 209 dX2_holds_137 (by decide) (fun hc137 => ?_) (fun hc137 => ?_)
                    · exact bin
                    · exact absurd hc137 (by omega)
                · exact absurd hc100 hex
            · exact absurd (by omega) hc91
        · exact absurd hc32 (by omega)
      · unfold hC at hx
        rw [if_neg hlt] at hx
        have fin0 : ∀ (ls : List (Option AV)), X = true → RJ (mX2_holds (rmD 1 0 0)) 0 0 shW.length Q 0 0 shW 302 ls [vI 1] (upC g (c + 5) o) z r := by
          intro ls hf
          refine R_ireturn rfl (by first | rfl | exact nar_b2i | exact nar_bi) (by decide) (by decide) dX2_holds_302 ?_
          rw [← hQ]
          exact ⟨⟨by rw [hf]; rfl, o, rfl⟩, rfl, rfl, rfl⟩
        refine R_iload dX2_holds_6 rfl ?_
        refine R_iload_n dX2_holds_8 rfl ?_
        refine R_icmp_ge 282 dX2_holds_9 (by decide) (fun hc9 => ?_) (fun hc9 => ?_)
        · by_cases h1 : stk.length = 1
          · obtain ⟨x, rfl⟩ := List.length_eq_one_iff.mp h1
            have htop : o 0 = x := SK_top (stk := []) hsk
            refine R_iload dX2_holds_282 rfl ?_
            refine R_iconst dX2_holds_284 rfl rfl ?_
            refine R_icmp_ne 301 dX2_holds_285 (by decide) (fun hc285 => ?_) (fun hc285 => ?_)
            · exact absurd (by simp) hc285
            refine R_aload_n dX2_holds_288 rfl ?_
            refine R_getR _ (isCu_r4 hr hc) fd2_4 kf2_24 (isCu_sh hc) dX2_holds_289 ?_
            refine R_iconst dX2_holds_292 rfl rfl ?_
            refine R_iald (isCu_s5 hc) (by omega) (by omega) dX2_holds_293 ?_
            simp only [upC_s]
            rw [show ((0 : Int)).toNat = 0 from rfl, htop]
            refine R_if_eq 301 dX2_holds_294 (by decide) (fun hc294 => ?_) (fun hc294 => ?_)
            · refine R_iconst dX2_holds_301 rfl rfl ?_
              exact fls302 _ _ (by rw [← hx]; simp [hc294])
            · refine R_iconst dX2_holds_297 rfl rfl ?_
              refine R_goto 302 dX2_holds_298 (by decide) ?_
              exact fin0 _ (by rw [← hx]; simp [hc294])
          · refine R_iload dX2_holds_282 rfl ?_
            refine R_iconst dX2_holds_284 rfl rfl ?_
            refine R_icmp_ne 301 dX2_holds_285 (by decide) (fun hc285 => ?_) (fun hc285 => ?_)
            · refine R_iconst dX2_holds_301 rfl rfl ?_
              exact fls302 _ _ (by rw [← hx]; simp [h1])
            · exact absurd hc285 (by omega)
        · exact absurd (by omega) hc9
  refine R_iconst dX2_holds_0 rfl rfl ?_
  refine R_istore dX2_holds_1 (by decide) rfl [_, _, _, _, _, _, _, _] rfl ?_
  refine R_iload_n dX2_holds_3 rfl ?_
  refine R_istore dX2_holds_4 (by decide) rfl [_, _, _, _, _, _, _, _] rfl ?_
  have h := loop 200 fr [] (g (c + 5)) (by omega) (by simp) (fun j x hj => by simp at hj) hX
  rw [upC_self] at h
  exact h
end HOLDS
