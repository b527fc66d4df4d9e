/-- a view but for which CUSTOMS are kept -/
def nv (s : VW) : VW := fun f i => match f with
  | 0 => (match i with | 5 => 0 | 6 => 0 | 7 => 0 | _ => s 0 i)
  | f + 1 => s (f + 1) i
section NV
variable {s : VW}
theorem nv_tie {i c : Nat} : canTie (nv s) i c = canTie s i c := rfl
theorem nv_gone {i : Nat} {y : Int} : isGone (nv s) i y = isGone s i y := rfl
theorem nv_sx {i : Nat} : sx (nv s) i = sx s i := rfl
theorem nv_fits {l : List Nat} {i : Nat} : fits (nv s) l i = fits s l i := rfl
theorem nv_gath {c set : Nat} : ∀ (t acc : List Nat), gath (nv s) c set t acc = gath s c set t acc := by
  intro t
  induction t with
  | nil => intro acc; rfl
  | cons i t ih => intro acc; unfold gath; rw [nv_tie, nv_fits, ih, ih]
theorem nv_fam {c set : Nat} : fam (nv s) c set = fam s c set := nv_gath _ _
theorem nv_cntS {i : Nat} {l : List Nat} : cntS (nv s) i l = cntS s i l := rfl
theorem nv_cntG {i : Nat} {l : List Nat} : cntG (nv s) i l = cntG s i l := rfl
theorem nv_dd {i : Nat} : ∀ (t sn : List Nat), dd (nv s) i t sn = dd s i t sn := by
  intro t
  induction t with
  | nil => intro sn; rfl
  | cons e t ih => intro sn; unfold dd; rw [ih]; rfl
theorem nv_ddN {i : Nat} {p : List Nat} : ddN (nv s) i p = ddN s i p := by unfold ddN; rw [nv_dd]; rfl
theorem nv_twin {l : List Nat} {j : Nat} : twin (nv s) l j = twin s l j := rfl
theorem nv_facS {c : Nat} {l : List Nat} {j : Nat} : facS (nv s) c l j = facS s c l j := rfl
theorem nv_thS {l : List Nat} {j : Nat} : thS (nv s) l j = thS s l j := by unfold thS; rw [nv_ddN]; rfl
theorem nv_gainS {i : Nat} {v : Int} : gainS (nv s) i v = gainS s i v := rfl
theorem nv_gU {L : Nat → Int} {l : List Nat} {w v : Int} : ∀ k, gU (nv s) L l w v k = gU s L l w v k := by
  intro k
  induction k with
  | zero => rfl
  | succ k ih => unfold gU; rw [ih, nv_gainS]
theorem nv_nfA {L : Nat → Int} {l : List Nat} {w : Nat} : ∀ v, nfA (nv s) L l w v = nfA s L l w v := by
  intro v
  induction v with
  | zero => rfl
  | succ v ih => unfold nfA; rw [ih, nv_gU]; rfl
theorem nv_nfS {L : Nat → Int} {l : List Nat} {w : Nat} : nfS (nv s) L l w = nfS s L l w := by unfold nfS; rw [nv_nfA]; rfl
theorem nv_ltS {K : Nat → CUS} {a b Y : Int} {c : Nat} {l : List Nat} : ltS (nv s) K a b Y c l = ltS s K a b Y c l := by
  funext j
  unfold ltS
  rw [nv_thS]
  rfl
theorem nv_heS {L : Nat → Int} {c : Nat} {l : List Nat} {w : Nat} : heS (nv s) L c l w = heS s L c l w := by unfold heS; rw [nv_nfS]; rfl
theorem nv_duS {L : Nat → Int} {c : Nat} {l : List Nat} {j : Nat} : duS (nv s) L c l j = duS s L c l j := by unfold duS; rw [nv_heS, nv_ddN]; rfl
theorem nv_ptU {L : Nat → Int} {c : Nat} {l : List Nat} : ∀ k, ptU (nv s) L c l k = ptU s L c l k := by
  intro k
  induction k with
  | zero => rfl
  | succ k ih => unfold ptU; rw [ih, nv_gainS, nv_duS]
theorem nv_ptS {K : Nat → CUS} {a b Y : Int} {c : Nat} {l : List Nat} : ptS (nv s) K a b Y c l = ptS s K a b Y c l := by unfold ptS; rw [nv_ltS, nv_ptU]
theorem nv_wpU {K : Nat → CUS} {a b Y : Int} {S : Nat → Nat} : ∀ c, wpU (nv s) K a b Y S c = wpU s K a b Y S c := by
  intro c
  induction c with
  | zero => rfl
  | succ c ih =>
    unfold wpU
    rw [ih, nv_fam]
    cases fam s c (S c) with
    | none => rfl
    | some l => simp only; rw [nv_ptS]
theorem nv_wpS {K : Nat → CUS} {a b Y : Int} {S : Nat → Nat} : wpS (nv s) K a b Y S = wpS s K a b Y S := by unfold wpS; rw [nv_wpU]; rfl
end NV
theorem wpS_nvc {s s' : VW} (h : nv s = nv s') {K : Nat → CUS} {a b Y : Int} {S : Nat → Nat} : wpS s K a b Y S = wpS s' K a b Y S := by rw [← nv_wpS, h, nv_wpS]
theorem fam_nvc {s s' : VW} (h : nv s = nv s') {c set : Nat} : fam s c set = fam s' c set := by rw [← nv_fam, h, nv_fam]
theorem pop_step : ∀ v, v < 1024 → v ≠ 0 → popS (v &&& (v - 1)) + 1 = popS v := by decide +kernel
section MSZ
variable {g z : GG} {r : RR}
theorem m_sizeOf (set : Nat) (hs : set < 1024) : CT (mX12_sizeOf (rmD 0 0 0)) 0 0 shW [vI (set : Int)] g z r (qP shW g z r (some (vI (popS set : Int)))) := by
  refine CT.of 2 rfl rfl ?_
  generalize hQ : (qP shW g z r (some (vI (popS set : Int)))) = Q
  have hp := popS_le set
  have loop : ∀ (m n v : Nat), popS v = m → n + m = popS set → v < 1024 → RJ (mX12_sizeOf (rmD 0 0 0)) 0 0 shW.length Q 0 0 shW 4 [some (vI ((set : Int))), some (vI ((n : Int))), some (vI ((v : Int)))] [] g z r := by
    intro m
    induction m with
    | zero =>
      intro n v hv hn hv2
      refine R_iload_n dX12_sizeOf_4 rfl ?_
      refine R_if_eq 20 dX12_sizeOf_5 (by decide) (fun hc5 => ?_) (fun hc5 => ?_)
      · refine R_iload_n dX12_sizeOf_20 rfl ?_
        refine R_ireturn rfl (by first | rfl | exact nar_b2i | exact nar_bi) (by decide) (by decide) dX12_sizeOf_21 ?_
        rw [← hQ]
        exact ⟨by rw [← hn]; rfl, rfl, rfl, rfl, rfl⟩
      · have := pop_step v hv2 (by omega)
        omega
    | succ m ih =>
      intro n v hv hn hv2
      have hv0 : v ≠ 0 := by
        intro q; subst q; have : popS 0 = 0 := by decide
        omega
      have hst := pop_step v hv2 hv0
      refine R_iload_n dX12_sizeOf_4 rfl ?_
      refine R_if_eq 20 dX12_sizeOf_5 (by decide) (fun hc5 => ?_) (fun hc5 => ?_)
      · exact absurd hc5 (by omega)
      · refine R_iincN dX12_sizeOf_8 rfl (by decide) rfl (by unfold inI; omega) [_, _, _] rfl ?_
        refine R_iload_n dX12_sizeOf_11 rfl ?_
        refine R_iload_n dX12_sizeOf_12 rfl ?_
        refine R_iconst dX12_sizeOf_13 rfl rfl ?_
        refine R_isubN dX12_sizeOf_14 (by unfold inI; omega) ?_
        refine R_iand dX12_sizeOf_15 ?_
        rw [show (v : Int) - 1 = ((v - 1 : Nat) : Int) by omega, bAnd_n (by omega)]
        refine R_istore_n dX12_sizeOf_16 (by decide) rfl [_, _, _] rfl ?_
        refine R_goto 4 dX12_sizeOf_17 (by decide) ?_
        exact ih (n + 1) (v &&& (v - 1)) (by omega) (by omega) (Nat.lt_of_le_of_lt Nat.and_le_left hv2)
  refine R_iconst dX12_sizeOf_0 rfl rfl ?_
  refine R_istore_n dX12_sizeOf_1 (by decide) rfl [_, _, _] rfl ?_
  refine R_iload_n dX12_sizeOf_2 rfl ?_
  refine R_istore_n dX12_sizeOf_3 (by decide) rfl [_, _, _] rfl ?_
  exact loop (popS set) 0 set rfl (by omega) hs
end MSZ
