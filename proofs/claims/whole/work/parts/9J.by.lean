theorem ciK_8 {g : GG} {r : RR} {K : Nat → CUS} (hK : ciK g r K) {k : Nat} (hk : k < 4) : ∀ q ∈ K k, q.1 < 8 := by
  intro q hq
  obtain ⟨j, hj⟩ := List.getElem?_of_mem hq
  exact ((hK k hk).2.2.2 j q hj).2.1
section BY
variable {g z : GG} {r : RR}
theorem p_by (K : Nat → CUS) (H : FP g r K) (c set i : Int) : CT (mX11_by (rmD 8 0 0)) 0 0 shW [vR (some 0), vI c, vI set, vI i] g z r (qG shW z r fun v g' => SC g g' ∧ ((okCS (vC g) c set ∧ (0 ≤ i ∧ i < g 11 7) ∧ ∃ l, fam (vC g) c.toNat set.toNat = some l ∧ i.toNat ∈ l ∧ v = some (vI (chL (ltS (vC g) K (g 30 1) (g 30 2) (g 30 3) c.toNat l (l.findIdx (· == i.toNat)))))) ∨ (¬ (okCS (vC g) c set ∧ (0 ≤ i ∧ i < g 11 7) ∧ ∃ l, fam (vC g) c.toNat set.toNat = some l ∧ i.toNat ∈ l) ∧ v = some (vI (-1))))) := by
  obtain ⟨hr, hT, hB, hB2, hN, hC5, hF, ho, hK⟩ := id H
  refine CT.of 2 rfl rfl ?_
  refine R_aload_n dX11_by_0 rfl ?_
  refine R_iload_n dX11_by_1 rfl ?_
  refine R_iload_n dX11_by_2 rfl ?_
  refine R_iload_n dX11_by_3 rfl ?_
  refine R_callV (c_placeAsked K H c set i) (mvX11_placeAsked _) kiX11_placeAsked kvX11_placeAsked km11_177 rfl rfl (by decide) ⟨rfl, rfl, by decide, by decide⟩ (Nat.le_of_ble_eq_true rfl) dX11_by_4 (fun v1 sh1 g1 z1 r1 hq => ?_)
  obtain ⟨⟨s1, o3⟩, rfl, rfl, rfl⟩ := hq
  rcases o3 with ⟨hok, hi, l, hfam, hil, rfl, hl⟩ | ⟨hno, rfl⟩
  rotate_left
  · refine R_istore dX11_by_7 (by decide) rfl [_, _, _, _, _, _] rfl ?_
    refine R_iload dX11_by_9 rfl ?_
    refine R_iconst dX11_by_11 rfl rfl ?_
    refine R_icmp_ne 17 dX11_by_12 (by decide) (fun hc12 => ?_) (fun hc12 => ?_)
    · exact absurd rfl hc12
    · refine R_iconst dX11_by_15 rfl rfl ?_
      refine R_ireturn rfl (by first | rfl | exact nar_b2i | exact nar_bi) (by decide) (by decide) dX11_by_16 ?_
      exact ⟨⟨s1, Or.inr ⟨hno, rfl⟩⟩, rfl, rfl, rfl⟩
  have hll : l.length ≤ 10 := by have h1 := fam_len hfam; have h2 : (vC g) 0 2 = g 11 7 := rfl; rw [h2] at h1; omega
  have hfi : l.findIdx (· == i.toNat) < l.length := List.findIdx_lt_length_of_exists ⟨i.toNat, hil, by simp⟩
  have hL8 := ltS_lt (s := vC g) (K := K) (fun k hk => ciK_8 hK hk) (a := g 30 1) (b := g 30 2) (Y := g 30 3) (c := c.toNat) (l := l) (j := l.findIdx (· == i.toNat))
  have h34 := (hl.2.2.1 _ hfi).1
  refine R_istore dX11_by_7 (by decide) rfl [_, _, _, _, _, _] rfl ?_
  refine R_iload dX11_by_9 rfl ?_
  refine R_iconst dX11_by_11 rfl rfl ?_
  refine R_icmp_ne 17 dX11_by_12 (by decide) (fun hc12 => ?_) (fun hc12 => ?_)
  rotate_left
  · exact absurd hc12 (by omega)
  refine R_aload_n dX11_by_17 rfl ?_
  refine R_getR _ (hr _ _ _ rfl) fd11_6 kf11_53 rfl dX11_by_18 ?_
  refine R_iload dX11_by_21 rfl ?_
  refine R_callV (c_X3_letterAt hr l hl.1 hll (l.findIdx (· == i.toNat)) hfi) (mvX3_letterAt _) kiX3_letterAt kvX3_letterAt km11_181 rfl rfl (by decide) ⟨rfl, rfl, by decide, by decide⟩ (Nat.le_of_ble_eq_true rfl) dX11_by_23 (fun v1 sh1 g2 z1 r1 hq => ?_)
  obtain ⟨rfl, rfl, rfl, rfl, rfl⟩ := hq
  rw [h34]
  generalize hLe : ltS (vC g) K (g 30 1) (g 30 2) (g 30 3) c.toNat l (l.findIdx (· == i.toNat)) = L at *
  refine R_istore dX11_by_26 (by decide) rfl [_, _, _, _, _, _] rfl ?_
  refine R_iload dX11_by_28 rfl ?_
  refine R_if_lt 43 dX11_by_30 (by decide) (fun hc30 => ?_) (fun hc30 => ?_)
  · have hm : L = -1 := by omega
    subst hm
    refine R_iconst dX11_by_43 rfl rfl ?_
    refine R_goto 54 dX11_by_44 (by decide) ?_
    refine R_ireturn rfl (by first | rfl | exact nar_b2i | exact nar_bi) (by decide) (by decide) dX11_by_54 ?_
    exact ⟨⟨s1, Or.inl ⟨hok, hi, l, hfam, hil, by rw [hLe]; rfl⟩⟩, rfl, rfl, rfl⟩
  refine R_iload dX11_by_33 rfl ?_
  refine R_ldcS (i := 1) (by decide) (fun _ _ h => h.1.2.2.1) dX11_by_35 ?_
  refine R_callT (as := []) (i := 1) (by decide) (j_length 1 (by decide)) rfl (mvJ0_length_8abf5 _) kiJ0_length_8abf5 kvJ0_length_8abf5 km11_186 ⟨rfl, rfl, by decide, by decide⟩ (Nat.le_of_ble_eq_true rfl) dX11_by_37 (fun v1 sh1 g2 z1 r1 hq => ?_)
  obtain ⟨rfl, rfl, rfl, rfl, rfl⟩ := hq
  have hlen : ((sxL.getD 1 0 : Nat) : Int) = 8 := rfl
  rw [hlen]
  refine R_icmp_lt 47 dX11_by_40 (by decide) (fun hc40 => ?_) (fun hc40 => ?_)
  rotate_left
  · exact absurd (by omega) hc40
  obtain ⟨q, rfl⟩ : ∃ q : Nat, L = (q : Int) := ⟨L.toNat, by omega⟩
  refine R_ldcS (i := 1) (by decide) (fun _ _ h => h.1.2.2.1) dX11_by_47 ?_
  refine R_iload dX11_by_49 rfl ?_
  refine R_callT (as := [vI (q : Int)]) (i := 1) (by decide) (j_charAt 1 (by decide) q (by show q < 8; omega)) rfl (mvJ0_charAt_5068e _) kiJ0_charAt_5068e kvJ0_charAt_5068e km11_192 ⟨rfl, rfl, by decide, by decide⟩ (Nat.le_of_ble_eq_true rfl) dX11_by_51 (fun v1 sh1 g2 z1 r1 hq => ?_)
  obtain ⟨rfl, rfl, rfl, rfl, rfl⟩ := hq
  have hch : (txL 1).getD q 0 = chL (q : Int) := by
    have : q = 0 ∨ q = 1 ∨ q = 2 ∨ q = 3 ∨ q = 4 ∨ q = 5 ∨ q = 6 ∨ q = 7 := by omega
    rcases this with rfl | rfl | rfl | rfl | rfl | rfl | rfl | rfl <;> rfl
  rw [hch]
  refine R_ireturn rfl (by first | rfl | exact nar_b2i | exact nar_bi) (by decide) (by decide) dX11_by_54 ?_
  exact ⟨⟨s1, Or.inl ⟨hok, hi, l, hfam, hil, by rw [hLe]⟩⟩, rfl, rfl, rfl⟩
end BY
