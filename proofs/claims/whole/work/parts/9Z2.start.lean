/-! what holds behind both constructors -/
section START
theorem RS_start : RS r0W := by
  intro c k x h
  unfold rs at h
  split at h <;> first | (cases h; rfl) | cases h
theorem g0_o {c k : Nat} (h1 : c ≠ 1) (h2 : c ≠ 30) (h3 : c ≠ 31) (h4 : c ≠ 43) (h5 : c ≠ 74) : g0W c k = 0 := by
  unfold g0W fillS
  rw [up2_ne h5, up2_ne h5, up2_ne h5, up2_ne h5, up2_ne h5]
  show (if c = 43 ∧ k < 1024 then _ else _) = _
  rw [if_neg (fun q => h4 q.1), up2_ne h3, up2_ne h3, up2_ne h3, up2_ne h2, up2_ne h2, up2_ne h2, up2_ne h1, up2_ne h1]
theorem g0_43 {x : Nat} (h : x < 1024) : g0W 43 x = (sprd x : Int) := by
  unfold g0W fillS
  rw [up2_ne (by omega), up2_ne (by omega), up2_ne (by omega), up2_ne (by omega), up2_ne (by omega)]
  show (if 43 = 43 ∧ x < 1024 then _ else _) = _
  rw [if_pos ⟨rfl, h⟩]
theorem cas4 {k : Nat} (h : k < 4) : k = 0 ∨ k = 1 ∨ k = 2 ∨ k = 3 := by omega
theorem TL_start : TL r0W := by
  intro k hk
  rcases cas4 hk with rfl | rfl | rfl | rfl
  · exact ⟨Or.inr (Or.inl rfl), rfl⟩
  · exact ⟨Or.inr (Or.inr (Or.inl rfl)), rfl⟩
  · exact ⟨Or.inr (Or.inr (Or.inr (Or.inl rfl))), rfl⟩
  · exact ⟨Or.inr (Or.inr (Or.inr (Or.inr rfl))), rfl⟩
theorem cu_o {c : Nat} (h : isCu c) (d k : Nat) (hd : d < 5) : g0W (c + d) k = 0 := by
  rcases h with rfl | rfl | rfl | rfl | rfl <;> exact g0_o (by omega) (by omega) (by omega) (by omega) (by omega)
theorem FP_start : FP g0W r0W (fun _ => []) := by
  refine ⟨RS_start, TL_start, ⟨fun j => ?_, fun j => ?_, fun j => ?_, fun j => ?_⟩, ⟨fun j => ?_, by decide +kernel⟩, by decide +kernel, by decide +kernel, by decide +kernel, ?_, fun k hk => ⟨?_, Nat.zero_le _, fun j hj => ?_, fun j q h => by cases h⟩⟩
  · rw [g0_o (by omega) (by omega) (by omega) (by omega) (by omega)]; omega
  · rw [g0_o (by omega) (by omega) (by omega) (by omega) (by omega)]; omega
  · rw [g0_o (by omega) (by omega) (by omega) (by omega) (by omega)]; omega
  · rw [g0_o (by omega) (by omega) (by omega) (by omega) (by omega)]; omega
  · rw [g0_o (by omega) (by omega) (by omega) (by omega) (by omega)]; omega
  · intro j a h
    rw [show (g0W 11 7).toNat = 0 by decide +kernel] at h
    cases h
  · exact cu_o (TL_start k hk).1 0 6 (by omega)
  · rw [cu_o (TL_start k hk).1 4 j (by omega)]; omega
theorem DR_start : DR g0W r0W := by
  refine ⟨24, rfl, Or.inl rfl, fun j hj => ?_, fun k hk => ?_, fun j k hj hk h => ?_⟩
  · rw [cu_o (Or.inl rfl) 4 j (by omega)]; omega
  · rcases cas4 hk with rfl | rfl | rfl | rfl <;> decide +kernel
  · rcases cas4 hk with rfl | rfl | rfl | rfl <;> rcases cas4 hj with rfl | rfl | rfl | rfl <;> first | exact absurd rfl h | decide +kernel
theorem IC_start : IC g0W (fun _ _ => 0) r0W (fun _ => []) := by
  refine ⟨⟨FP_start, by decide +kernel, fun x hx => g0_43 hx, Or.inl (by decide +kernel)⟩, DR_start, by decide +kernel, fun i => ?_⟩
  rw [g0_o (by omega) (by omega) (by omega) (by omega) (by omega)]; omega
theorem IM_start : IM g0W (fun _ _ => 0) r0W (fun _ => []) := by
  refine ⟨⟨⟨RS_start, ⟨fun j => ?_, fun j => ?_, fun j => ?_, fun j => ?_, fun j => ?_, by decide +kernel⟩, ⟨fun j => ?_, fun j => ?_, fun j => ?_, by decide +kernel, by decide +kernel, by decide +kernel, fun j hj => ?_⟩, fun k hk => ⟨?_, Nat.zero_le _, fun j q h => by cases h⟩⟩, by decide +kernel, by decide +kernel, Or.inl (by decide +kernel)⟩, fun k hk j hj => ?_, fun c hc => ?_, fun c w hc hw => ?_⟩
  · rw [g0_o (by omega) (by omega) (by omega) (by omega) (by omega)]; omega
  · rw [g0_o (by omega) (by omega) (by omega) (by omega) (by omega)]; omega
  · rw [g0_o (by omega) (by omega) (by omega) (by omega) (by omega)]; omega
  · rw [g0_o (by omega) (by omega) (by omega) (by omega) (by omega)]; omega
  · rw [g0_o (by omega) (by omega) (by omega) (by omega) (by omega)]; omega
  · rw [g0_o (by omega) (by omega) (by omega) (by omega) (by omega), g0_o (by omega) (by omega) (by omega) (by omega) (by omega)]; omega
  · rw [g0_o (by omega) (by omega) (by omega) (by omega) (by omega)]; omega
  · rw [g0_o (by omega) (by omega) (by omega) (by omega) (by omega)]; omega
  · rw [show g0W 74 4 = 0 by decide +kernel] at hj; omega
  · exact g0_o (by omega) (by omega) (by omega) (by omega) (by omega)
  · exact absurd hj (Nat.not_lt_zero _)
  · rw [show g0W 74 3 = 0 by decide +kernel] at hc; omega
  · rw [show g0W 74 3 = 0 by decide +kernel] at hc; omega
theorem EQ_start : EQ g0W := by
  refine ⟨?_, by decide +kernel, fun i => ?_⟩
  · funext f i
    rcases f with _ | _ | _ | _ | _ | _ | _ | _ | _ | _ | _ | _ | _ | _ | f
    · rcases i with _ | _ | _ | _ | _ | _ | _ | _ | i
      · decide +kernel
      · decide +kernel
      · decide +kernel
      · decide +kernel
      · decide +kernel
      · decide +kernel
      · decide +kernel
      · decide +kernel
      · rfl
    · show g0W 3 i = g0W 76 i; rw [g0_o (by omega) (by omega) (by omega) (by omega) (by omega), g0_o (by omega) (by omega) (by omega) (by omega) (by omega)]
    · show g0W 4 i = g0W 77 i; rw [g0_o (by omega) (by omega) (by omega) (by omega) (by omega), g0_o (by omega) (by omega) (by omega) (by omega) (by omega)]
    · show g0W 6 i = g0W 78 i; rw [g0_o (by omega) (by omega) (by omega) (by omega) (by omega), g0_o (by omega) (by omega) (by omega) (by omega) (by omega)]
    · show g0W 7 i = g0W 79 i; rw [g0_o (by omega) (by omega) (by omega) (by omega) (by omega), g0_o (by omega) (by omega) (by omega) (by omega) (by omega)]
    · show g0W 8 i = g0W 80 i; rw [g0_o (by omega) (by omega) (by omega) (by omega) (by omega), g0_o (by omega) (by omega) (by omega) (by omega) (by omega)]
    · show g0W 9 i = g0W 81 i; rw [g0_o (by omega) (by omega) (by omega) (by omega) (by omega), g0_o (by omega) (by omega) (by omega) (by omega) (by omega)]
    · show g0W 10 i = g0W 82 i; rw [g0_o (by omega) (by omega) (by omega) (by omega) (by omega), g0_o (by omega) (by omega) (by omega) (by omega) (by omega)]
    · show g0W 12 i = g0W 83 i; rw [g0_o (by omega) (by omega) (by omega) (by omega) (by omega), g0_o (by omega) (by omega) (by omega) (by omega) (by omega)]
    · show g0W 13 i = g0W 84 i; rw [g0_o (by omega) (by omega) (by omega) (by omega) (by omega), g0_o (by omega) (by omega) (by omega) (by omega) (by omega)]
    · show g0W 14 i = g0W 85 i; rw [g0_o (by omega) (by omega) (by omega) (by omega) (by omega), g0_o (by omega) (by omega) (by omega) (by omega) (by omega)]
    · show g0W 15 i = g0W 86 i; rw [g0_o (by omega) (by omega) (by omega) (by omega) (by omega), g0_o (by omega) (by omega) (by omega) (by omega) (by omega)]
    · show g0W 16 i = g0W 87 i; rw [g0_o (by omega) (by omega) (by omega) (by omega) (by omega), g0_o (by omega) (by omega) (by omega) (by omega) (by omega)]
    · show g0W 17 i = g0W 88 i; rw [g0_o (by omega) (by omega) (by omega) (by omega) (by omega), g0_o (by omega) (by omega) (by omega) (by omega) (by omega)]
    · rfl
  · unfold tM
    rw [g0_o (by omega) (by omega) (by omega) (by omega) (by omega), g0_o (by omega) (by omega) (by omega) (by omega) (by omega)]
    decide +kernel
theorem IV_start : IV g0W (fun _ _ => 0) r0W := ⟨_, IC_start, IM_start, EQ_start⟩
variable {nm : String} {Xs : Nat × (Nat → Int)}
/-- the law from its first row -/
theorem lw_first (hL : Xs.1 ≤ 3072) : RLw Xs (mLw nm) 0 0 [] 0 [some (vR (some 100030)), none, none, none] [] (fun _ _ => 0) (fun _ _ => 0) (fun _ _ => none) := by
  have hz : Z0 0 (fun _ _ => 0) (fun _ _ => 0) (fun _ _ => none) := fun c _ j => ⟨rfl, rfl, rfl⟩
  refine L_new (ci := 11) 0 (shW.take 1) rfl rfl (of_decide_eq_true rfl) inX11 tyX11_ok klL_7 kaX11 knX11 rfl (of_decide_eq_true rfl) (by decide +kernel) (of_decide_eq_true rfl) (of_decide_eq_true rfl) dL_law_0 (fun j => hz 0 (of_decide_eq_true rfl) j) ?_
  refine L_dup dL_law_3 (fun _ h => by cases h) ?_
  refine L_callI (as := []) (i_X11_0 (hz.mono (of_decide_eq_true rfl))) (mvX11_init _) rfl rfl kiX11_init kmL_9 ⟨rfl, rfl, of_decide_eq_true rfl, of_decide_eq_true rfl⟩ (Nat.le_of_ble_eq_true rfl) dL_law_4 (fun v1 sh1 g1 z1 r1 hq => ?_)
  obtain ⟨rfl, rfl, hg, rfl, hr⟩ := hq
  refine L_astore_n dL_law_7 (of_decide_eq_true rfl) rfl [_, _, _, _] rfl ?_
  have hz1 : Z0 74 g1 (fun _ _ => 0) r1 := by
    rw [← hg, ← hr]
    repeat (first | exact hz.mono (by decide) | refine Z0_upR (by decide) ?_ | refine Z0_up2 (by decide) ?_ | refine Z0_fillS (by decide) ?_)
  refine L_new (ci := 12) 74 (shW.take 75) (by decide +kernel) (by decide +kernel) (of_decide_eq_true rfl) inX12 tyX12_ok klL_10 kaX12 knX12 rfl (of_decide_eq_true rfl) (by decide +kernel) (of_decide_eq_true rfl) (of_decide_eq_true rfl) dL_law_8 (fun j => hz1 74 (of_decide_eq_true rfl) j) ?_
  refine L_dup dL_law_11 (fun _ h => by cases h) ?_
  refine L_callI (as := []) (i_X12_74 (hz1.mono (of_decide_eq_true rfl))) (mvX12_init _) rfl rfl kiX12_init kmL_12 ⟨rfl, rfl, of_decide_eq_true rfl, of_decide_eq_true rfl⟩ (Nat.le_of_ble_eq_true rfl) dL_law_12 (fun v2 sh2 g2 z2 r2 hq2 => ?_)
  obtain ⟨rfl, rfl, hg2, rfl, hr2⟩ := hq2
  refine L_astore_n dL_law_15 (of_decide_eq_true rfl) rfl [_, _, _, _] rfl ?_
  refine L_iconst dL_law_16 rfl rfl ?_
  refine L_istore_n dL_law_17 (of_decide_eq_true rfl) rfl [_, _, _, _] rfl ?_
  have e1 : g2 = g0W := by rw [← hg2, ← hg]; rfl
  have e2 : r2 = r0W := by rw [← hr2, ← hr]; rfl
  have e3 : shW.take 119 = shW := by decide +kernel
  rw [e1, e2, e3]
  exact lw_loop (by decide) (by decide) hL Xs.1 0 _ _ _ (by omega) (by omega) IV_start
end START
