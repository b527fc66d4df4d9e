def leOK (g : GG) (K : Nat → CUS) (fr to w : Int) : Prop := (0 ≤ fr ∧ fr ≤ to ∧ to ≤ 300 ∧ 0 ≤ w ∧ w ≤ 3) ∧ (0 < (K 0).length ∨ 0 < (K 1).length ∨ 0 < (K 2).length ∨ 0 < (K 3).length) ∧ ¬ g 19 1 < g 11 7
def leW (st : LST) (w : Int) : Int := if w = 0 then st.2.1 else if w = 1 then st.2.2.1 else if w = 2 then st.2.2.2 else st.1
section LEARNT
variable {g z : GG} {r : RR}
theorem p_learnt (K : Nat → CUS) (H : FP g r K) (hA : 0 ≤ g 1 4 ∧ g 1 4 ≤ 1000) (hT8 : 0 ≤ g 19 1 ∧ g 19 1 ≤ 200) (hTb : ∀ i, 0 ≤ g 20 i ∧ g 20 i ≤ 255) (fr to w : Int) : CT (mX11_learnt (rmD 9 0 0)) 0 0 shW [vR (some 0), vI fr, vI to, vI w] g z r (qG shW z r fun v g' => (¬ leOK g K fr to w ∧ v = some (vI (-1000000)) ∧ g' = g) ∨ (leOK g K fr to w ∧ wayF (vC g) (g 20) ≠ 0 ∧ v = some (vI (-2000000)) ∧ DC g g' ∧ (g' 19 = fun k => if k = 1 then 0 else g 19 k)) ∨ (leOK g K fr to w ∧ wayF (vC g) (g 20) = 0 ∧ v = some (vI (leW (lrP (vC g) K (setsR (vC g) (g 20)) fr to 16) w)) ∧ DC g g' ∧ (g' 19 = fun k => if k = 1 then 0 else g 19 k))) := by
  obtain ⟨hr, hT, hB, hB2, hN, hC5, hF, ho, hK⟩ := id H
  have ht0 : nCl g r 0 = ((K 0).length : Int) := nCl_len hK 0 (by omega)
  have ht1 : nCl g r 1 = ((K 1).length : Int) := nCl_len hK 1 (by omega)
  have ht2 : nCl g r 2 = ((K 2).length : Int) := nCl_len hK 2 (by omega)
  have ht3 : nCl g r 3 = ((K 3).length : Int) := nCl_len hK 3 (by omega)
  refine CT.of 1 rfl rfl ?_
  refine R_iload_n dX11_learnt_0 rfl ?_
  refine R_if_lt 25 dX11_learnt_1 (by decide) (fun hc1 => ?_) (fun hc1 => ?_)
  · refine R_ldcC (v := -1000000) kk11_176 (by decide +kernel) dX11_learnt_25 (by decide) ?_
    refine R_ireturn rfl (by first | rfl | exact nar_b2i | exact nar_bi) (by decide) (by decide) dX11_learnt_27 ?_
    exact ⟨Or.inl ⟨fun q => by have := q.1; omega, rfl, rfl⟩, rfl, rfl, rfl⟩
  · refine R_iload_n dX11_learnt_4 rfl ?_
    refine R_iload_n dX11_learnt_5 rfl ?_
    refine R_icmp_lt 25 dX11_learnt_6 (by decide) (fun hc6 => ?_) (fun hc6 => ?_)
    · refine R_ldcC (v := -1000000) kk11_176 (by decide +kernel) dX11_learnt_25 (by decide) ?_
      refine R_ireturn rfl (by first | rfl | exact nar_b2i | exact nar_bi) (by decide) (by decide) dX11_learnt_27 ?_
      exact ⟨Or.inl ⟨fun q => by have := q.1; omega, rfl, rfl⟩, rfl, rfl, rfl⟩
    · refine R_iload_n dX11_learnt_9 rfl ?_
      refine R_sipush dX11_learnt_10 rfl (by decide +kernel) ?_
      refine R_icmp_gt 25 dX11_learnt_13 (by decide) (fun hc13 => ?_) (fun hc13 => ?_)
      · refine R_ldcC (v := -1000000) kk11_176 (by decide +kernel) dX11_learnt_25 (by decide) ?_
        refine R_ireturn rfl (by first | rfl | exact nar_b2i | exact nar_bi) (by decide) (by decide) dX11_learnt_27 ?_
        exact ⟨Or.inl ⟨fun q => by have := q.1; omega, rfl, rfl⟩, rfl, rfl, rfl⟩
      · refine R_iload_n dX11_learnt_16 rfl ?_
        refine R_if_lt 25 dX11_learnt_17 (by decide) (fun hc17 => ?_) (fun hc17 => ?_)
        · refine R_ldcC (v := -1000000) kk11_176 (by decide +kernel) dX11_learnt_25 (by decide) ?_
          refine R_ireturn rfl (by first | rfl | exact nar_b2i | exact nar_bi) (by decide) (by decide) dX11_learnt_27 ?_
          exact ⟨Or.inl ⟨fun q => by have := q.1; omega, rfl, rfl⟩, rfl, rfl, rfl⟩
        · refine R_iload_n dX11_learnt_20 rfl ?_
          refine R_iconst dX11_learnt_21 rfl rfl ?_
          refine R_icmp_le 28 dX11_learnt_22 (by decide) (fun hc22 => ?_) (fun hc22 => ?_)
          · have hft : 0 ≤ fr ∧ fr ≤ to ∧ to ≤ 300 ∧ 0 ≤ w ∧ w ≤ 3 := by omega
            refine R_aload_n dX11_learnt_28 rfl ?_
            refine R_getR _ (hr _ _ _ rfl) fd11_5 kf11_45 rfl dX11_learnt_29 ?_
            refine R_callV (c_X9_anyTold hT 31 rfl (hr _ _ _ rfl)) (mvX9_anyTold _) kiX9_anyTold kvX9_anyTold km11_249 rfl rfl (by decide) ⟨rfl, rfl, by decide, by decide⟩ (Nat.le_of_ble_eq_true rfl) dX11_learnt_32 (fun v1 sh1 g1 z1 r1 hq => ?_)
            obtain ⟨rfl, rfl, rfl, rfl, rfl⟩ := hq
            rw [ht0, ht1, ht2, ht3]
            by_cases hany : 0 < ((K 0).length : Int) ∨ 0 < ((K 1).length : Int) ∨ 0 < ((K 2).length : Int) ∨ 0 < ((K 3).length : Int)
            · rw [b2i_t hany]
              refine R_if_eq 58 dX11_learnt_35 (by decide) (fun hc35 => ?_) (fun hc35 => ?_)
              · exact absurd hc35 (by decide)
              refine R_aload_n dX11_learnt_38 rfl ?_
              refine R_getR _ (hr _ _ _ rfl) fd11_1 kf11_19 rfl dX11_learnt_39 ?_
              refine R_getI fd8_1 kf11_142 rfl dX11_learnt_42 ?_
              refine R_aload_n dX11_learnt_45 rfl ?_
              refine R_getR _ (hr _ _ _ rfl) fd11_0 kf11_10 rfl dX11_learnt_46 ?_
              refine R_getR _ (hr _ _ _ rfl) fd0_2 kf11_111 rfl dX11_learnt_49 ?_
              refine R_getI fd4_7 kf11_240 rfl dX11_learnt_52 ?_
              refine R_icmp_ge 61 dX11_learnt_55 (by decide) (fun hc55 => ?_) (fun hc55 => ?_)
              · have hok : leOK g K fr to w := ⟨hft, by omega, by omega⟩
                refine R_aload_n dX11_learnt_61 rfl ?_
                refine R_getR _ (hr _ _ _ rfl) fd11_7 kf11_62 rfl dX11_learnt_62 ?_
                refine R_aload_n dX11_learnt_65 rfl ?_
                refine R_getR _ (hr _ _ _ rfl) fd11_1 kf11_19 rfl dX11_learnt_66 ?_
                refine R_callV (c_X7_take K H (by omega) hTb) (mvX7_take _) kiX7_take kvX7_take km11_241 rfl rfl (by decide) ⟨rfl, rfl, by decide, by decide⟩ (Nat.le_of_ble_eq_true rfl) dX11_learnt_69 (fun v1 sh1 g1 z1 r1 hq => ?_)
                obtain ⟨⟨rfl, d1, d19, d31, d40⟩, rfl, rfl, rfl⟩ := hq
                have e5 : g1 5 = g 5 := d1 5 (by unfold stc; omega) (by omega)
                have e1 : g1 1 = g 1 := d1 1 (by unfold stc; omega) (by omega)
                refine R_if_eq 78 dX11_learnt_72 (by decide) (fun hc72 => ?_) (fun hc72 => ?_)
                · have hp : (2 : Nat) ^ (g 11 7).toNat ≤ 2 ^ 10 := Nat.pow_le_pow_right (by decide) (by omega)
                  refine R_aload_n dX11_learnt_78 rfl ?_
                  refine R_getR _ (hr _ _ _ rfl) fd11_7 kf11_62 rfl dX11_learnt_79 ?_
                  refine R_aload_n dX11_learnt_82 rfl ?_
                  refine R_getR _ (hr _ _ _ rfl) fd11_5 kf11_45 rfl dX11_learnt_83 ?_
                  refine R_iload_n dX11_learnt_86 rfl ?_
                  refine R_iload_n dX11_learnt_87 rfl ?_
                  refine R_callV (c_X7_learn K (H.congD d1) (by rw [e1]; exact hA) (setsR (vC g) (g 20)) (fun c hc => d40 hc72 c hc) (fun c _ => by have := setR_lt (T := g 20) (c := (c : Int)) (g 11 7).toNat; exact Nat.lt_of_lt_of_le this hp) (fun c hc => by rw [d1.vC]; exact brk_none (way_ok hc72).2 c (by rw [e5] at hc; show c < (g 5 5).toNat; omega)) fr to (by omega)) (mvX7_learn _) kiX7_learn kvX7_learn km11_253 rfl rfl (by decide) ⟨rfl, rfl, by decide, by decide⟩ (Nat.le_of_ble_eq_true rfl) dX11_learnt_88 (fun v1 sh1 g2 z1 r1 hq => ?_)
                  obtain ⟨⟨rfl, s2, o1, o2, o3⟩, rfl, rfl, rfl⟩ := hq
                  rw [d1.vC] at o1 o2 o3
                  rw [d1.vC]
                  have dd2 : DC g g2 := d1.trans s2.dc
                  have d19' : g2 19 = fun k => if k = 1 then 0 else g 19 k := by rw [s2 19 (by unfold stc; omega) (by omega)]; exact d19
                  refine R_istore dX11_learnt_91 (by decide) rfl [_, _, _, _, _] rfl ?_
                  refine R_iload_n dX11_learnt_93 rfl ?_
                  refine R_ts [120, 128, 136] 144 dX11_learnt_94 (by decide) (by decide) (by decide) (fun i94 t94 ht94 ha94 => ?_) (fun hc94 => ?_)
                  · match i94, ht94 with
                    | 0, ht94 =>
                      cases ht94
                      refine R_aload_n dX11_learnt_120 rfl ?_
                      refine R_getR _ (hr _ _ _ rfl) fd11_5 kf11_45 rfl dX11_learnt_121 ?_
                      refine R_getI fd9_1 kf11_257 rfl dX11_learnt_124 ?_
                      refine R_ireturn rfl (by first | rfl | exact nar_b2i | exact nar_bi) (by decide) (by decide) dX11_learnt_127 ?_
                      first | exact ⟨Or.inr (Or.inr ⟨hok, hc72, by rw [ha94, leW]; simp [o1, o2, o3], dd2, d19'⟩), rfl, rfl, rfl⟩ | exact ⟨Or.inr (Or.inr ⟨hok, hc72, by rw [show w = 3 by omega, leW]; rfl, dd2, d19'⟩), rfl, rfl, rfl⟩
                    | 1, ht94 =>
                      cases ht94
                      refine R_aload_n dX11_learnt_128 rfl ?_
                      refine R_getR _ (hr _ _ _ rfl) fd11_5 kf11_45 rfl dX11_learnt_129 ?_
                      refine R_getI fd9_2 kf11_260 rfl dX11_learnt_132 ?_
                      refine R_ireturn rfl (by first | rfl | exact nar_b2i | exact nar_bi) (by decide) (by decide) dX11_learnt_135 ?_
                      first | exact ⟨Or.inr (Or.inr ⟨hok, hc72, by rw [ha94, leW]; simp [o1, o2, o3], dd2, d19'⟩), rfl, rfl, rfl⟩ | exact ⟨Or.inr (Or.inr ⟨hok, hc72, by rw [show w = 3 by omega, leW]; rfl, dd2, d19'⟩), rfl, rfl, rfl⟩
                    | 2, ht94 =>
                      cases ht94
                      refine R_aload_n dX11_learnt_136 rfl ?_
                      refine R_getR _ (hr _ _ _ rfl) fd11_5 kf11_45 rfl dX11_learnt_137 ?_
                      refine R_getI fd9_3 kf11_263 rfl dX11_learnt_140 ?_
                      refine R_ireturn rfl (by first | rfl | exact nar_b2i | exact nar_bi) (by decide) (by decide) dX11_learnt_143 ?_
                      first | exact ⟨Or.inr (Or.inr ⟨hok, hc72, by rw [ha94, leW]; simp [o1, o2, o3], dd2, d19'⟩), rfl, rfl, rfl⟩ | exact ⟨Or.inr (Or.inr ⟨hok, hc72, by rw [show w = 3 by omega, leW]; rfl, dd2, d19'⟩), rfl, rfl, rfl⟩
                    | n94 + 3, ht94 => exact absurd (List.getElem?_eq_some_iff.mp ht94).1 (by simp)
                  · refine R_iload dX11_learnt_144 rfl ?_
                    refine R_ireturn rfl (by first | rfl | exact nar_b2i | exact nar_bi) (by decide) (by decide) dX11_learnt_146 ?_
                    first | exact ⟨Or.inr (Or.inr ⟨hok, hc72, by rw [ha94, leW]; simp [o1, o2, o3], dd2, d19'⟩), rfl, rfl, rfl⟩ | exact ⟨Or.inr (Or.inr ⟨hok, hc72, by rw [show w = 3 by omega, leW]; rfl, dd2, d19'⟩), rfl, rfl, rfl⟩
                · refine R_ldcC (v := -2000000) kk11_252 (by decide +kernel) dX11_learnt_75 (by decide) ?_
                  refine R_ireturn rfl (by first | rfl | exact nar_b2i | exact nar_bi) (by decide) (by decide) dX11_learnt_77 ?_
                  exact ⟨Or.inr (Or.inl ⟨hok, hc72, rfl, d1, d19⟩), rfl, rfl, rfl⟩
              · refine R_ldcC (v := -1000000) kk11_176 (by decide +kernel) dX11_learnt_58 (by decide) ?_
                refine R_ireturn rfl (by first | rfl | exact nar_b2i | exact nar_bi) (by decide) (by decide) dX11_learnt_60 ?_
                exact ⟨Or.inl ⟨fun q => by have := q.2.2; omega, rfl, rfl⟩, rfl, rfl, rfl⟩
            · rw [b2i_f hany]
              refine R_if_eq 58 dX11_learnt_35 (by decide) (fun hc35 => ?_) (fun hc35 => ?_)
              · refine R_ldcC (v := -1000000) kk11_176 (by decide +kernel) dX11_learnt_58 (by decide) ?_
                refine R_ireturn rfl (by first | rfl | exact nar_b2i | exact nar_bi) (by decide) (by decide) dX11_learnt_60 ?_
                exact ⟨Or.inl ⟨fun q => by have := q.2.1; omega, rfl, rfl⟩, rfl, rfl, rfl⟩
              · exact absurd rfl hc35
          · refine R_ldcC (v := -1000000) kk11_176 (by decide +kernel) dX11_learnt_25 (by decide) ?_
            refine R_ireturn rfl (by first | rfl | exact nar_b2i | exact nar_bi) (by decide) (by decide) dX11_learnt_27 ?_
            exact ⟨Or.inl ⟨fun q => by have := q.1; omega, rfl, rfl⟩, rfl, rfl, rfl⟩
end LEARNT
