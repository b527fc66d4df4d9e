theorem up2_up2 {f : GG} {c k : Nat} {a b : Int} : up2 (up2 f c k a) c k b = up2 f c k b := by
  funext c' k'
  simp only [up2]
  split <;> rfl
theorem FamIs_cong {g g' : GG} {l : List Nat} (h2 : g' 32 8 = g 32 8) (h3 : g' 33 = g 33) (h : FamIs g l) : FamIs g' l := ⟨by rw [h2]; exact h.1, by rw [h3]; exact h.2⟩
theorem BD_cong {g g' : GG} (h : ∀ c, vcell c → g' c = g c) (hB : BD g) : BD g' := by
  have e1 := h 13 (by unfold vcell; omega); have e2 := h 12 (by unfold vcell; omega); have e3 := h 3 (by unfold vcell; omega); have e4 := h 8 (by unfold vcell; omega)
  unfold BD
  rw [e1, e2, e3, e4]
  exact hB
theorem dd_name {s : VW} {i : Nat} : ∀ (t sn : List Nat) (e : Nat), dd s i t sn = some e → e ∈ t := by
  intro t
  induction t with
  | nil => intro sn e h; simp [dd] at h
  | cons a t ih =>
    intro sn e h
    unfold dd at h
    split at h
    · simp at h; subst h; simp
    · exact List.mem_cons_of_mem _ (ih _ _ h)
section OBS2
variable {g z : GG} {r : RR}
theorem c_X3_observe (hr : RS r) (hB : BD g) (c : Nat) (hc6 : c < 6) (hgc : g 32 7 = (c : Int)) (l : List Nat) (hl : FamIs g l) (hm : ∀ a ∈ l, a < 10) (hll : l.length ≤ 10) (j : Nat) (hj : j < l.length) : CT (mX3_observe (rmD 1 0 0)) 0 0 shW [vR (some 32), vI (j : Int)] g z r (qG shW z r fun v g' => v = some (vI (thS (vC g) l j : Nat)) ∧ (∀ c', c' ≠ 35 → c' ≠ 37 → g' c' = g c') ∧ (∀ k, k ≠ j → g' 35 k = g 35 k) ∧ g' 35 j = ddN (vC g) (l.getD j 0) (l.take j) ∧ ∀ k, k < 9 → g' 37 k = facS (vC g) c l j k) := by
  refine CT.of 9 rfl rfl ?_
  generalize hQ : (qG shW z r fun v g' => v = some (vI (thS (vC g) l j : Nat)) ∧ (∀ c', c' ≠ 35 → c' ≠ 37 → g' c' = g c') ∧ (∀ k, k ≠ j → g' 35 k = g 35 k) ∧ g' 35 j = ddN (vC g) (l.getD j 0) (l.take j) ∧ ∀ k, k < 9 → g' 37 k = facS (vC g) c l j k) = Q
  have hi10 := hm _ (getD_mem hj)
  have hgi := fam_at hl hj
  generalize hI : l.getD j 0 = i at *
  have hyi := hB.1 i
  have hni := hB.2.1 i
  have hwed := hB.2.2.2 c
  have hsxi := hB.2.2.1 (g 12 i).toNat
  have hS : sx (vC g) i = g 3 (g 12 i).toNat := rfl
  generalize hDE : ddN (vC g) i (l.take j) = DE
  generalize hNU : (1 + (cntS (vC g) i (l.take j) : Int)) = NU
  generalize hLO : (cntG (vC g) i (l.take j) : Int) = LO
  have hcS : ∀ m, m ≤ 10 → (cntS (vC g) i (l.take m) : Int) ≤ m := by
    intro m _
    have h1 : cntS (vC g) i (l.take m) ≤ (l.take m).length := List.length_filter_le _ _
    have h2 : (l.take m).length ≤ m := by rw [List.length_take]; omega
    omega
  have hcG : ∀ m, m ≤ 10 → (cntG (vC g) i (l.take m) : Int) ≤ m := by
    intro m _
    have h1 : cntG (vC g) i (l.take m) ≤ (l.take m).length := List.length_filter_le _ _
    have h2 : (l.take m).length ≤ m := by rw [List.length_take]; omega
    omega
  have hNU2 : NU ≤ 11 := by have := hcS j (by omega); omega
  have hLO2 : LO ≤ 10 := by have := hcG j (by omega); omega
  have hvc : ∀ de, vC (up2 g 35 j de) = vC g := fun de => vC_cong (fun c' h' => up2_ne (by unfold vcell at h'; omega))
  have hfm : ∀ de, FamIs (up2 g 35 j de) l := fun de => FamIs_cong (up2_far (by decide)) (up2_ne (by decide)) hl
  have hBd : ∀ de, BD (up2 g 35 j de) := fun de => BD_cong (fun c' h' => up2_ne (by unfold vcell at h'; omega)) hB
  have F0 : facS (vC g) c l j 0 = NU := by unfold facS; rw [hI]; exact hNU
  have F1 : facS (vC g) c l j 1 = (j : Int) := rfl
  have F2 : facS (vC g) c l j 2 = sx (vC g) i := by unfold facS; rw [hI]; rfl
  have F3 : facS (vC g) c l j 3 = g 13 i := by unfold facS; rw [hI]; rfl
  have F4 : facS (vC g) c l j 4 = g 13 i - g 8 c := by unfold facS; rw [hI]; rfl
  have F5 : facS (vC g) c l j 5 = bi (twin (vC g) l j) := rfl
  have F6 : facS (vC g) c l j 6 = g 12 i := by unfold facS; rw [hI]; rfl
  have F7 : facS (vC g) c l j 7 = LO := by unfold facS; rw [hI]; exact hLO
  have F8 : facS (vC g) c l j 8 = (l.length : Int) := rfl
  have fin : ∀ (b8 : Int) (a9 a10 : Option AV), RJ (mX3_observe (rmD 1 0 0)) 0 0 shW.length Q 0 0 shW 146 [some (vR (some 32)), some (vI (j : Int)), some (vR (some 11)), some (vI (i : Int)), some (vI (g 13 i)), some (vI (sx (vC g) i)), some (vI NU), some (vI LO), some (vI b8), a9, a10] [] (up2 g 35 j DE) z r := by
    intro b8 a9 a10
    have htw : ∀ (G5 : GG), (∀ c', c' ≠ 35 → c' ≠ 37 → G5 c' = g c') → FamIs G5 l ∧ vC G5 = vC g := fun G5 h => ⟨FamIs_cong (by rw [h 32 (by decide) (by decide)]) (h 33 (by decide) (by decide)) hl, vC_cong (fun c' h' => h c' (by unfold vcell at h'; omega) (by unfold vcell at h'; omega))⟩
    refine R_aload_n dX3_observe_146 rfl ?_
    refine R_getR _ (hr _ _ _ rfl) fd3_5 kf3_32 rfl dX3_observe_147 ?_
    try simp +decide only [up2_far, up2_s, up2_kk]
    refine R_iconst dX3_observe_150 rfl rfl ?_
    refine R_iload dX3_observe_151 rfl ?_
    refine R_iast rfl (by omega) (by omega) dX3_observe_153 ?_
    refine R_aload_n dX3_observe_154 rfl ?_
    refine R_getR _ (hr _ _ _ rfl) fd3_5 kf3_32 rfl dX3_observe_155 ?_
    try simp +decide only [up2_far, up2_s, up2_kk]
    refine R_iconst dX3_observe_158 rfl rfl ?_
    refine R_iload_n dX3_observe_159 rfl ?_
    refine R_iast rfl (by omega) (by omega) dX3_observe_160 ?_
    refine R_aload_n dX3_observe_161 rfl ?_
    refine R_getR _ (hr _ _ _ rfl) fd3_5 kf3_32 rfl dX3_observe_162 ?_
    try simp +decide only [up2_far, up2_s, up2_kk]
    refine R_iconst dX3_observe_165 rfl rfl ?_
    refine R_iload dX3_observe_166 rfl ?_
    refine R_iast rfl (by omega) (by omega) dX3_observe_168 ?_
    refine R_aload_n dX3_observe_169 rfl ?_
    refine R_getR _ (hr _ _ _ rfl) fd3_5 kf3_32 rfl dX3_observe_170 ?_
    try simp +decide only [up2_far, up2_s, up2_kk]
    refine R_iconst dX3_observe_173 rfl rfl ?_
    refine R_iload dX3_observe_174 rfl ?_
    refine R_iast rfl (by omega) (by omega) dX3_observe_176 ?_
    refine R_aload_n dX3_observe_177 rfl ?_
    refine R_getR _ (hr _ _ _ rfl) fd3_5 kf3_32 rfl dX3_observe_178 ?_
    try simp +decide only [up2_far, up2_s, up2_kk]
    refine R_iconst dX3_observe_181 rfl rfl ?_
    refine R_iload dX3_observe_182 rfl ?_
    refine R_aload_n dX3_observe_184 rfl ?_
    refine R_getR _ (hr _ _ _ rfl) fd3_0 kf3_38 rfl dX3_observe_185 ?_
    try simp +decide only [up2_far, up2_s, up2_kk]
    refine R_getR _ (hr _ _ _ rfl) fd0_1 kf3_109 rfl dX3_observe_188 ?_
    try simp +decide only [up2_far, up2_s, up2_kk]
    refine R_getR _ (hr _ _ _ rfl) fd1_2 kf3_127 rfl dX3_observe_191 ?_
    try simp +decide only [up2_far, up2_s, up2_kk]
    refine R_aload_n dX3_observe_194 rfl ?_
    refine R_getI fd3_7 kf3_42 rfl dX3_observe_195 ?_
    try simp +decide only [up2_far, up2_s, up2_kk]
    rw [hgc]
    refine R_iald rfl (by omega) (by omega) dX3_observe_198 ?_
    try simp +decide only [up2_far, up2_s, up2_kk]
    rw [Int.toNat_natCast]
    refine R_isubN dX3_observe_199 (by unfold inI; omega) ?_
    refine R_iast rfl (by omega) (by omega) dX3_observe_200 ?_
    refine R_aload_n dX3_observe_201 rfl ?_
    refine R_getR _ (hr _ _ _ rfl) fd3_5 kf3_32 rfl dX3_observe_202 ?_
    try simp +decide only [up2_far, up2_s, up2_kk]
    refine R_iconst dX3_observe_205 rfl rfl ?_
    refine R_aload_n dX3_observe_206 rfl ?_
    refine R_iload_n dX3_observe_207 rfl ?_
    have h5 := htw (up2 (up2 (up2 (up2 (up2 (up2 g 35 j DE) 37 (0 : Int).toNat NU) 37 (1 : Int).toNat (j : Int)) 37 (2 : Int).toNat (sx (vC g) i)) 37 (3 : Int).toNat (g 13 i)) 37 (4 : Int).toNat (g 13 i - g 8 c)) (fun c' h3 h4 => by rw [up2_ne h4, up2_ne h4, up2_ne h4, up2_ne h4, up2_ne h4, up2_ne h3])
    refine R_callV (c_X3_isTwin hr l h5.1 hm hll j hj) (mvX3_isTwin _) kiX3_isTwin kvX3_isTwin km3_130 rfl rfl (by decide) ⟨rfl, rfl, by decide, by decide⟩ (Nat.le_of_ble_eq_true rfl) dX3_observe_208 (fun v1 sh1 g1 z1 r1 hq => ?_)
    obtain ⟨rfl, rfl, rfl, rfl, rfl⟩ := hq
    rw [h5.2]
    have fin2 : ∀ tw : Int, tw = bi (twin (vC g) l j) → RJ (mX3_observe (rmD 1 0 0)) 0 0 shW.length Q 0 0 shW 219 [some (vR (some 32)), some (vI (j : Int)), some (vR (some 11)), some (vI (i : Int)), some (vI (g 13 i)), some (vI (sx (vC g) i)), some (vI NU), some (vI LO), some (vI b8), a9, a10] [vI tw, vI 5, vR (some 37)] (up2 (up2 (up2 (up2 (up2 (up2 g 35 j DE) 37 (0 : Int).toNat NU) 37 (1 : Int).toNat (j : Int)) 37 (2 : Int).toNat (sx (vC g) i)) 37 (3 : Int).toNat (g 13 i)) 37 (4 : Int).toNat (g 13 i - g 8 c)) z r := by
      intro tw htw2
      have hend : ∀ (x : Int), x = (thS (vC g) l j : Nat) → ∀ ls, RJ (mX3_observe (rmD 1 0 0)) 0 0 shW.length Q 0 0 shW 305 ls [vI x] (up2 (up2 (up2 (up2 (up2 (up2 (up2 (up2 (up2 (up2 g 35 j DE) 37 (0 : Int).toNat NU) 37 (1 : Int).toNat (j : Int)) 37 (2 : Int).toNat (sx (vC g) i)) 37 (3 : Int).toNat (g 13 i)) 37 (4 : Int).toNat (g 13 i - g 8 c)) 37 (5 : Int).toNat tw) 37 (6 : Int).toNat (g 12 i)) 37 (7 : Int).toNat LO) 37 (8 : Int).toNat (l.length : Int)) z r := by
        intro x hx ls
        refine R_ireturn rfl (by first | rfl | exact nar_b2i | exact nar_bi) (by decide) (by decide) dX3_observe_305 ?_
        rw [← hQ]
        refine ⟨⟨by rw [hx], fun c' h3 h4 => by rw [up2_ne h4, up2_ne h4, up2_ne h4, up2_ne h4, up2_ne h4, up2_ne h4, up2_ne h4, up2_ne h4, up2_ne h4, up2_ne h3], fun k hk => by rw [up2_far (by decide), up2_far (by decide), up2_far (by decide), up2_far (by decide), up2_far (by decide), up2_far (by decide), up2_far (by decide), up2_far (by decide), up2_far (by decide), up2_kk hk], by rw [up2_far (by decide), up2_far (by decide), up2_far (by decide), up2_far (by decide), up2_far (by decide), up2_far (by decide), up2_far (by decide), up2_far (by decide), up2_far (by decide), up2_s, hDE], fun k hk => ?_⟩, rfl, rfl, rfl⟩
        rcases (show k = 0 ∨ k = 1 ∨ k = 2 ∨ k = 3 ∨ k = 4 ∨ k = 5 ∨ k = 6 ∨ k = 7 ∨ k = 8 by omega) with rfl | rfl | rfl | rfl | rfl | rfl | rfl | rfl | rfl
        · rw [F0]; simp [up2]
        · rw [F1]; simp [up2]
        · rw [F2]; simp [up2]
        · rw [F3]; simp [up2]
        · rw [F4]; simp [up2]
        · rw [F5, ← htw2]; simp [up2]
        · rw [F6]; simp [up2]
        · rw [F7]; simp [up2]
        · rw [F8]; simp [up2]
      have hth : thS (vC g) l j = (if DE = -1 then 0 else 128) + ((if g 16 i = -1 then 0 else 64) + (if sx (vC g) i = 0 then 21 else 42)) := by unfold thS; rw [hI, hDE]; rfl
      rw [hth] at hend
      refine R_iast rfl (by omega) (by omega) dX3_observe_219 ?_
      refine R_aload_n dX3_observe_220 rfl ?_
      refine R_getR _ (hr _ _ _ rfl) fd3_5 kf3_32 rfl dX3_observe_221 ?_
      try simp +decide only [up2_far, up2_s, up2_kk]
      refine R_bipush dX3_observe_224 rfl (by decide +kernel) ?_
      refine R_aload_n dX3_observe_226 rfl ?_
      refine R_getR _ (hr _ _ _ rfl) fd4_0 kf3_72 rfl dX3_observe_227 ?_
      try simp +decide only [up2_far, up2_s, up2_kk]
      refine R_iload_n dX3_observe_230 rfl ?_
      refine R_iald rfl (by omega) (by omega) dX3_observe_231 ?_
      try simp +decide only [up2_far, up2_s, up2_kk]
      rw [Int.toNat_natCast]
      refine R_iast rfl (by omega) (by omega) dX3_observe_232 ?_
      refine R_aload_n dX3_observe_233 rfl ?_
      refine R_getR _ (hr _ _ _ rfl) fd3_5 kf3_32 rfl dX3_observe_234 ?_
      try simp +decide only [up2_far, up2_s, up2_kk]
      refine R_bipush dX3_observe_237 rfl (by decide +kernel) ?_
      refine R_iload dX3_observe_239 rfl ?_
      refine R_iast rfl (by omega) (by omega) dX3_observe_241 ?_
      refine R_aload_n dX3_observe_242 rfl ?_
      refine R_getR _ (hr _ _ _ rfl) fd3_5 kf3_32 rfl dX3_observe_243 ?_
      try simp +decide only [up2_far, up2_s, up2_kk]
      refine R_bipush dX3_observe_246 rfl (by decide +kernel) ?_
      refine R_aload_n dX3_observe_248 rfl ?_
      refine R_getI fd3_8 kf3_46 rfl dX3_observe_249 ?_
      try simp +decide only [up2_far, up2_s, up2_kk]
      rw [hl.1]
      have tail : ∀ (x : Int), x = (((if sx (vC g) i = 0 then 21 else 42) : Nat) : Int) → RJ (mX3_observe (rmD 1 0 0)) 0 0 shW.length Q 0 0 shW 265 [some (vR (some 32)), some (vI (j : Int)), some (vR (some 11)), some (vI (i : Int)), some (vI (g 13 i)), some (vI (sx (vC g) i)), some (vI NU), some (vI LO), some (vI b8), a9, a10] [vI x] (up2 (up2 (up2 (up2 (up2 (up2 (up2 (up2 (up2 (up2 g 35 j DE) 37 (0 : Int).toNat NU) 37 (1 : Int).toNat (j : Int)) 37 (2 : Int).toNat (sx (vC g) i)) 37 (3 : Int).toNat (g 13 i)) 37 (4 : Int).toNat (g 13 i - g 8 c)) 37 (5 : Int).toNat tw) 37 (6 : Int).toNat (g 12 i)) 37 (7 : Int).toNat LO) 37 (8 : Int).toNat (l.length : Int)) z r := by
        intro x hx
        have hx2 : x = 21 ∨ x = 42 := by rw [hx]; split <;> simp
        have tail2 : ∀ (y : Int), y = (((if g 16 i = -1 then 0 else 64) + (if sx (vC g) i = 0 then 21 else 42) : Nat) : Int) → RJ (mX3_observe (rmD 1 0 0)) 0 0 shW.length Q 0 0 shW 284 [some (vR (some 32)), some (vI (j : Int)), some (vR (some 11)), some (vI (i : Int)), some (vI (g 13 i)), some (vI (sx (vC g) i)), some (vI NU), some (vI LO), some (vI b8), some (vI y), a10] [] (up2 (up2 (up2 (up2 (up2 (up2 (up2 (up2 (up2 (up2 g 35 j DE) 37 (0 : Int).toNat NU) 37 (1 : Int).toNat (j : Int)) 37 (2 : Int).toNat (sx (vC g) i)) 37 (3 : Int).toNat (g 13 i)) 37 (4 : Int).toNat (g 13 i - g 8 c)) 37 (5 : Int).toNat tw) 37 (6 : Int).toNat (g 12 i)) 37 (7 : Int).toNat LO) 37 (8 : Int).toNat (l.length : Int)) z r := by
          intro y hy
          have hy4 : y = 21 ∨ y = 42 ∨ y = 85 ∨ y = 106 := by rw [hy]; split <;> split <;> simp
          refine R_aload_n dX3_observe_284 rfl ?_
          refine R_getR _ (hr _ _ _ rfl) fd3_3 kf3_18 rfl dX3_observe_285 ?_
          try simp +decide only [up2_far, up2_s, up2_kk]
          refine R_iload_n dX3_observe_288 rfl ?_
          refine R_iald rfl (by omega) (by omega) dX3_observe_289 ?_
          try simp +decide only [up2_far, up2_s, up2_kk]
          rw [Int.toNat_natCast, up2_s]
          refine R_iconst dX3_observe_290 rfl rfl ?_
          refine R_icmp_ne 299 dX3_observe_291 (by decide) (fun hc291 => ?_) (fun hc291 => ?_)
          · refine R_iload dX3_observe_299 rfl ?_
            refine R_sipush dX3_observe_301 rfl (by decide +kernel) ?_
            refine R_ior dX3_observe_304 ?_
            refine hend _ ?_ _
            rw [if_neg hc291, Int.natCast_add, ← hy]
            rcases hy4 with h | h | h | h <;> rw [h] <;> decide +kernel
          · refine R_iload dX3_observe_294 rfl ?_
            refine R_goto 305 dX3_observe_296 (by decide) ?_
            refine hend _ ?_ _
            rw [if_pos hc291, Nat.zero_add]
            exact hy
        refine R_istore dX3_observe_265 (by decide) rfl [_, _, _, _, _, _, _, _, _, _, _] rfl ?_
        refine R_aload_n dX3_observe_267 rfl ?_
        refine R_getR _ (hr _ _ _ rfl) fd4_4 kf3_133 rfl dX3_observe_268 ?_
        try simp +decide only [up2_far, up2_s, up2_kk]
        refine R_iload_n dX3_observe_271 rfl ?_
        refine R_iald rfl (by omega) (by omega) dX3_observe_272 ?_
        try simp +decide only [up2_far, up2_s, up2_kk]
        rw [Int.toNat_natCast]
        refine R_iconst dX3_observe_273 rfl rfl ?_
        refine R_icmp_eq 284 dX3_observe_274 (by decide) (fun hc274 => ?_) (fun hc274 => ?_)
        · exact tail2 x (by rw [if_pos hc274, Nat.zero_add]; exact hx)
        · refine R_iload dX3_observe_277 rfl ?_
          refine R_bipush dX3_observe_279 rfl (by decide +kernel) ?_
          refine R_ior dX3_observe_281 ?_
          refine R_istore dX3_observe_282 (by decide) rfl [_, _, _, _, _, _, _, _, _, _, _] rfl ?_
          refine tail2 _ ?_
          rw [if_neg hc274, Int.natCast_add, ← hx]
          rcases hx2 with h | h <;> rw [h] <;> decide +kernel
      refine R_iast rfl (by omega) (by omega) dX3_observe_252 ?_
      refine R_iload dX3_observe_253 rfl ?_
      refine R_if_ne 263 dX3_observe_255 (by decide) (fun hc255 => ?_) (fun hc255 => ?_)
      · refine R_bipush dX3_observe_263 rfl (by decide +kernel) ?_
        exact tail 42 (by rw [if_neg hc255]; rfl)
      · refine R_bipush dX3_observe_258 rfl (by decide +kernel) ?_
        refine R_goto 265 dX3_observe_260 (by decide) ?_
        exact tail 21 (by rw [if_pos hc255]; rfl)
    by_cases ht : twin (vC g) l j = true
    · rw [bi_t ht]
      refine R_if_eq 218 dX3_observe_211 (by decide) (fun hc211 => ?_) (fun hc211 => ?_)
      · exact absurd hc211 (by decide)
      · refine R_iconst dX3_observe_214 rfl rfl ?_
        refine R_goto 219 dX3_observe_215 (by decide) ?_
        exact fin2 1 (bi_t ht).symm
    · rw [bi_f ht]
      refine R_if_eq 218 dX3_observe_211 (by decide) (fun hc211 => ?_) (fun hc211 => ?_)
      · refine R_iconst dX3_observe_218 rfl rfl ?_
        exact fin2 0 (bi_f ht).symm
      · exact absurd rfl hc211
  have loop : ∀ (m : Nat) (nu lo de : Int) (bt : Nat) (sn : List Nat) (a10 : Option AV), m ≤ j → nu + (cntS (vC g) i (l.take m) : Int) = NU → lo + (cntG (vC g) i (l.take m) : Int) = LO → (0 ≤ nu ∧ 0 ≤ lo) → bt < 65536 → (∀ nm, nm < 16 → bt.testBit nm = sn.any (fun e => decide (g 12 e = (nm : Int)))) → (de ≠ -1 → de = DE) → (de = -1 → (match dd (vC g) i (l.take m).reverse sn with | some e => (vC g) 8 e | none => -1) = DE) → RJ (mX3_observe (rmD 1 0 0)) 0 0 shW.length Q 0 0 shW 51 [some (vR (some 32)), some (vI (j : Int)), some (vR (some 11)), some (vI (i : Int)), some (vI (g 13 i)), some (vI (sx (vC g) i)), some (vI nu), some (vI lo), some (vI (bt : Int)), some (vI ((m : Int) - 1)), a10] [] (up2 g 35 j de) z r := by
    intro m
    induction m with
    | zero =>
      intro nu lo de bt sn a10 hmj h1 h2 hpos hbt hbb hd1 hd2
      have e1 : nu = NU := by rw [← h1]; simp [cntS]
      have e2 : lo = LO := by rw [← h2]; simp [cntG]
      have e3 : de = DE := by
        by_cases h : de = -1
        · rw [← hd2 h, h]; rfl
        · exact hd1 h
      subst e1 e2 e3
      refine R_iload dX3_observe_51 rfl ?_
      refine R_if_lt 146 dX3_observe_53 (by decide) (fun hc53 => ?_) (fun hc53 => ?_)
      · exact fin _ _ _
      · exact absurd (by omega) hc53
    | succ m ih =>
      intro nu lo de bt sn a10 hmj h1 h2 hpos hbt hbb hd1 hd2
      have hml : m < l.length := by omega
      have he10 := hm _ (getD_mem hml)
      have hge := fam_at hl hml
      have htk : l.take (m + 1) = l.take m ++ [l.getD m 0] := by
        rw [List.take_add_one, List.getElem?_eq_getElem hml, List.getD_eq_getElem?_getD, List.getElem?_eq_getElem hml]
        rfl
      generalize hE : l.getD m 0 = e at *
      have hne := hB.2.1 e
      have hcs := hcS m (by omega)
      have hcg := hcG m (by omega)
      have hcs1 : (cntS (vC g) i (l.take (m + 1)) : Int) = cntS (vC g) i (l.take m) + (if sx (vC g) e = sx (vC g) i then 1 else 0) := by
        unfold cntS
        rw [htk, List.filter_append, List.length_append]
        by_cases h : sx (vC g) e = sx (vC g) i
        · simp [h]
        · simp [h]
      have hcg1 : (cntG (vC g) i (l.take (m + 1)) : Int) = cntG (vC g) i (l.take m) + (if sx (vC g) e = sx (vC g) i ∧ isGone (vC g) e (g 13 i) = true then 1 else 0) := by
        unfold cntG
        rw [htk, List.filter_append, List.length_append]
        have ey : (vC g) 9 i = g 13 i := rfl
        by_cases h : sx (vC g) e = sx (vC g) i ∧ isGone (vC g) e (g 13 i) = true
        · simp [h.1, h.2, ey]
        · rw [if_neg h]
          have : (decide (sx (vC g) e = sx (vC g) i) && isGone (vC g) e ((vC g) 9 i)) = false := by
            rw [Bool.eq_false_iff]
            intro q
            rw [Bool.and_eq_true, decide_eq_true_eq] at q
            exact h q
          simp [this]
      rw [htk, List.reverse_append, List.reverse_singleton, List.singleton_append] at hd2
      obtain ⟨nm, hnm⟩ : ∃ nm : Nat, g 12 e = (nm : Int) := ⟨(g 12 e).toNat, by omega⟩
      have hnm16 : nm < 16 := by omega
      have hp16 : 2 ^ nm < 65536 := Nat.pow_lt_pow_right (n := 16) (by decide) hnm16
      have hbt2 : bt ||| 2 ^ nm < 65536 := Nat.or_lt_two_pow (n := 16) hbt hp16
      have hbb2 : ∀ nm', nm' < 16 → (bt ||| 2 ^ nm).testBit nm' = (e :: sn).any (fun e => decide (g 12 e = (nm' : Int))) := by
        intro nm' h'
        rw [Nat.testBit_or, hbb nm' h', Nat.testBit_two_pow, List.any_cons, hnm, Bool.or_comm]
        congr 1
        simp only [decide_eq_decide]
        omega
      have hnall : bt.testBit nm = true ↔ ¬ (sn.all (fun m => decide ((vC g) 8 m ≠ (vC g) 8 e)) = true) := by
        rw [hbb nm hnm16, List.any_eq_true, List.all_eq_true]
        constructor
        · rintro ⟨x, hx, hx2⟩ hall
          have := hall x hx
          simp only [decide_eq_true_eq] at this hx2
          exact this (show g 12 x = g 12 e by rw [hx2, hnm])
        · intro hall
          exact Classical.byContradiction fun hno => hall fun x hx => by
            simp only [decide_eq_true_eq]
            intro q
            exact hno ⟨x, hx, by simp only [decide_eq_true_eq]; rw [← hnm]; exact q⟩
      have back : ∀ (nu' lo' de' : Int) (a10 : Option AV), nu' + (cntS (vC g) i (l.take m) : Int) = NU → lo' + (cntG (vC g) i (l.take m) : Int) = LO → (0 ≤ nu' ∧ 0 ≤ lo') → (de' ≠ -1 → de' = DE) → (de' = -1 → (match dd (vC g) i (l.take m).reverse (e :: sn) with | some e => (vC g) 8 e | none => -1) = DE) → RJ (mX3_observe (rmD 1 0 0)) 0 0 shW.length Q 0 0 shW 131 [some (vR (some 32)), some (vI (j : Int)), some (vR (some 11)), some (vI (i : Int)), some (vI (g 13 i)), some (vI (sx (vC g) i)), some (vI nu'), some (vI lo'), some (vI (bt : Int)), some (vI ((m : Int))), some (vI (nm : Int))] [] (up2 g 35 j de') z r := by
        intro nu' lo' de' a10 q1 q2 q3 q4 q5
        refine R_iload dX3_observe_131 rfl ?_
        refine R_iconst dX3_observe_133 rfl rfl ?_
        refine R_iload dX3_observe_134 rfl ?_
        refine R_ishl dX3_observe_136 ?_
        refine R_ior dX3_observe_137 ?_
        rw [or_bit (by omega) (by omega)]
        refine R_istore dX3_observe_138 (by decide) rfl [_, _, _, _, _, _, _, _, _, _, _] rfl ?_
        refine R_iincN dX3_observe_140 rfl (by decide) rfl (by unfold inI; omega) [_, _, _, _, _, _, _, _, _, _, _] rfl ?_
        refine R_goto 51 dX3_observe_143 (by decide) ?_
        exact ih nu' lo' de' _ (e :: sn) _ (by omega) q1 q2 q3 hbt2 hbb2 q4 q5
      have nodd : ¬ (sx (vC g) e = sx (vC g) i ∧ isGone (vC g) e (g 13 i) = true ∧ bt.testBit nm = false) → (match dd (vC g) i (e :: (l.take m).reverse) sn with | some e => (vC g) 8 e | none => -1) = (match dd (vC g) i (l.take m).reverse (e :: sn) with | some e => (vC g) 8 e | none => -1) := by
        intro h
        rw [dd, if_neg]
        intro q
        rw [Bool.and_eq_true, Bool.and_eq_true, decide_eq_true_eq] at q
        refine h ⟨q.1.1, q.1.2, ?_⟩
        rw [Bool.eq_false_iff]
        intro w
        exact hnall.mp w q.2
      refine R_iload dX3_observe_51 rfl ?_
      refine R_if_lt 146 dX3_observe_53 (by decide) (fun hc53 => ?_) (fun hc53 => ?_)
      · exact absurd hc53 (by omega)
      rw [show ((m + 1 : Nat) : Int) - 1 = (m : Int) by omega]
      refine R_aload_n dX3_observe_56 rfl ?_
      refine R_getR _ (hr _ _ _ rfl) fd4_0 kf3_72 rfl dX3_observe_57 ?_
      try simp +decide only [up2_far, up2_s, up2_kk]
      refine R_aload_n dX3_observe_60 rfl ?_
      refine R_getR _ (hr _ _ _ rfl) fd3_1 kf3_9 rfl dX3_observe_61 ?_
      try simp +decide only [up2_far, up2_s, up2_kk]
      refine R_iload dX3_observe_64 rfl ?_
      refine R_iald rfl (by omega) (by omega) dX3_observe_66 ?_
      try simp +decide only [up2_far, up2_s, up2_kk]
      rw [Int.toNat_natCast, hge]
      refine R_iald rfl (by omega) (by omega) dX3_observe_67 ?_
      try simp +decide only [up2_far, up2_s, up2_kk]
      rw [Int.toNat_natCast, hnm]
      refine R_istore dX3_observe_68 (by decide) rfl [_, _, _, _, _, _, _, _, _, _, _] rfl ?_
      refine R_aload_n dX3_observe_70 rfl ?_
      refine R_iload dX3_observe_71 rfl ?_
      refine R_callV (c_X3_sexAt hr (hBd de) l (hfm de) hm hll m hml) (mvX3_sexAt _) kiX3_sexAt kvX3_sexAt km3_124 rfl rfl (by decide) ⟨rfl, rfl, by decide, by decide⟩ (Nat.le_of_ble_eq_true rfl) dX3_observe_73 (fun v1 sh1 g1 z1 r1 hq => ?_)
      obtain ⟨rfl, rfl, rfl, rfl, rfl⟩ := hq
      rw [hvc, hE]
      refine R_iload dX3_observe_76 rfl ?_
      refine R_icmp_ne 131 dX3_observe_78 (by decide) (fun hc78 => ?_) (fun hc78 => ?_)
      · rw [if_neg hc78] at hcs1
        rw [if_neg (fun q => hc78 q.1)] at hcg1
        exact back nu lo de none (by omega) (by omega) hpos hd1 (fun h => by rw [← hd2 h]; exact (nodd (fun q => hc78 q.1)).symm)
      · rw [if_pos hc78] at hcs1
        refine R_iincN dX3_observe_81 rfl (by decide) rfl (by unfold inI; omega) [_, _, _, _, _, _, _, _, _, _, _] rfl ?_
        refine R_aload_n dX3_observe_84 rfl ?_
        refine R_aload_n dX3_observe_85 rfl ?_
        refine R_getR _ (hr _ _ _ rfl) fd3_1 kf3_9 rfl dX3_observe_86 ?_
        try simp +decide only [up2_far, up2_s, up2_kk]
        refine R_iload dX3_observe_89 rfl ?_
        refine R_iald rfl (by omega) (by omega) dX3_observe_91 ?_
        try simp +decide only [up2_far, up2_s, up2_kk]
        rw [Int.toNat_natCast, hge]
        refine R_iload dX3_observe_92 rfl ?_
        refine R_callV (c_X4_goneBy hr (e : Int) (g 13 i) (by omega)) (mvX4_goneBy _) kiX4_goneBy kvX4_goneBy km3_75 rfl rfl (by decide) ⟨rfl, rfl, by decide, by decide⟩ (Nat.le_of_ble_eq_true rfl) dX3_observe_94 (fun v1 sh1 g1 z1 r1 hq => ?_)
        obtain ⟨rfl, rfl, rfl, rfl, rfl⟩ := hq
        rw [hvc, Int.toNat_natCast]
        by_cases hg : isGone (vC g) e (g 13 i) = true
        · rw [bi_t hg]
          rw [if_pos ⟨hc78, hg⟩] at hcg1
          refine R_if_eq 131 dX3_observe_97 (by decide) (fun hc97 => ?_) (fun hc97 => ?_)
          · exact absurd hc97 (by decide)
          refine R_iincN dX3_observe_100 rfl (by decide) rfl (by unfold inI; omega) [_, _, _, _, _, _, _, _, _, _, _] rfl ?_
          refine R_aload_n dX3_observe_103 rfl ?_
          refine R_getR _ (hr _ _ _ rfl) fd3_3 kf3_18 rfl dX3_observe_104 ?_
          try simp +decide only [up2_far, up2_s, up2_kk]
          refine R_iload_n dX3_observe_107 rfl ?_
          refine R_iald rfl (by omega) (by omega) dX3_observe_108 ?_
          try simp +decide only [up2_far, up2_s, up2_kk]
          rw [Int.toNat_natCast, up2_s]
          refine R_iconst dX3_observe_109 rfl rfl ?_
          refine R_icmp_ne 131 dX3_observe_110 (by decide) (fun hc110 => ?_) (fun hc110 => ?_)
          · exact back (nu + 1) (lo + 1) de none (by omega) (by omega) (by omega) hd1 (fun h => absurd h hc110)
          · have hd2' := hd2 hc110
            refine R_iload dX3_observe_113 rfl ?_
            refine R_iload dX3_observe_115 rfl ?_
            refine R_ishr dX3_observe_117 ?_
            refine R_iconst dX3_observe_118 rfl rfl ?_
            refine R_iand dX3_observe_119 ?_
            rw [bit_n (by omega) (by omega)]
            by_cases htb : bt.testBit nm = true
            · rw [if_pos htb]
              refine R_if_ne 131 dX3_observe_120 (by decide) (fun hc120 => ?_) (fun hc120 => ?_)
              · exact back (nu + 1) (lo + 1) de none (by omega) (by omega) (by omega) hd1 (fun h => by rw [← hd2 h]; exact (nodd (fun q => by rw [htb] at q; exact absurd q.2.2 (by decide))).symm)
              · exact absurd hc120 (by decide)
            · rw [if_neg htb]
              refine R_if_ne 131 dX3_observe_120 (by decide) (fun hc120 => ?_) (fun hc120 => ?_)
              · exact absurd rfl hc120
              · refine R_aload_n dX3_observe_123 rfl ?_
                refine R_getR _ (hr _ _ _ rfl) fd3_3 kf3_18 rfl dX3_observe_124 ?_
                refine R_iload_n dX3_observe_127 rfl ?_
                refine R_iload dX3_observe_128 rfl ?_
                refine R_iast rfl (by omega) (by omega) dX3_observe_130 ?_
                rw [Int.toNat_natCast, up2_up2]
                have hde : (nm : Int) = DE := by
                  rw [dd, if_pos] at hd2'
                  · rw [← hd2', ← hnm]; rfl
                  · rw [Bool.and_eq_true, Bool.and_eq_true, decide_eq_true_eq]
                    exact ⟨⟨hc78, hg⟩, Classical.byContradiction fun q => htb (hnall.mpr q)⟩
                exact back (nu + 1) (lo + 1) (nm : Int) none (by omega) (by omega) (by omega) (fun _ => hde) (fun h => absurd h (by omega))
        · rw [bi_f hg]
          rw [if_neg (fun q => hg q.2)] at hcg1
          refine R_if_eq 131 dX3_observe_97 (by decide) (fun hc97 => ?_) (fun hc97 => ?_)
          · exact back (nu + 1) lo de none (by omega) (by omega) (by omega) hd1 (fun h => by rw [← hd2 h]; exact (nodd (fun q => hg q.2.1)).symm)
          · exact absurd rfl hc97
  refine R_aload_n dX3_observe_0 rfl ?_
  refine R_getR _ (hr _ _ _ rfl) fd3_0 kf3_38 rfl dX3_observe_1 ?_
  refine R_getR _ (hr _ _ _ rfl) fd0_2 kf3_49 rfl dX3_observe_4 ?_
  refine R_astore_n dX3_observe_7 (by decide) rfl [_, _, _, _, _, _, _, _, _, _, _] rfl ?_
  refine R_aload_n dX3_observe_8 rfl ?_
  refine R_getR _ (hr _ _ _ rfl) fd3_1 kf3_9 rfl dX3_observe_9 ?_
  refine R_iload_n dX3_observe_12 rfl ?_
  refine R_iald rfl (by omega) (by omega) dX3_observe_13 ?_
  rw [Int.toNat_natCast, hgi]
  refine R_istore_n dX3_observe_14 (by decide) rfl [_, _, _, _, _, _, _, _, _, _, _] rfl ?_
  refine R_aload_n dX3_observe_15 rfl ?_
  refine R_getR _ (hr _ _ _ rfl) fd4_1 kf3_69 rfl dX3_observe_16 ?_
  refine R_iload_n dX3_observe_19 rfl ?_
  refine R_iald rfl (by omega) (by omega) dX3_observe_20 ?_
  rw [Int.toNat_natCast]
  refine R_istore dX3_observe_21 (by decide) rfl [_, _, _, _, _, _, _, _, _, _, _] rfl ?_
  refine R_aload_n dX3_observe_23 rfl ?_
  refine R_iload_n dX3_observe_24 rfl ?_
  refine R_callV (c_X3_sexAt hr hB l hl hm hll j hj) (mvX3_sexAt _) kiX3_sexAt kvX3_sexAt km3_124 rfl rfl (by decide) ⟨rfl, rfl, by decide, by decide⟩ (Nat.le_of_ble_eq_true rfl) dX3_observe_25 (fun v1 sh1 g1 z1 r1 hq => ?_)
  obtain ⟨rfl, rfl, rfl, rfl, rfl⟩ := hq
  rw [hI]
  refine R_istore dX3_observe_28 (by decide) rfl [_, _, _, _, _, _, _, _, _, _, _] rfl ?_
  refine R_iconst dX3_observe_30 rfl rfl ?_
  refine R_istore dX3_observe_31 (by decide) rfl [_, _, _, _, _, _, _, _, _, _, _] rfl ?_
  refine R_iconst dX3_observe_33 rfl rfl ?_
  refine R_istore dX3_observe_34 (by decide) rfl [_, _, _, _, _, _, _, _, _, _, _] rfl ?_
  refine R_iconst dX3_observe_36 rfl rfl ?_
  refine R_istore dX3_observe_37 (by decide) rfl [_, _, _, _, _, _, _, _, _, _, _] rfl ?_
  refine R_aload_n dX3_observe_39 rfl ?_
  refine R_getR _ (hr _ _ _ rfl) fd3_3 kf3_18 rfl dX3_observe_40 ?_
  refine R_iload_n dX3_observe_43 rfl ?_
  refine R_iconst dX3_observe_44 rfl rfl ?_
  refine R_iast rfl (by omega) (by omega) dX3_observe_45 ?_
  refine R_iload_n dX3_observe_46 rfl ?_
  refine R_iconst dX3_observe_47 rfl rfl ?_
  refine R_isubN dX3_observe_48 (by unfold inI; omega) ?_
  refine R_istore dX3_observe_49 (by decide) rfl [_, _, _, _, _, _, _, _, _, _, _] rfl ?_
  rw [Int.toNat_natCast]
  exact loop j 1 0 (-1) 0 [] none (Nat.le_refl _) hNU (by rw [← hLO]; omega) (by omega) (by omega) (fun nm _ => by simp) (fun h => absurd rfl h) (fun _ => by rw [← hDE]; rfl)
end OBS2
