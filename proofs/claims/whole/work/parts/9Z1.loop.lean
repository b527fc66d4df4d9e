/-! THE LAW'S LOOP -/
section LOOP
abbrev mLw (nm : String) : MI := (⟨x.cls, nm, x.desc⟩, code, 4, ret, room_1)
abbrev lwL (i : Nat) : List (Option AV) := [some (vR (some 100030)), some (vR (some 0)), some (vR (some 74)), some (vI (i : Int))]
variable {nm : String} {Xs : Nat × (Nat → Int)} {ce sl : Nat} {g z : GG} {r : RR}
theorem lcm_s (x : Int) : lcm x x = 0 := by unfold lcm; simp

theorem lw_c0 (hce : ce ≤ 600000) (hsl : sl ≤ 7302250) (hL : Xs.1 ≤ 3072) (i : Nat) (hi : i + 6 ≤ Xs.1) (hI : IV g z r) (kk : ∀ g z r, IV g z r → RLw Xs (mLw nm) ce sl shW 1034 (lwL i) [] g z r) : RLw Xs (mLw nm) ce sl shW 148 (lwL i) [] g z r := by
  refine L_aload_n dL_law_148 rfl ?_
  refine L_aload_n dL_law_149 rfl ?_
  refine L_iload_n dL_law_150 rfl ?_
  refine L_iconst dL_law_151 rfl rfl ?_
  refine L_iaddN dL_law_152 (by unfold inI; omega) ?_
  refine L_sld (by omega) (by omega) dL_law_153 ?_
  refine L_aload_n dL_law_154 rfl ?_
  refine L_iload_n dL_law_155 rfl ?_
  refine L_iconst dL_law_156 rfl rfl ?_
  refine L_iaddN dL_law_157 (by unfold inI; omega) ?_
  refine L_sld (by omega) (by omega) dL_law_158 ?_
  refine L_callV (s_name (Xs.2 ((i : Int) + 1).toNat) (Xs.2 ((i : Int) + 2).toNat) g z r hI) (mvX11_name _) kiX11_name kvX11_name kmL_13 rfl rfl (by decide) ⟨rfl, rfl, of_decide_eq_true rfl, hce, hsl⟩ (Nat.le_of_ble_eq_true rfl) dL_law_159 (fun v1 sh1 g1 z1 r1 hq => ?_)
  obtain ⟨rfl, y, rfl, hq⟩ := hq
  refine L_aload_n dL_law_162 rfl ?_
  refine L_aload_n dL_law_163 rfl ?_
  refine L_iload_n dL_law_164 rfl ?_
  refine L_iconst dL_law_165 rfl rfl ?_
  refine L_iaddN dL_law_166 (by unfold inI; omega) ?_
  refine L_sld (by omega) (by omega) dL_law_167 ?_
  refine L_aload_n dL_law_168 rfl ?_
  refine L_iload_n dL_law_169 rfl ?_
  refine L_iconst dL_law_170 rfl rfl ?_
  refine L_iaddN dL_law_171 (by unfold inI; omega) ?_
  refine L_sld (by omega) (by omega) dL_law_172 ?_
  refine L_callV hq (mvX12_name _) kiX12_name kvX12_name kmL_17 rfl rfl (by decide) ⟨rfl, rfl, of_decide_eq_true rfl, hce, hsl⟩ (Nat.le_of_ble_eq_true rfl) dL_law_173 (fun v2 sh2 g2 z2 r2 hq2 => ?_)
  obtain ⟨rfl, rfl, hI2⟩ := hq2
  exact L_icmp_eq 1034 dL_law_176 (by decide) (fun _ => kk _ _ _ hI2) (fun h => absurd rfl h)
theorem lw_c1 (hce : ce ≤ 600000) (hsl : sl ≤ 7302250) (hL : Xs.1 ≤ 3072) (i : Nat) (hi : i + 6 ≤ Xs.1) (hI : IV g z r) (kk : ∀ g z r, IV g z r → RLw Xs (mLw nm) ce sl shW 1034 (lwL i) [] g z r) : RLw Xs (mLw nm) ce sl shW 181 (lwL i) [] g z r := by
  refine L_aload_n dL_law_181 rfl ?_
  refine L_aload_n dL_law_182 rfl ?_
  refine L_iload_n dL_law_183 rfl ?_
  refine L_iconst dL_law_184 rfl rfl ?_
  refine L_iaddN dL_law_185 (by unfold inI; omega) ?_
  refine L_sld (by omega) (by omega) dL_law_186 ?_
  refine L_aload_n dL_law_187 rfl ?_
  refine L_iload_n dL_law_188 rfl ?_
  refine L_iconst dL_law_189 rfl rfl ?_
  refine L_iaddN dL_law_190 (by unfold inI; omega) ?_
  refine L_sld (by omega) (by omega) dL_law_191 ?_
  refine L_aload_n dL_law_192 rfl ?_
  refine L_iload_n dL_law_193 rfl ?_
  refine L_iconst dL_law_194 rfl rfl ?_
  refine L_iaddN dL_law_195 (by unfold inI; omega) ?_
  refine L_sld (by omega) (by omega) dL_law_196 ?_
  refine L_aload_n dL_law_197 rfl ?_
  refine L_iload_n dL_law_198 rfl ?_
  refine L_iconst dL_law_199 rfl rfl ?_
  refine L_iaddN dL_law_200 (by unfold inI; omega) ?_
  refine L_sld (by omega) (by omega) dL_law_201 ?_
  refine L_callV (s_couple (Xs.2 ((i : Int) + 1).toNat) (Xs.2 ((i : Int) + 2).toNat) (Xs.2 ((i : Int) + 3).toNat) (Xs.2 ((i : Int) + 4).toNat) g z r hI) (mvX11_couple _) kiX11_couple kvX11_couple kmL_18 rfl rfl (by decide) ⟨rfl, rfl, of_decide_eq_true rfl, hce, hsl⟩ (Nat.le_of_ble_eq_true rfl) dL_law_202 (fun v1 sh1 g1 z1 r1 hq => ?_)
  obtain ⟨rfl, y, rfl, hq⟩ := hq
  refine L_aload_n dL_law_205 rfl ?_
  refine L_aload_n dL_law_206 rfl ?_
  refine L_iload_n dL_law_207 rfl ?_
  refine L_iconst dL_law_208 rfl rfl ?_
  refine L_iaddN dL_law_209 (by unfold inI; omega) ?_
  refine L_sld (by omega) (by omega) dL_law_210 ?_
  refine L_aload_n dL_law_211 rfl ?_
  refine L_iload_n dL_law_212 rfl ?_
  refine L_iconst dL_law_213 rfl rfl ?_
  refine L_iaddN dL_law_214 (by unfold inI; omega) ?_
  refine L_sld (by omega) (by omega) dL_law_215 ?_
  refine L_aload_n dL_law_216 rfl ?_
  refine L_iload_n dL_law_217 rfl ?_
  refine L_iconst dL_law_218 rfl rfl ?_
  refine L_iaddN dL_law_219 (by unfold inI; omega) ?_
  refine L_sld (by omega) (by omega) dL_law_220 ?_
  refine L_aload_n dL_law_221 rfl ?_
  refine L_iload_n dL_law_222 rfl ?_
  refine L_iconst dL_law_223 rfl rfl ?_
  refine L_iaddN dL_law_224 (by unfold inI; omega) ?_
  refine L_sld (by omega) (by omega) dL_law_225 ?_
  refine L_callV hq (mvX12_couple _) kiX12_couple kvX12_couple kmL_22 rfl rfl (by decide) ⟨rfl, rfl, of_decide_eq_true rfl, hce, hsl⟩ (Nat.le_of_ble_eq_true rfl) dL_law_226 (fun v2 sh2 g2 z2 r2 hq2 => ?_)
  obtain ⟨rfl, rfl, hI2⟩ := hq2
  exact L_icmp_eq 1034 dL_law_229 (by decide) (fun _ => kk _ _ _ hI2) (fun h => absurd rfl h)
theorem lw_c2 (hce : ce ≤ 600000) (hsl : sl ≤ 7302250) (hL : Xs.1 ≤ 3072) (i : Nat) (hi : i + 6 ≤ Xs.1) (hI : IV g z r) (kk : ∀ g z r, IV g z r → RLw Xs (mLw nm) ce sl shW 1034 (lwL i) [] g z r) : RLw Xs (mLw nm) ce sl shW 234 (lwL i) [] g z r := by
  refine L_aload_n dL_law_234 rfl ?_
  refine L_aload_n dL_law_235 rfl ?_
  refine L_iload_n dL_law_236 rfl ?_
  refine L_iconst dL_law_237 rfl rfl ?_
  refine L_iaddN dL_law_238 (by unfold inI; omega) ?_
  refine L_sld (by omega) (by omega) dL_law_239 ?_
  refine L_aload_n dL_law_240 rfl ?_
  refine L_iload_n dL_law_241 rfl ?_
  refine L_iconst dL_law_242 rfl rfl ?_
  refine L_iaddN dL_law_243 (by unfold inI; omega) ?_
  refine L_sld (by omega) (by omega) dL_law_244 ?_
  refine L_aload_n dL_law_245 rfl ?_
  refine L_iload_n dL_law_246 rfl ?_
  refine L_iconst dL_law_247 rfl rfl ?_
  refine L_iaddN dL_law_248 (by unfold inI; omega) ?_
  refine L_sld (by omega) (by omega) dL_law_249 ?_
  refine L_callV (s_parent (Xs.2 ((i : Int) + 1).toNat) (Xs.2 ((i : Int) + 2).toNat) (Xs.2 ((i : Int) + 3).toNat) g z r hI) (mvX11_parent _) kiX11_parent kvX11_parent kmL_23 rfl rfl (by decide) ⟨rfl, rfl, of_decide_eq_true rfl, hce, hsl⟩ (Nat.le_of_ble_eq_true rfl) dL_law_250 (fun v1 sh1 g1 z1 r1 hq => ?_)
  obtain ⟨rfl, y, rfl, hq⟩ := hq
  refine L_aload_n dL_law_253 rfl ?_
  refine L_aload_n dL_law_254 rfl ?_
  refine L_iload_n dL_law_255 rfl ?_
  refine L_iconst dL_law_256 rfl rfl ?_
  refine L_iaddN dL_law_257 (by unfold inI; omega) ?_
  refine L_sld (by omega) (by omega) dL_law_258 ?_
  refine L_aload_n dL_law_259 rfl ?_
  refine L_iload_n dL_law_260 rfl ?_
  refine L_iconst dL_law_261 rfl rfl ?_
  refine L_iaddN dL_law_262 (by unfold inI; omega) ?_
  refine L_sld (by omega) (by omega) dL_law_263 ?_
  refine L_aload_n dL_law_264 rfl ?_
  refine L_iload_n dL_law_265 rfl ?_
  refine L_iconst dL_law_266 rfl rfl ?_
  refine L_iaddN dL_law_267 (by unfold inI; omega) ?_
  refine L_sld (by omega) (by omega) dL_law_268 ?_
  refine L_callV hq (mvX12_parent _) kiX12_parent kvX12_parent kmL_27 rfl rfl (by decide) ⟨rfl, rfl, of_decide_eq_true rfl, hce, hsl⟩ (Nat.le_of_ble_eq_true rfl) dL_law_269 (fun v2 sh2 g2 z2 r2 hq2 => ?_)
  obtain ⟨rfl, rfl, hI2⟩ := hq2
  exact L_icmp_eq 1034 dL_law_272 (by decide) (fun _ => kk _ _ _ hI2) (fun h => absurd rfl h)
theorem lw_c3 (hce : ce ≤ 600000) (hsl : sl ≤ 7302250) (hL : Xs.1 ≤ 3072) (i : Nat) (hi : i + 6 ≤ Xs.1) (hI : IV g z r) (kk : ∀ g z r, IV g z r → RLw Xs (mLw nm) ce sl shW 1034 (lwL i) [] g z r) : RLw Xs (mLw nm) ce sl shW 277 (lwL i) [] g z r := by
  refine L_aload_n dL_law_277 rfl ?_
  refine L_aload_n dL_law_278 rfl ?_
  refine L_iload_n dL_law_279 rfl ?_
  refine L_iconst dL_law_280 rfl rfl ?_
  refine L_iaddN dL_law_281 (by unfold inI; omega) ?_
  refine L_sld (by omega) (by omega) dL_law_282 ?_
  refine L_aload_n dL_law_283 rfl ?_
  refine L_iload_n dL_law_284 rfl ?_
  refine L_iconst dL_law_285 rfl rfl ?_
  refine L_iaddN dL_law_286 (by unfold inI; omega) ?_
  refine L_sld (by omega) (by omega) dL_law_287 ?_
  refine L_aload_n dL_law_288 rfl ?_
  refine L_iload_n dL_law_289 rfl ?_
  refine L_iconst dL_law_290 rfl rfl ?_
  refine L_iaddN dL_law_291 (by unfold inI; omega) ?_
  refine L_sld (by omega) (by omega) dL_law_292 ?_
  refine L_aload_n dL_law_293 rfl ?_
  refine L_iload_n dL_law_294 rfl ?_
  refine L_iconst dL_law_295 rfl rfl ?_
  refine L_iaddN dL_law_296 (by unfold inI; omega) ?_
  refine L_sld (by omega) (by omega) dL_law_297 ?_
  refine L_aload_n dL_law_298 rfl ?_
  refine L_iload_n dL_law_299 rfl ?_
  refine L_iconst dL_law_300 rfl rfl ?_
  refine L_iaddN dL_law_301 (by unfold inI; omega) ?_
  refine L_sld (by omega) (by omega) dL_law_302 ?_
  refine L_callV (s_christening (Xs.2 ((i : Int) + 1).toNat) (Xs.2 ((i : Int) + 2).toNat) (Xs.2 ((i : Int) + 3).toNat) (Xs.2 ((i : Int) + 4).toNat) (Xs.2 ((i : Int) + 5).toNat) g z r hI) (mvX11_christening _) kiX11_christening kvX11_christening kmL_28 rfl rfl (by decide) ⟨rfl, rfl, of_decide_eq_true rfl, hce, hsl⟩ (Nat.le_of_ble_eq_true rfl) dL_law_303 (fun v1 sh1 g1 z1 r1 hq => ?_)
  obtain ⟨rfl, y, rfl, hq⟩ := hq
  refine L_aload_n dL_law_306 rfl ?_
  refine L_aload_n dL_law_307 rfl ?_
  refine L_iload_n dL_law_308 rfl ?_
  refine L_iconst dL_law_309 rfl rfl ?_
  refine L_iaddN dL_law_310 (by unfold inI; omega) ?_
  refine L_sld (by omega) (by omega) dL_law_311 ?_
  refine L_aload_n dL_law_312 rfl ?_
  refine L_iload_n dL_law_313 rfl ?_
  refine L_iconst dL_law_314 rfl rfl ?_
  refine L_iaddN dL_law_315 (by unfold inI; omega) ?_
  refine L_sld (by omega) (by omega) dL_law_316 ?_
  refine L_aload_n dL_law_317 rfl ?_
  refine L_iload_n dL_law_318 rfl ?_
  refine L_iconst dL_law_319 rfl rfl ?_
  refine L_iaddN dL_law_320 (by unfold inI; omega) ?_
  refine L_sld (by omega) (by omega) dL_law_321 ?_
  refine L_aload_n dL_law_322 rfl ?_
  refine L_iload_n dL_law_323 rfl ?_
  refine L_iconst dL_law_324 rfl rfl ?_
  refine L_iaddN dL_law_325 (by unfold inI; omega) ?_
  refine L_sld (by omega) (by omega) dL_law_326 ?_
  refine L_aload_n dL_law_327 rfl ?_
  refine L_iload_n dL_law_328 rfl ?_
  refine L_iconst dL_law_329 rfl rfl ?_
  refine L_iaddN dL_law_330 (by unfold inI; omega) ?_
  refine L_sld (by omega) (by omega) dL_law_331 ?_
  refine L_callV hq (mvX12_christening _) kiX12_christening kvX12_christening kmL_32 rfl rfl (by decide) ⟨rfl, rfl, of_decide_eq_true rfl, hce, hsl⟩ (Nat.le_of_ble_eq_true rfl) dL_law_332 (fun v2 sh2 g2 z2 r2 hq2 => ?_)
  obtain ⟨rfl, rfl, hI2⟩ := hq2
  exact L_icmp_eq 1034 dL_law_335 (by decide) (fun _ => kk _ _ _ hI2) (fun h => absurd rfl h)
theorem lw_c4 (hce : ce ≤ 600000) (hsl : sl ≤ 7302250) (hL : Xs.1 ≤ 3072) (i : Nat) (hi : i + 6 ≤ Xs.1) (hI : IV g z r) (kk : ∀ g z r, IV g z r → RLw Xs (mLw nm) ce sl shW 1034 (lwL i) [] g z r) : RLw Xs (mLw nm) ce sl shW 340 (lwL i) [] g z r := by
  refine L_aload_n dL_law_340 rfl ?_
  refine L_aload_n dL_law_341 rfl ?_
  refine L_iload_n dL_law_342 rfl ?_
  refine L_iconst dL_law_343 rfl rfl ?_
  refine L_iaddN dL_law_344 (by unfold inI; omega) ?_
  refine L_sld (by omega) (by omega) dL_law_345 ?_
  refine L_aload_n dL_law_346 rfl ?_
  refine L_iload_n dL_law_347 rfl ?_
  refine L_iconst dL_law_348 rfl rfl ?_
  refine L_iaddN dL_law_349 (by unfold inI; omega) ?_
  refine L_sld (by omega) (by omega) dL_law_350 ?_
  refine L_callV (s_died (Xs.2 ((i : Int) + 1).toNat) (Xs.2 ((i : Int) + 2).toNat) g z r hI) (mvX11_died _) kiX11_died kvX11_died kmL_33 rfl rfl (by decide) ⟨rfl, rfl, of_decide_eq_true rfl, hce, hsl⟩ (Nat.le_of_ble_eq_true rfl) dL_law_351 (fun v1 sh1 g1 z1 r1 hq => ?_)
  obtain ⟨rfl, y, rfl, hq⟩ := hq
  refine L_aload_n dL_law_354 rfl ?_
  refine L_aload_n dL_law_355 rfl ?_
  refine L_iload_n dL_law_356 rfl ?_
  refine L_iconst dL_law_357 rfl rfl ?_
  refine L_iaddN dL_law_358 (by unfold inI; omega) ?_
  refine L_sld (by omega) (by omega) dL_law_359 ?_
  refine L_aload_n dL_law_360 rfl ?_
  refine L_iload_n dL_law_361 rfl ?_
  refine L_iconst dL_law_362 rfl rfl ?_
  refine L_iaddN dL_law_363 (by unfold inI; omega) ?_
  refine L_sld (by omega) (by omega) dL_law_364 ?_
  refine L_callV hq (mvX12_died _) kiX12_died kvX12_died kmL_37 rfl rfl (by decide) ⟨rfl, rfl, of_decide_eq_true rfl, hce, hsl⟩ (Nat.le_of_ble_eq_true rfl) dL_law_365 (fun v2 sh2 g2 z2 r2 hq2 => ?_)
  obtain ⟨rfl, rfl, hI2⟩ := hq2
  exact L_icmp_eq 1034 dL_law_368 (by decide) (fun _ => kk _ _ _ hI2) (fun h => absurd rfl h)
theorem lw_c5 (hce : ce ≤ 600000) (hsl : sl ≤ 7302250) (hL : Xs.1 ≤ 3072) (i : Nat) (hi : i + 6 ≤ Xs.1) (hI : IV g z r) (kk : ∀ g z r, IV g z r → RLw Xs (mLw nm) ce sl shW 1034 (lwL i) [] g z r) : RLw Xs (mLw nm) ce sl shW 373 (lwL i) [] g z r := by
  refine L_aload_n dL_law_373 rfl ?_
  refine L_aload_n dL_law_374 rfl ?_
  refine L_iload_n dL_law_375 rfl ?_
  refine L_iconst dL_law_376 rfl rfl ?_
  refine L_iaddN dL_law_377 (by unfold inI; omega) ?_
  refine L_sld (by omega) (by omega) dL_law_378 ?_
  refine L_aload_n dL_law_379 rfl ?_
  refine L_iload_n dL_law_380 rfl ?_
  refine L_iconst dL_law_381 rfl rfl ?_
  refine L_iaddN dL_law_382 (by unfold inI; omega) ?_
  refine L_sld (by omega) (by omega) dL_law_383 ?_
  refine L_callV (s_weighs (Xs.2 ((i : Int) + 1).toNat) (Xs.2 ((i : Int) + 2).toNat) g z r hI) (mvX11_weighs _) kiX11_weighs kvX11_weighs kmL_38 rfl rfl (by decide) ⟨rfl, rfl, of_decide_eq_true rfl, hce, hsl⟩ (Nat.le_of_ble_eq_true rfl) dL_law_384 (fun v1 sh1 g1 z1 r1 hq => ?_)
  obtain ⟨rfl, y, rfl, hq⟩ := hq
  refine L_aload_n dL_law_387 rfl ?_
  refine L_aload_n dL_law_388 rfl ?_
  refine L_iload_n dL_law_389 rfl ?_
  refine L_iconst dL_law_390 rfl rfl ?_
  refine L_iaddN dL_law_391 (by unfold inI; omega) ?_
  refine L_sld (by omega) (by omega) dL_law_392 ?_
  refine L_aload_n dL_law_393 rfl ?_
  refine L_iload_n dL_law_394 rfl ?_
  refine L_iconst dL_law_395 rfl rfl ?_
  refine L_iaddN dL_law_396 (by unfold inI; omega) ?_
  refine L_sld (by omega) (by omega) dL_law_397 ?_
  refine L_callV hq (mvX12_weighs _) kiX12_weighs kvX12_weighs kmL_41 rfl rfl (by decide) ⟨rfl, rfl, of_decide_eq_true rfl, hce, hsl⟩ (Nat.le_of_ble_eq_true rfl) dL_law_398 (fun v2 sh2 g2 z2 r2 hq2 => ?_)
  obtain ⟨rfl, rfl, hI2⟩ := hq2
  exact L_icmp_eq 1034 dL_law_401 (by decide) (fun _ => kk _ _ _ hI2) (fun h => absurd rfl h)
theorem lw_c6 (hce : ce ≤ 600000) (hsl : sl ≤ 7302250) (hL : Xs.1 ≤ 3072) (i : Nat) (hi : i + 6 ≤ Xs.1) (hI : IV g z r) (kk : ∀ g z r, IV g z r → RLw Xs (mLw nm) ce sl shW 1034 (lwL i) [] g z r) : RLw Xs (mLw nm) ce sl shW 406 (lwL i) [] g z r := by
  refine L_aload_n dL_law_406 rfl ?_
  refine L_aload_n dL_law_407 rfl ?_
  refine L_iload_n dL_law_408 rfl ?_
  refine L_iconst dL_law_409 rfl rfl ?_
  refine L_iaddN dL_law_410 (by unfold inI; omega) ?_
  refine L_sld (by omega) (by omega) dL_law_411 ?_
  refine L_aload_n dL_law_412 rfl ?_
  refine L_iload_n dL_law_413 rfl ?_
  refine L_iconst dL_law_414 rfl rfl ?_
  refine L_iaddN dL_law_415 (by unfold inI; omega) ?_
  refine L_sld (by omega) (by omega) dL_law_416 ?_
  refine L_aload_n dL_law_417 rfl ?_
  refine L_iload_n dL_law_418 rfl ?_
  refine L_iconst dL_law_419 rfl rfl ?_
  refine L_iaddN dL_law_420 (by unfold inI; omega) ?_
  refine L_sld (by omega) (by omega) dL_law_421 ?_
  refine L_aload_n dL_law_422 rfl ?_
  refine L_iload_n dL_law_423 rfl ?_
  refine L_iconst dL_law_424 rfl rfl ?_
  refine L_iaddN dL_law_425 (by unfold inI; omega) ?_
  refine L_sld (by omega) (by omega) dL_law_426 ?_
  refine L_aload_n dL_law_427 rfl ?_
  refine L_iload_n dL_law_428 rfl ?_
  refine L_iconst dL_law_429 rfl rfl ?_
  refine L_iaddN dL_law_430 (by unfold inI; omega) ?_
  refine L_sld (by omega) (by omega) dL_law_431 ?_
  refine L_callV (s_feed (Xs.2 ((i : Int) + 1).toNat) (Xs.2 ((i : Int) + 2).toNat) (Xs.2 ((i : Int) + 3).toNat) (Xs.2 ((i : Int) + 4).toNat) (Xs.2 ((i : Int) + 5).toNat) g z r hI) (mvX11_feed _) kiX11_feed kvX11_feed kmL_42 rfl rfl (by decide) ⟨rfl, rfl, of_decide_eq_true rfl, hce, hsl⟩ (Nat.le_of_ble_eq_true rfl) dL_law_432 (fun v1 sh1 g1 z1 r1 hq => ?_)
  obtain ⟨rfl, y, rfl, hq⟩ := hq
  refine L_aload_n dL_law_435 rfl ?_
  refine L_aload_n dL_law_436 rfl ?_
  refine L_iload_n dL_law_437 rfl ?_
  refine L_iconst dL_law_438 rfl rfl ?_
  refine L_iaddN dL_law_439 (by unfold inI; omega) ?_
  refine L_sld (by omega) (by omega) dL_law_440 ?_
  refine L_aload_n dL_law_441 rfl ?_
  refine L_iload_n dL_law_442 rfl ?_
  refine L_iconst dL_law_443 rfl rfl ?_
  refine L_iaddN dL_law_444 (by unfold inI; omega) ?_
  refine L_sld (by omega) (by omega) dL_law_445 ?_
  refine L_aload_n dL_law_446 rfl ?_
  refine L_iload_n dL_law_447 rfl ?_
  refine L_iconst dL_law_448 rfl rfl ?_
  refine L_iaddN dL_law_449 (by unfold inI; omega) ?_
  refine L_sld (by omega) (by omega) dL_law_450 ?_
  refine L_aload_n dL_law_451 rfl ?_
  refine L_iload_n dL_law_452 rfl ?_
  refine L_iconst dL_law_453 rfl rfl ?_
  refine L_iaddN dL_law_454 (by unfold inI; omega) ?_
  refine L_sld (by omega) (by omega) dL_law_455 ?_
  refine L_aload_n dL_law_456 rfl ?_
  refine L_iload_n dL_law_457 rfl ?_
  refine L_iconst dL_law_458 rfl rfl ?_
  refine L_iaddN dL_law_459 (by unfold inI; omega) ?_
  refine L_sld (by omega) (by omega) dL_law_460 ?_
  refine L_callV hq (mvX12_feed _) kiX12_feed kvX12_feed kmL_45 rfl rfl (by decide) ⟨rfl, rfl, of_decide_eq_true rfl, hce, hsl⟩ (Nat.le_of_ble_eq_true rfl) dL_law_461 (fun v2 sh2 g2 z2 r2 hq2 => ?_)
  obtain ⟨rfl, rfl, hI2⟩ := hq2
  exact L_icmp_eq 1034 dL_law_464 (by decide) (fun _ => kk _ _ _ hI2) (fun h => absurd rfl h)
theorem lw_c7 (hce : ce ≤ 600000) (hsl : sl ≤ 7302250) (hL : Xs.1 ≤ 3072) (i : Nat) (hi : i + 6 ≤ Xs.1) (hI : IV g z r) (kk : ∀ g z r, IV g z r → RLw Xs (mLw nm) ce sl shW 1034 (lwL i) [] g z r) : RLw Xs (mLw nm) ce sl shW 469 (lwL i) [] g z r := by
  refine L_aload_n dL_law_469 rfl ?_
  refine L_aload_n dL_law_470 rfl ?_
  refine L_iload_n dL_law_471 rfl ?_
  refine L_iconst dL_law_472 rfl rfl ?_
  refine L_iaddN dL_law_473 (by unfold inI; omega) ?_
  refine L_sld (by omega) (by omega) dL_law_474 ?_
  refine L_aload_n dL_law_475 rfl ?_
  refine L_iload_n dL_law_476 rfl ?_
  refine L_iconst dL_law_477 rfl rfl ?_
  refine L_iaddN dL_law_478 (by unfold inI; omega) ?_
  refine L_sld (by omega) (by omega) dL_law_479 ?_
  refine L_callV (s_custom (Xs.2 ((i : Int) + 1).toNat) (Xs.2 ((i : Int) + 2).toNat) g z r hI) (mvX11_custom _) kiX11_custom kvX11_custom kmL_46 rfl rfl (by decide) ⟨rfl, rfl, of_decide_eq_true rfl, hce, hsl⟩ (Nat.le_of_ble_eq_true rfl) dL_law_480 (fun v1 sh1 g1 z1 r1 hq => ?_)
  obtain ⟨rfl, y, rfl, hq⟩ := hq
  refine L_aload_n dL_law_483 rfl ?_
  refine L_aload_n dL_law_484 rfl ?_
  refine L_iload_n dL_law_485 rfl ?_
  refine L_iconst dL_law_486 rfl rfl ?_
  refine L_iaddN dL_law_487 (by unfold inI; omega) ?_
  refine L_sld (by omega) (by omega) dL_law_488 ?_
  refine L_aload_n dL_law_489 rfl ?_
  refine L_iload_n dL_law_490 rfl ?_
  refine L_iconst dL_law_491 rfl rfl ?_
  refine L_iaddN dL_law_492 (by unfold inI; omega) ?_
  refine L_sld (by omega) (by omega) dL_law_493 ?_
  refine L_callV hq (mvX12_custom _) kiX12_custom kvX12_custom kmL_49 rfl rfl (by decide) ⟨rfl, rfl, of_decide_eq_true rfl, hce, hsl⟩ (Nat.le_of_ble_eq_true rfl) dL_law_494 (fun v2 sh2 g2 z2 r2 hq2 => ?_)
  obtain ⟨rfl, rfl, hI2⟩ := hq2
  exact L_icmp_eq 1034 dL_law_497 (by decide) (fun _ => kk _ _ _ hI2) (fun h => absurd rfl h)
theorem lw_c8 (hce : ce ≤ 600000) (hsl : sl ≤ 7302250) (hL : Xs.1 ≤ 3072) (i : Nat) (hi : i + 6 ≤ Xs.1) (hI : IV g z r) (kk : ∀ g z r, IV g z r → RLw Xs (mLw nm) ce sl shW 1034 (lwL i) [] g z r) : RLw Xs (mLw nm) ce sl shW 502 (lwL i) [] g z r := by
  refine L_aload_n dL_law_502 rfl ?_
  refine L_aload_n dL_law_503 rfl ?_
  refine L_iload_n dL_law_504 rfl ?_
  refine L_iconst dL_law_505 rfl rfl ?_
  refine L_iaddN dL_law_506 (by unfold inI; omega) ?_
  refine L_sld (by omega) (by omega) dL_law_507 ?_
  refine L_aload_n dL_law_508 rfl ?_
  refine L_iload_n dL_law_509 rfl ?_
  refine L_iconst dL_law_510 rfl rfl ?_
  refine L_iaddN dL_law_511 (by unfold inI; omega) ?_
  refine L_sld (by omega) (by omega) dL_law_512 ?_
  refine L_aload_n dL_law_513 rfl ?_
  refine L_iload_n dL_law_514 rfl ?_
  refine L_iconst dL_law_515 rfl rfl ?_
  refine L_iaddN dL_law_516 (by unfold inI; omega) ?_
  refine L_sld (by omega) (by omega) dL_law_517 ?_
  refine L_callV (s_customs (Xs.2 ((i : Int) + 1).toNat) (Xs.2 ((i : Int) + 2).toNat) (Xs.2 ((i : Int) + 3).toNat) g z r hI) (mvX11_customs _) kiX11_customs kvX11_customs kmL_50 rfl rfl (by decide) ⟨rfl, rfl, of_decide_eq_true rfl, hce, hsl⟩ (Nat.le_of_ble_eq_true rfl) dL_law_518 (fun v1 sh1 g1 z1 r1 hq => ?_)
  obtain ⟨rfl, y, rfl, hq⟩ := hq
  refine L_aload_n dL_law_521 rfl ?_
  refine L_aload_n dL_law_522 rfl ?_
  refine L_iload_n dL_law_523 rfl ?_
  refine L_iconst dL_law_524 rfl rfl ?_
  refine L_iaddN dL_law_525 (by unfold inI; omega) ?_
  refine L_sld (by omega) (by omega) dL_law_526 ?_
  refine L_aload_n dL_law_527 rfl ?_
  refine L_iload_n dL_law_528 rfl ?_
  refine L_iconst dL_law_529 rfl rfl ?_
  refine L_iaddN dL_law_530 (by unfold inI; omega) ?_
  refine L_sld (by omega) (by omega) dL_law_531 ?_
  refine L_aload_n dL_law_532 rfl ?_
  refine L_iload_n dL_law_533 rfl ?_
  refine L_iconst dL_law_534 rfl rfl ?_
  refine L_iaddN dL_law_535 (by unfold inI; omega) ?_
  refine L_sld (by omega) (by omega) dL_law_536 ?_
  refine L_callV hq (mvX12_customs _) kiX12_customs kvX12_customs kmL_53 rfl rfl (by decide) ⟨rfl, rfl, of_decide_eq_true rfl, hce, hsl⟩ (Nat.le_of_ble_eq_true rfl) dL_law_537 (fun v2 sh2 g2 z2 r2 hq2 => ?_)
  obtain ⟨rfl, rfl, hI2⟩ := hq2
  exact L_icmp_eq 1034 dL_law_540 (by decide) (fun _ => kk _ _ _ hI2) (fun h => absurd rfl h)
theorem lw_c9 (hce : ce ≤ 600000) (hsl : sl ≤ 7302250) (hL : Xs.1 ≤ 3072) (i : Nat) (hi : i + 6 ≤ Xs.1) (hI : IV g z r) (kk : ∀ g z r, IV g z r → RLw Xs (mLw nm) ce sl shW 1034 (lwL i) [] g z r) : RLw Xs (mLw nm) ce sl shW 545 (lwL i) [] g z r := by
  refine L_aload_n dL_law_545 rfl ?_
  refine L_aload_n dL_law_546 rfl ?_
  refine L_iload_n dL_law_547 rfl ?_
  refine L_iconst dL_law_548 rfl rfl ?_
  refine L_iaddN dL_law_549 (by unfold inI; omega) ?_
  refine L_sld (by omega) (by omega) dL_law_550 ?_
  refine L_aload_n dL_law_551 rfl ?_
  refine L_iload_n dL_law_552 rfl ?_
  refine L_iconst dL_law_553 rfl rfl ?_
  refine L_iaddN dL_law_554 (by unfold inI; omega) ?_
  refine L_sld (by omega) (by omega) dL_law_555 ?_
  refine L_callV (s_tie (Xs.2 ((i : Int) + 1).toNat) (Xs.2 ((i : Int) + 2).toNat) g z r hI) (mvX11_tie _) kiX11_tie kvX11_tie kmL_54 rfl rfl (by decide) ⟨rfl, rfl, of_decide_eq_true rfl, hce, hsl⟩ (Nat.le_of_ble_eq_true rfl) dL_law_556 (fun v1 sh1 g1 z1 r1 hq => ?_)
  obtain ⟨rfl, y, rfl, hq⟩ := hq
  refine L_aload_n dL_law_559 rfl ?_
  refine L_aload_n dL_law_560 rfl ?_
  refine L_iload_n dL_law_561 rfl ?_
  refine L_iconst dL_law_562 rfl rfl ?_
  refine L_iaddN dL_law_563 (by unfold inI; omega) ?_
  refine L_sld (by omega) (by omega) dL_law_564 ?_
  refine L_aload_n dL_law_565 rfl ?_
  refine L_iload_n dL_law_566 rfl ?_
  refine L_iconst dL_law_567 rfl rfl ?_
  refine L_iaddN dL_law_568 (by unfold inI; omega) ?_
  refine L_sld (by omega) (by omega) dL_law_569 ?_
  refine L_callV hq (mvX12_tie _) kiX12_tie kvX12_tie kmL_57 rfl rfl (by decide) ⟨rfl, rfl, of_decide_eq_true rfl, hce, hsl⟩ (Nat.le_of_ble_eq_true rfl) dL_law_570 (fun v2 sh2 g2 z2 r2 hq2 => ?_)
  obtain ⟨rfl, rfl, hI2⟩ := hq2
  exact L_icmp_eq 1034 dL_law_573 (by decide) (fun _ => kk _ _ _ hI2) (fun h => absurd rfl h)
theorem lw_c10 (hce : ce ≤ 600000) (hsl : sl ≤ 7302250) (hL : Xs.1 ≤ 3072) (i : Nat) (hi : i + 6 ≤ Xs.1) (hI : IV g z r) (kk : ∀ g z r, IV g z r → RLw Xs (mLw nm) ce sl shW 1034 (lwL i) [] g z r) : RLw Xs (mLw nm) ce sl shW 578 (lwL i) [] g z r := by
  refine L_aload_n dL_law_578 rfl ?_
  refine L_aload_n dL_law_579 rfl ?_
  refine L_iload_n dL_law_580 rfl ?_
  refine L_iconst dL_law_581 rfl rfl ?_
  refine L_iaddN dL_law_582 (by unfold inI; omega) ?_
  refine L_sld (by omega) (by omega) dL_law_583 ?_
  refine L_aload_n dL_law_584 rfl ?_
  refine L_iload_n dL_law_585 rfl ?_
  refine L_iconst dL_law_586 rfl rfl ?_
  refine L_iaddN dL_law_587 (by unfold inI; omega) ?_
  refine L_sld (by omega) (by omega) dL_law_588 ?_
  refine L_callV (s_family (Xs.2 ((i : Int) + 1).toNat) (Xs.2 ((i : Int) + 2).toNat) g z r hI) (mvX11_family _) kiX11_family kvX11_family kmL_58 rfl rfl (by decide) ⟨rfl, rfl, of_decide_eq_true rfl, hce, hsl⟩ (Nat.le_of_ble_eq_true rfl) dL_law_589 (fun v1 sh1 g1 z1 r1 hq => ?_)
  obtain ⟨rfl, y, rfl, hq⟩ := hq
  refine L_aload_n dL_law_592 rfl ?_
  refine L_aload_n dL_law_593 rfl ?_
  refine L_iload_n dL_law_594 rfl ?_
  refine L_iconst dL_law_595 rfl rfl ?_
  refine L_iaddN dL_law_596 (by unfold inI; omega) ?_
  refine L_sld (by omega) (by omega) dL_law_597 ?_
  refine L_aload_n dL_law_598 rfl ?_
  refine L_iload_n dL_law_599 rfl ?_
  refine L_iconst dL_law_600 rfl rfl ?_
  refine L_iaddN dL_law_601 (by unfold inI; omega) ?_
  refine L_sld (by omega) (by omega) dL_law_602 ?_
  refine L_callV hq (mvX12_family _) kiX12_family kvX12_family kmL_61 rfl rfl (by decide) ⟨rfl, rfl, of_decide_eq_true rfl, hce, hsl⟩ (Nat.le_of_ble_eq_true rfl) dL_law_603 (fun v2 sh2 g2 z2 r2 hq2 => ?_)
  obtain ⟨rfl, rfl, hI2⟩ := hq2
  exact L_icmp_eq 1034 dL_law_606 (by decide) (fun _ => kk _ _ _ hI2) (fun h => absurd rfl h)
theorem lw_c11 (hce : ce ≤ 600000) (hsl : sl ≤ 7302250) (hL : Xs.1 ≤ 3072) (i : Nat) (hi : i + 6 ≤ Xs.1) (hI : IV g z r) (kk : ∀ g z r, IV g z r → RLw Xs (mLw nm) ce sl shW 1034 (lwL i) [] g z r) : RLw Xs (mLw nm) ce sl shW 611 (lwL i) [] g z r := by
  refine L_aload_n dL_law_611 rfl ?_
  refine L_aload_n dL_law_612 rfl ?_
  refine L_iload_n dL_law_613 rfl ?_
  refine L_iconst dL_law_614 rfl rfl ?_
  refine L_iaddN dL_law_615 (by unfold inI; omega) ?_
  refine L_sld (by omega) (by omega) dL_law_616 ?_
  refine L_aload_n dL_law_617 rfl ?_
  refine L_iload_n dL_law_618 rfl ?_
  refine L_iconst dL_law_619 rfl rfl ?_
  refine L_iaddN dL_law_620 (by unfold inI; omega) ?_
  refine L_sld (by omega) (by omega) dL_law_621 ?_
  refine L_callV (s_points (Xs.2 ((i : Int) + 1).toNat) (Xs.2 ((i : Int) + 2).toNat) g z r hI) (mvX11_points _) kiX11_points kvX11_points kmL_62 rfl rfl (by decide) ⟨rfl, rfl, of_decide_eq_true rfl, hce, hsl⟩ (Nat.le_of_ble_eq_true rfl) dL_law_622 (fun v1 sh1 g1 z1 r1 hq => ?_)
  obtain ⟨rfl, y, rfl, hq⟩ := hq
  refine L_aload_n dL_law_625 rfl ?_
  refine L_aload_n dL_law_626 rfl ?_
  refine L_iload_n dL_law_627 rfl ?_
  refine L_iconst dL_law_628 rfl rfl ?_
  refine L_iaddN dL_law_629 (by unfold inI; omega) ?_
  refine L_sld (by omega) (by omega) dL_law_630 ?_
  refine L_aload_n dL_law_631 rfl ?_
  refine L_iload_n dL_law_632 rfl ?_
  refine L_iconst dL_law_633 rfl rfl ?_
  refine L_iaddN dL_law_634 (by unfold inI; omega) ?_
  refine L_sld (by omega) (by omega) dL_law_635 ?_
  refine L_callV hq (mvX12_points _) kiX12_points kvX12_points kmL_65 rfl rfl (by decide) ⟨rfl, rfl, of_decide_eq_true rfl, hce, hsl⟩ (Nat.le_of_ble_eq_true rfl) dL_law_636 (fun v2 sh2 g2 z2 r2 hq2 => ?_)
  obtain ⟨rfl, rfl, hI2⟩ := hq2
  exact L_icmp_eq 1034 dL_law_639 (by decide) (fun _ => kk _ _ _ hI2) (fun h => absurd rfl h)
theorem lw_c12 (hce : ce ≤ 600000) (hsl : sl ≤ 7302250) (hL : Xs.1 ≤ 3072) (i : Nat) (hi : i + 6 ≤ Xs.1) (hI : IV g z r) (kk : ∀ g z r, IV g z r → RLw Xs (mLw nm) ce sl shW 1034 (lwL i) [] g z r) : RLw Xs (mLw nm) ce sl shW 644 (lwL i) [] g z r := by
  refine L_aload_n dL_law_644 rfl ?_
  refine L_aload_n dL_law_645 rfl ?_
  refine L_iload_n dL_law_646 rfl ?_
  refine L_iconst dL_law_647 rfl rfl ?_
  refine L_iaddN dL_law_648 (by unfold inI; omega) ?_
  refine L_sld (by omega) (by omega) dL_law_649 ?_
  refine L_aload_n dL_law_650 rfl ?_
  refine L_iload_n dL_law_651 rfl ?_
  refine L_iconst dL_law_652 rfl rfl ?_
  refine L_iaddN dL_law_653 (by unfold inI; omega) ?_
  refine L_sld (by omega) (by omega) dL_law_654 ?_
  refine L_aload_n dL_law_655 rfl ?_
  refine L_iload_n dL_law_656 rfl ?_
  refine L_iconst dL_law_657 rfl rfl ?_
  refine L_iaddN dL_law_658 (by unfold inI; omega) ?_
  refine L_sld (by omega) (by omega) dL_law_659 ?_
  refine L_callV (s_by (Xs.2 ((i : Int) + 1).toNat) (Xs.2 ((i : Int) + 2).toNat) (Xs.2 ((i : Int) + 3).toNat) g z r hI) (mvX11_by _) kiX11_by kvX11_by kmL_66 rfl rfl (by decide) ⟨rfl, rfl, of_decide_eq_true rfl, hce, hsl⟩ (Nat.le_of_ble_eq_true rfl) dL_law_660 (fun v1 sh1 g1 z1 r1 hq => ?_)
  obtain ⟨rfl, y, rfl, hq⟩ := hq
  refine L_aload_n dL_law_663 rfl ?_
  refine L_aload_n dL_law_664 rfl ?_
  refine L_iload_n dL_law_665 rfl ?_
  refine L_iconst dL_law_666 rfl rfl ?_
  refine L_iaddN dL_law_667 (by unfold inI; omega) ?_
  refine L_sld (by omega) (by omega) dL_law_668 ?_
  refine L_aload_n dL_law_669 rfl ?_
  refine L_iload_n dL_law_670 rfl ?_
  refine L_iconst dL_law_671 rfl rfl ?_
  refine L_iaddN dL_law_672 (by unfold inI; omega) ?_
  refine L_sld (by omega) (by omega) dL_law_673 ?_
  refine L_aload_n dL_law_674 rfl ?_
  refine L_iload_n dL_law_675 rfl ?_
  refine L_iconst dL_law_676 rfl rfl ?_
  refine L_iaddN dL_law_677 (by unfold inI; omega) ?_
  refine L_sld (by omega) (by omega) dL_law_678 ?_
  refine L_callV hq (mvX12_by _) kiX12_by kvX12_by kmL_70 rfl rfl (by decide) ⟨rfl, rfl, of_decide_eq_true rfl, hce, hsl⟩ (Nat.le_of_ble_eq_true rfl) dL_law_679 (fun v2 sh2 g2 z2 r2 hq2 => ?_)
  obtain ⟨rfl, rfl, hI2⟩ := hq2
  exact L_icmp_eq 1034 dL_law_682 (by decide) (fun _ => kk _ _ _ hI2) (fun h => absurd rfl h)
theorem lw_c13 (hce : ce ≤ 600000) (hsl : sl ≤ 7302250) (hL : Xs.1 ≤ 3072) (i : Nat) (hi : i + 6 ≤ Xs.1) (hI : IV g z r) (kk : ∀ g z r, IV g z r → RLw Xs (mLw nm) ce sl shW 1034 (lwL i) [] g z r) : RLw Xs (mLw nm) ce sl shW 687 (lwL i) [] g z r := by
  refine L_aload_n dL_law_687 rfl ?_
  refine L_aload_n dL_law_688 rfl ?_
  refine L_iload_n dL_law_689 rfl ?_
  refine L_iconst dL_law_690 rfl rfl ?_
  refine L_iaddN dL_law_691 (by unfold inI; omega) ?_
  refine L_sld (by omega) (by omega) dL_law_692 ?_
  refine L_aload_n dL_law_693 rfl ?_
  refine L_iload_n dL_law_694 rfl ?_
  refine L_iconst dL_law_695 rfl rfl ?_
  refine L_iaddN dL_law_696 (by unfold inI; omega) ?_
  refine L_sld (by omega) (by omega) dL_law_697 ?_
  refine L_aload_n dL_law_698 rfl ?_
  refine L_iload_n dL_law_699 rfl ?_
  refine L_iconst dL_law_700 rfl rfl ?_
  refine L_iaddN dL_law_701 (by unfold inI; omega) ?_
  refine L_sld (by omega) (by omega) dL_law_702 ?_
  refine L_callV (s_should (Xs.2 ((i : Int) + 1).toNat) (Xs.2 ((i : Int) + 2).toNat) (Xs.2 ((i : Int) + 3).toNat) g z r hI) (mvX11_should _) kiX11_should kvX11_should kmL_71 rfl rfl (by decide) ⟨rfl, rfl, of_decide_eq_true rfl, hce, hsl⟩ (Nat.le_of_ble_eq_true rfl) dL_law_703 (fun v1 sh1 g1 z1 r1 hq => ?_)
  obtain ⟨rfl, y, rfl, hq⟩ := hq
  refine L_aload_n dL_law_706 rfl ?_
  refine L_aload_n dL_law_707 rfl ?_
  refine L_iload_n dL_law_708 rfl ?_
  refine L_iconst dL_law_709 rfl rfl ?_
  refine L_iaddN dL_law_710 (by unfold inI; omega) ?_
  refine L_sld (by omega) (by omega) dL_law_711 ?_
  refine L_aload_n dL_law_712 rfl ?_
  refine L_iload_n dL_law_713 rfl ?_
  refine L_iconst dL_law_714 rfl rfl ?_
  refine L_iaddN dL_law_715 (by unfold inI; omega) ?_
  refine L_sld (by omega) (by omega) dL_law_716 ?_
  refine L_aload_n dL_law_717 rfl ?_
  refine L_iload_n dL_law_718 rfl ?_
  refine L_iconst dL_law_719 rfl rfl ?_
  refine L_iaddN dL_law_720 (by unfold inI; omega) ?_
  refine L_sld (by omega) (by omega) dL_law_721 ?_
  refine L_callV hq (mvX12_should _) kiX12_should kvX12_should kmL_74 rfl rfl (by decide) ⟨rfl, rfl, of_decide_eq_true rfl, hce, hsl⟩ (Nat.le_of_ble_eq_true rfl) dL_law_722 (fun v2 sh2 g2 z2 r2 hq2 => ?_)
  obtain ⟨rfl, rfl, hI2⟩ := hq2
  exact L_icmp_eq 1034 dL_law_725 (by decide) (fun _ => kk _ _ _ hI2) (fun h => absurd rfl h)
theorem lw_c14 (hce : ce ≤ 600000) (hsl : sl ≤ 7302250) (hL : Xs.1 ≤ 3072) (i : Nat) (hi : i + 6 ≤ Xs.1) (hI : IV g z r) (kk : ∀ g z r, IV g z r → RLw Xs (mLw nm) ce sl shW 1034 (lwL i) [] g z r) : RLw Xs (mLw nm) ce sl shW 730 (lwL i) [] g z r := by
  refine L_aload_n dL_law_730 rfl ?_
  refine L_aload_n dL_law_731 rfl ?_
  refine L_iload_n dL_law_732 rfl ?_
  refine L_iconst dL_law_733 rfl rfl ?_
  refine L_iaddN dL_law_734 (by unfold inI; omega) ?_
  refine L_sld (by omega) (by omega) dL_law_735 ?_
  refine L_callV (s_best (Xs.2 ((i : Int) + 1).toNat) g z r hI) (mvX11_best _) kiX11_best kvX11_best kmL_75 rfl rfl (by decide) ⟨rfl, rfl, of_decide_eq_true rfl, hce, hsl⟩ (Nat.le_of_ble_eq_true rfl) dL_law_736 (fun v1 sh1 g1 z1 r1 hq => ?_)
  obtain ⟨rfl, y, rfl, hq⟩ := hq
  refine L_aload_n dL_law_739 rfl ?_
  refine L_aload_n dL_law_740 rfl ?_
  refine L_iload_n dL_law_741 rfl ?_
  refine L_iconst dL_law_742 rfl rfl ?_
  refine L_iaddN dL_law_743 (by unfold inI; omega) ?_
  refine L_sld (by omega) (by omega) dL_law_744 ?_
  refine L_callV hq (mvX12_best _) kiX12_best kvX12_best kmL_79 rfl rfl (by decide) ⟨rfl, rfl, of_decide_eq_true rfl, hce, hsl⟩ (Nat.le_of_ble_eq_true rfl) dL_law_745 (fun v2 sh2 g2 z2 r2 hq2 => ?_)
  obtain ⟨rfl, rfl, hI2⟩ := hq2
  exact L_icmp_eq 1034 dL_law_748 (by decide) (fun _ => kk _ _ _ hI2) (fun h => absurd rfl h)
theorem lw_c15 (hce : ce ≤ 600000) (hsl : sl ≤ 7302250) (hL : Xs.1 ≤ 3072) (i : Nat) (hi : i + 6 ≤ Xs.1) (hI : IV g z r) (kk : ∀ g z r, IV g z r → RLw Xs (mLw nm) ce sl shW 1034 (lwL i) [] g z r) : RLw Xs (mLw nm) ce sl shW 753 (lwL i) [] g z r := by
  refine L_aload_n dL_law_753 rfl ?_
  refine L_aload_n dL_law_754 rfl ?_
  refine L_iload_n dL_law_755 rfl ?_
  refine L_iconst dL_law_756 rfl rfl ?_
  refine L_iaddN dL_law_757 (by unfold inI; omega) ?_
  refine L_sld (by omega) (by omega) dL_law_758 ?_
  refine L_callV (s_ways (Xs.2 ((i : Int) + 1).toNat) g z r hI) (mvX11_ways _) kiX11_ways kvX11_ways kmL_80 rfl rfl (by decide) ⟨rfl, rfl, of_decide_eq_true rfl, hce, hsl⟩ (Nat.le_of_ble_eq_true rfl) dL_law_759 (fun v1 sh1 g1 z1 r1 hq => ?_)
  obtain ⟨rfl, y, rfl, hq⟩ := hq
  refine L_aload_n dL_law_762 rfl ?_
  refine L_aload_n dL_law_763 rfl ?_
  refine L_iload_n dL_law_764 rfl ?_
  refine L_iconst dL_law_765 rfl rfl ?_
  refine L_iaddN dL_law_766 (by unfold inI; omega) ?_
  refine L_sld (by omega) (by omega) dL_law_767 ?_
  refine L_callV hq (mvX12_ways _) kiX12_ways kvX12_ways kmL_84 rfl rfl (by decide) ⟨rfl, rfl, of_decide_eq_true rfl, hce, hsl⟩ (Nat.le_of_ble_eq_true rfl) dL_law_768 (fun v2 sh2 g2 z2 r2 hq2 => ?_)
  obtain ⟨rfl, rfl, hI2⟩ := hq2
  refine L_lcmp dL_law_771 ?_
  exact L_if_eq 1034 dL_law_772 (by decide) (fun _ => kk _ _ _ hI2) (fun h => absurd (lcm_s _) h)
theorem lw_c16 (hce : ce ≤ 600000) (hsl : sl ≤ 7302250) (hL : Xs.1 ≤ 3072) (i : Nat) (hi : i + 6 ≤ Xs.1) (hI : IV g z r) (kk : ∀ g z r, IV g z r → RLw Xs (mLw nm) ce sl shW 1034 (lwL i) [] g z r) : RLw Xs (mLw nm) ce sl shW 777 (lwL i) [] g z r := by
  refine L_aload_n dL_law_777 rfl ?_
  refine L_aload_n dL_law_778 rfl ?_
  refine L_iload_n dL_law_779 rfl ?_
  refine L_iconst dL_law_780 rfl rfl ?_
  refine L_iaddN dL_law_781 (by unfold inI; omega) ?_
  refine L_sld (by omega) (by omega) dL_law_782 ?_
  refine L_aload_n dL_law_783 rfl ?_
  refine L_iload_n dL_law_784 rfl ?_
  refine L_iconst dL_law_785 rfl rfl ?_
  refine L_iaddN dL_law_786 (by unfold inI; omega) ?_
  refine L_sld (by omega) (by omega) dL_law_787 ?_
  refine L_callV (s_sure (Xs.2 ((i : Int) + 1).toNat) (Xs.2 ((i : Int) + 2).toNat) g z r hI) (mvX11_sure _) kiX11_sure kvX11_sure kmL_85 rfl rfl (by decide) ⟨rfl, rfl, of_decide_eq_true rfl, hce, hsl⟩ (Nat.le_of_ble_eq_true rfl) dL_law_788 (fun v1 sh1 g1 z1 r1 hq => ?_)
  obtain ⟨rfl, y, rfl, hq⟩ := hq
  refine L_aload_n dL_law_791 rfl ?_
  refine L_aload_n dL_law_792 rfl ?_
  refine L_iload_n dL_law_793 rfl ?_
  refine L_iconst dL_law_794 rfl rfl ?_
  refine L_iaddN dL_law_795 (by unfold inI; omega) ?_
  refine L_sld (by omega) (by omega) dL_law_796 ?_
  refine L_aload_n dL_law_797 rfl ?_
  refine L_iload_n dL_law_798 rfl ?_
  refine L_iconst dL_law_799 rfl rfl ?_
  refine L_iaddN dL_law_800 (by unfold inI; omega) ?_
  refine L_sld (by omega) (by omega) dL_law_801 ?_
  refine L_callV hq (mvX12_sure _) kiX12_sure kvX12_sure kmL_88 rfl rfl (by decide) ⟨rfl, rfl, of_decide_eq_true rfl, hce, hsl⟩ (Nat.le_of_ble_eq_true rfl) dL_law_802 (fun v2 sh2 g2 z2 r2 hq2 => ?_)
  obtain ⟨rfl, rfl, hI2⟩ := hq2
  exact L_icmp_eq 1034 dL_law_805 (by decide) (fun _ => kk _ _ _ hI2) (fun h => absurd rfl h)
theorem lw_c17 (hce : ce ≤ 600000) (hsl : sl ≤ 7302250) (hL : Xs.1 ≤ 3072) (i : Nat) (hi : i + 6 ≤ Xs.1) (hI : IV g z r) (kk : ∀ g z r, IV g z r → RLw Xs (mLw nm) ce sl shW 1034 (lwL i) [] g z r) : RLw Xs (mLw nm) ce sl shW 810 (lwL i) [] g z r := by
  refine L_aload_n dL_law_810 rfl ?_
  refine L_aload_n dL_law_811 rfl ?_
  refine L_iload_n dL_law_812 rfl ?_
  refine L_iconst dL_law_813 rfl rfl ?_
  refine L_iaddN dL_law_814 (by unfold inI; omega) ?_
  refine L_sld (by omega) (by omega) dL_law_815 ?_
  refine L_aload_n dL_law_816 rfl ?_
  refine L_iload_n dL_law_817 rfl ?_
  refine L_iconst dL_law_818 rfl rfl ?_
  refine L_iaddN dL_law_819 (by unfold inI; omega) ?_
  refine L_sld (by omega) (by omega) dL_law_820 ?_
  refine L_callV (s_grand (Xs.2 ((i : Int) + 1).toNat) (Xs.2 ((i : Int) + 2).toNat) g z r hI) (mvX11_grand _) kiX11_grand kvX11_grand kmL_89 rfl rfl (by decide) ⟨rfl, rfl, of_decide_eq_true rfl, hce, hsl⟩ (Nat.le_of_ble_eq_true rfl) dL_law_821 (fun v1 sh1 g1 z1 r1 hq => ?_)
  obtain ⟨rfl, y, rfl, hq⟩ := hq
  refine L_aload_n dL_law_824 rfl ?_
  refine L_aload_n dL_law_825 rfl ?_
  refine L_iload_n dL_law_826 rfl ?_
  refine L_iconst dL_law_827 rfl rfl ?_
  refine L_iaddN dL_law_828 (by unfold inI; omega) ?_
  refine L_sld (by omega) (by omega) dL_law_829 ?_
  refine L_aload_n dL_law_830 rfl ?_
  refine L_iload_n dL_law_831 rfl ?_
  refine L_iconst dL_law_832 rfl rfl ?_
  refine L_iaddN dL_law_833 (by unfold inI; omega) ?_
  refine L_sld (by omega) (by omega) dL_law_834 ?_
  refine L_callV hq (mvX12_grand _) kiX12_grand kvX12_grand kmL_92 rfl rfl (by decide) ⟨rfl, rfl, of_decide_eq_true rfl, hce, hsl⟩ (Nat.le_of_ble_eq_true rfl) dL_law_835 (fun v2 sh2 g2 z2 r2 hq2 => ?_)
  obtain ⟨rfl, rfl, hI2⟩ := hq2
  exact L_icmp_eq 1034 dL_law_838 (by decide) (fun _ => kk _ _ _ hI2) (fun h => absurd rfl h)
theorem lw_c18 (hce : ce ≤ 600000) (hsl : sl ≤ 7302250) (hL : Xs.1 ≤ 3072) (i : Nat) (hi : i + 6 ≤ Xs.1) (hI : IV g z r) (kk : ∀ g z r, IV g z r → RLw Xs (mLw nm) ce sl shW 1034 (lwL i) [] g z r) : RLw Xs (mLw nm) ce sl shW 843 (lwL i) [] g z r := by
  refine L_aload_n dL_law_843 rfl ?_
  refine L_aload_n dL_law_844 rfl ?_
  refine L_iload_n dL_law_845 rfl ?_
  refine L_iconst dL_law_846 rfl rfl ?_
  refine L_iaddN dL_law_847 (by unfold inI; omega) ?_
  refine L_sld (by omega) (by omega) dL_law_848 ?_
  refine L_aload_n dL_law_849 rfl ?_
  refine L_iload_n dL_law_850 rfl ?_
  refine L_iconst dL_law_851 rfl rfl ?_
  refine L_iaddN dL_law_852 (by unfold inI; omega) ?_
  refine L_sld (by omega) (by omega) dL_law_853 ?_
  refine L_aload_n dL_law_854 rfl ?_
  refine L_iload_n dL_law_855 rfl ?_
  refine L_iconst dL_law_856 rfl rfl ?_
  refine L_iaddN dL_law_857 (by unfold inI; omega) ?_
  refine L_sld (by omega) (by omega) dL_law_858 ?_
  refine L_callV (s_must (Xs.2 ((i : Int) + 1).toNat) (Xs.2 ((i : Int) + 2).toNat) (Xs.2 ((i : Int) + 3).toNat) g z r hI) (mvX11_must _) kiX11_must kvX11_must kmL_93 rfl rfl (by decide) ⟨rfl, rfl, of_decide_eq_true rfl, hce, hsl⟩ (Nat.le_of_ble_eq_true rfl) dL_law_859 (fun v1 sh1 g1 z1 r1 hq => ?_)
  obtain ⟨rfl, y, rfl, hq⟩ := hq
  refine L_aload_n dL_law_862 rfl ?_
  refine L_aload_n dL_law_863 rfl ?_
  refine L_iload_n dL_law_864 rfl ?_
  refine L_iconst dL_law_865 rfl rfl ?_
  refine L_iaddN dL_law_866 (by unfold inI; omega) ?_
  refine L_sld (by omega) (by omega) dL_law_867 ?_
  refine L_aload_n dL_law_868 rfl ?_
  refine L_iload_n dL_law_869 rfl ?_
  refine L_iconst dL_law_870 rfl rfl ?_
  refine L_iaddN dL_law_871 (by unfold inI; omega) ?_
  refine L_sld (by omega) (by omega) dL_law_872 ?_
  refine L_aload_n dL_law_873 rfl ?_
  refine L_iload_n dL_law_874 rfl ?_
  refine L_iconst dL_law_875 rfl rfl ?_
  refine L_iaddN dL_law_876 (by unfold inI; omega) ?_
  refine L_sld (by omega) (by omega) dL_law_877 ?_
  refine L_callV hq (mvX12_must _) kiX12_must kvX12_must kmL_96 rfl rfl (by decide) ⟨rfl, rfl, of_decide_eq_true rfl, hce, hsl⟩ (Nat.le_of_ble_eq_true rfl) dL_law_878 (fun v2 sh2 g2 z2 r2 hq2 => ?_)
  obtain ⟨rfl, rfl, hI2⟩ := hq2
  exact L_icmp_eq 1034 dL_law_881 (by decide) (fun _ => kk _ _ _ hI2) (fun h => absurd rfl h)
theorem lw_c19 (hce : ce ≤ 600000) (hsl : sl ≤ 7302250) (hL : Xs.1 ≤ 3072) (i : Nat) (hi : i + 6 ≤ Xs.1) (hI : IV g z r) (kk : ∀ g z r, IV g z r → RLw Xs (mLw nm) ce sl shW 1034 (lwL i) [] g z r) : RLw Xs (mLw nm) ce sl shW 886 (lwL i) [] g z r := by
  refine L_aload_n dL_law_886 rfl ?_
  refine L_callV (s_judge  g z r hI) (mvX11_judge _) kiX11_judge kvX11_judge kmL_97 rfl rfl (by decide) ⟨rfl, rfl, of_decide_eq_true rfl, hce, hsl⟩ (Nat.le_of_ble_eq_true rfl) dL_law_887 (fun v1 sh1 g1 z1 r1 hq => ?_)
  obtain ⟨rfl, y, rfl, hq⟩ := hq
  refine L_aload_n dL_law_890 rfl ?_
  refine L_callV hq (mvX12_judge _) kiX12_judge kvX12_judge kmL_101 rfl rfl (by decide) ⟨rfl, rfl, of_decide_eq_true rfl, hce, hsl⟩ (Nat.le_of_ble_eq_true rfl) dL_law_891 (fun v2 sh2 g2 z2 r2 hq2 => ?_)
  obtain ⟨rfl, rfl, hI2⟩ := hq2
  exact L_icmp_eq 1034 dL_law_894 (by decide) (fun _ => kk _ _ _ hI2) (fun h => absurd rfl h)
theorem lw_c20 (hce : ce ≤ 600000) (hsl : sl ≤ 7302250) (hL : Xs.1 ≤ 3072) (i : Nat) (hi : i + 6 ≤ Xs.1) (hI : IV g z r) (kk : ∀ g z r, IV g z r → RLw Xs (mLw nm) ce sl shW 1034 (lwL i) [] g z r) : RLw Xs (mLw nm) ce sl shW 899 (lwL i) [] g z r := by
  refine L_aload_n dL_law_899 rfl ?_
  refine L_aload_n dL_law_900 rfl ?_
  refine L_iload_n dL_law_901 rfl ?_
  refine L_iconst dL_law_902 rfl rfl ?_
  refine L_iaddN dL_law_903 (by unfold inI; omega) ?_
  refine L_sld (by omega) (by omega) dL_law_904 ?_
  refine L_aload_n dL_law_905 rfl ?_
  refine L_iload_n dL_law_906 rfl ?_
  refine L_iconst dL_law_907 rfl rfl ?_
  refine L_iaddN dL_law_908 (by unfold inI; omega) ?_
  refine L_sld (by omega) (by omega) dL_law_909 ?_
  refine L_aload_n dL_law_910 rfl ?_
  refine L_iload_n dL_law_911 rfl ?_
  refine L_iconst dL_law_912 rfl rfl ?_
  refine L_iaddN dL_law_913 (by unfold inI; omega) ?_
  refine L_sld (by omega) (by omega) dL_law_914 ?_
  refine L_callV (s_learnt (Xs.2 ((i : Int) + 1).toNat) (Xs.2 ((i : Int) + 2).toNat) (Xs.2 ((i : Int) + 3).toNat) g z r hI) (mvX11_learnt _) kiX11_learnt kvX11_learnt kmL_102 rfl rfl (by decide) ⟨rfl, rfl, of_decide_eq_true rfl, hce, hsl⟩ (Nat.le_of_ble_eq_true rfl) dL_law_915 (fun v1 sh1 g1 z1 r1 hq => ?_)
  obtain ⟨rfl, y, rfl, hq⟩ := hq
  refine L_aload_n dL_law_918 rfl ?_
  refine L_aload_n dL_law_919 rfl ?_
  refine L_iload_n dL_law_920 rfl ?_
  refine L_iconst dL_law_921 rfl rfl ?_
  refine L_iaddN dL_law_922 (by unfold inI; omega) ?_
  refine L_sld (by omega) (by omega) dL_law_923 ?_
  refine L_aload_n dL_law_924 rfl ?_
  refine L_iload_n dL_law_925 rfl ?_
  refine L_iconst dL_law_926 rfl rfl ?_
  refine L_iaddN dL_law_927 (by unfold inI; omega) ?_
  refine L_sld (by omega) (by omega) dL_law_928 ?_
  refine L_aload_n dL_law_929 rfl ?_
  refine L_iload_n dL_law_930 rfl ?_
  refine L_iconst dL_law_931 rfl rfl ?_
  refine L_iaddN dL_law_932 (by unfold inI; omega) ?_
  refine L_sld (by omega) (by omega) dL_law_933 ?_
  refine L_callV hq (mvX12_learnt _) kiX12_learnt kvX12_learnt kmL_105 rfl rfl (by decide) ⟨rfl, rfl, of_decide_eq_true rfl, hce, hsl⟩ (Nat.le_of_ble_eq_true rfl) dL_law_934 (fun v2 sh2 g2 z2 r2 hq2 => ?_)
  obtain ⟨rfl, rfl, hI2⟩ := hq2
  exact L_icmp_eq 1034 dL_law_937 (by decide) (fun _ => kk _ _ _ hI2) (fun h => absurd rfl h)
theorem lw_c21 (hce : ce ≤ 600000) (hsl : sl ≤ 7302250) (hL : Xs.1 ≤ 3072) (i : Nat) (hi : i + 6 ≤ Xs.1) (hI : IV g z r) (kk : ∀ g z r, IV g z r → RLw Xs (mLw nm) ce sl shW 1034 (lwL i) [] g z r) : RLw Xs (mLw nm) ce sl shW 942 (lwL i) [] g z r := by
  refine L_aload_n dL_law_942 rfl ?_
  refine L_aload_n dL_law_943 rfl ?_
  refine L_iload_n dL_law_944 rfl ?_
  refine L_iconst dL_law_945 rfl rfl ?_
  refine L_iaddN dL_law_946 (by unfold inI; omega) ?_
  refine L_sld (by omega) (by omega) dL_law_947 ?_
  refine L_callV (s_little (Xs.2 ((i : Int) + 1).toNat) g z r hI) (mvX11_little _) kiX11_little kvX11_little kmL_106 rfl rfl (by decide) ⟨rfl, rfl, of_decide_eq_true rfl, hce, hsl⟩ (Nat.le_of_ble_eq_true rfl) dL_law_948 (fun v1 sh1 g1 z1 r1 hq => ?_)
  obtain ⟨rfl, y, rfl, hq⟩ := hq
  refine L_aload_n dL_law_951 rfl ?_
  refine L_aload_n dL_law_952 rfl ?_
  refine L_iload_n dL_law_953 rfl ?_
  refine L_iconst dL_law_954 rfl rfl ?_
  refine L_iaddN dL_law_955 (by unfold inI; omega) ?_
  refine L_sld (by omega) (by omega) dL_law_956 ?_
  refine L_callV hq (mvX12_little _) kiX12_little kvX12_little kmL_109 rfl rfl (by decide) ⟨rfl, rfl, of_decide_eq_true rfl, hce, hsl⟩ (Nat.le_of_ble_eq_true rfl) dL_law_957 (fun v2 sh2 g2 z2 r2 hq2 => ?_)
  obtain ⟨rfl, rfl, hI2⟩ := hq2
  exact L_icmp_eq 1034 dL_law_960 (by decide) (fun _ => kk _ _ _ hI2) (fun h => absurd rfl h)
theorem lw_c22 (hce : ce ≤ 600000) (hsl : sl ≤ 7302250) (hL : Xs.1 ≤ 3072) (i : Nat) (hi : i + 6 ≤ Xs.1) (hI : IV g z r) (kk : ∀ g z r, IV g z r → RLw Xs (mLw nm) ce sl shW 1034 (lwL i) [] g z r) : RLw Xs (mLw nm) ce sl shW 965 (lwL i) [] g z r := by
  refine L_aload_n dL_law_965 rfl ?_
  refine L_callV (s_check  g z r hI) (mvX11_check _) kiX11_check kvX11_check kmL_110 rfl rfl (by decide) ⟨rfl, rfl, of_decide_eq_true rfl, hce, hsl⟩ (Nat.le_of_ble_eq_true rfl) dL_law_966 (fun v1 sh1 g1 z1 r1 hq => ?_)
  obtain ⟨rfl, y, rfl, hq⟩ := hq
  refine L_aload_n dL_law_969 rfl ?_
  refine L_callV hq (mvX12_check _) kiX12_check kvX12_check kmL_113 rfl rfl (by decide) ⟨rfl, rfl, of_decide_eq_true rfl, hce, hsl⟩ (Nat.le_of_ble_eq_true rfl) dL_law_970 (fun v2 sh2 g2 z2 r2 hq2 => ?_)
  obtain ⟨rfl, rfl, hI2⟩ := hq2
  exact L_icmp_eq 1034 dL_law_973 (by decide) (fun _ => kk _ _ _ hI2) (fun h => absurd rfl h)
theorem lw_c23 (hce : ce ≤ 600000) (hsl : sl ≤ 7302250) (hL : Xs.1 ≤ 3072) (i : Nat) (hi : i + 6 ≤ Xs.1) (hI : IV g z r) (kk : ∀ g z r, IV g z r → RLw Xs (mLw nm) ce sl shW 1034 (lwL i) [] g z r) : RLw Xs (mLw nm) ce sl shW 978 (lwL i) [] g z r := by
  refine L_aload_n dL_law_978 rfl ?_
  refine L_aload_n dL_law_979 rfl ?_
  refine L_iload_n dL_law_980 rfl ?_
  refine L_iconst dL_law_981 rfl rfl ?_
  refine L_iaddN dL_law_982 (by unfold inI; omega) ?_
  refine L_sld (by omega) (by omega) dL_law_983 ?_
  refine L_aload_n dL_law_984 rfl ?_
  refine L_iload_n dL_law_985 rfl ?_
  refine L_iconst dL_law_986 rfl rfl ?_
  refine L_iaddN dL_law_987 (by unfold inI; omega) ?_
  refine L_sld (by omega) (by omega) dL_law_988 ?_
  refine L_callV (s_look (Xs.2 ((i : Int) + 1).toNat) (Xs.2 ((i : Int) + 2).toNat) g z r hI) (mvX11_look _) kiX11_look kvX11_look kmL_114 rfl rfl (by decide) ⟨rfl, rfl, of_decide_eq_true rfl, hce, hsl⟩ (Nat.le_of_ble_eq_true rfl) dL_law_989 (fun v1 sh1 g1 z1 r1 hq => ?_)
  obtain ⟨rfl, y, rfl, hq⟩ := hq
  refine L_aload_n dL_law_992 rfl ?_
  refine L_aload_n dL_law_993 rfl ?_
  refine L_iload_n dL_law_994 rfl ?_
  refine L_iconst dL_law_995 rfl rfl ?_
  refine L_iaddN dL_law_996 (by unfold inI; omega) ?_
  refine L_sld (by omega) (by omega) dL_law_997 ?_
  refine L_aload_n dL_law_998 rfl ?_
  refine L_iload_n dL_law_999 rfl ?_
  refine L_iconst dL_law_1000 rfl rfl ?_
  refine L_iaddN dL_law_1001 (by unfold inI; omega) ?_
  refine L_sld (by omega) (by omega) dL_law_1002 ?_
  refine L_callV hq (mvX12_look _) kiX12_look kvX12_look kmL_117 rfl rfl (by decide) ⟨rfl, rfl, of_decide_eq_true rfl, hce, hsl⟩ (Nat.le_of_ble_eq_true rfl) dL_law_1003 (fun v2 sh2 g2 z2 r2 hq2 => ?_)
  obtain ⟨rfl, rfl, hI2⟩ := hq2
  exact L_icmp_eq 1034 dL_law_1006 (by decide) (fun _ => kk _ _ _ hI2) (fun h => absurd rfl h)
theorem lw_c24 (hce : ce ≤ 600000) (hsl : sl ≤ 7302250) (hL : Xs.1 ≤ 3072) (i : Nat) (hi : i + 6 ≤ Xs.1) (hI : IV g z r) (kk : ∀ g z r, IV g z r → RLw Xs (mLw nm) ce sl shW 1034 (lwL i) [] g z r) : RLw Xs (mLw nm) ce sl shW 1011 (lwL i) [] g z r := by
  refine L_aload_n dL_law_1011 rfl ?_
  refine L_aload_n dL_law_1012 rfl ?_
  refine L_iload_n dL_law_1013 rfl ?_
  refine L_iconst dL_law_1014 rfl rfl ?_
  refine L_iaddN dL_law_1015 (by unfold inI; omega) ?_
  refine L_sld (by omega) (by omega) dL_law_1016 ?_
  refine L_callV (s_count (Xs.2 ((i : Int) + 1).toNat) g z r hI) (mvX11_count _) kiX11_count kvX11_count kmL_118 rfl rfl (by decide) ⟨rfl, rfl, of_decide_eq_true rfl, hce, hsl⟩ (Nat.le_of_ble_eq_true rfl) dL_law_1017 (fun v1 sh1 g1 z1 r1 hq => ?_)
  obtain ⟨rfl, y, rfl, hq⟩ := hq
  refine L_aload_n dL_law_1020 rfl ?_
  refine L_aload_n dL_law_1021 rfl ?_
  refine L_iload_n dL_law_1022 rfl ?_
  refine L_iconst dL_law_1023 rfl rfl ?_
  refine L_iaddN dL_law_1024 (by unfold inI; omega) ?_
  refine L_sld (by omega) (by omega) dL_law_1025 ?_
  refine L_callV hq (mvX12_count _) kiX12_count kvX12_count kmL_121 rfl rfl (by decide) ⟨rfl, rfl, of_decide_eq_true rfl, hce, hsl⟩ (Nat.le_of_ble_eq_true rfl) dL_law_1026 (fun v2 sh2 g2 z2 r2 hq2 => ?_)
  obtain ⟨rfl, rfl, hI2⟩ := hq2
  exact L_icmp_eq 1034 dL_law_1029 (by decide) (fun _ => kk _ _ _ hI2) (fun h => absurd rfl h)
theorem lw_loop (hce : ce ≤ 600000) (hsl : sl ≤ 7302250) (hL : Xs.1 ≤ 3072) : ∀ (f i : Nat) (g z : GG) (r : RR), Xs.1 ≤ i + f → i ≤ 4000 → IV g z r → RLw Xs (mLw nm) ce sl shW 18 (lwL i) [] g z r := by
  intro f
  induction f with
  | zero =>
    intro i g z r hf hi4 hI
    refine L_iload_n dL_law_18 rfl ?_
    refine L_aload_n dL_law_19 rfl ?_
    refine L_slen dL_law_20 ?_
    refine L_bipush dL_law_21 rfl (by decide +kernel) ?_
    refine L_isubN dL_law_23 (by unfold inI; omega) ?_
    refine L_icmp_gt 1040 dL_law_24 (by decide) (fun h => ?_) (fun h => absurd h (by omega))
    refine L_iconst dL_law_1040 rfl rfl ?_
    exact L_ret1 rfl rfl rfl hce hsl dL_law_1041
  | succ f ih =>
    intro i g z r hf hi4 hI
    refine L_iload_n dL_law_18 rfl ?_
    refine L_aload_n dL_law_19 rfl ?_
    refine L_slen dL_law_20 ?_
    refine L_bipush dL_law_21 rfl (by decide +kernel) ?_
    refine L_isubN dL_law_23 (by unfold inI; omega) ?_
    refine L_icmp_gt 1040 dL_law_24 (by decide) (fun h => ?_) (fun h => ?_)
    · refine L_iconst dL_law_1040 rfl rfl ?_
      exact L_ret1 rfl rfl rfl hce hsl dL_law_1041
    · have hi : i + 6 ≤ Xs.1 := by omega
      have kk : ∀ g z r, IV g z r → RLw Xs (mLw nm) ce sl shW 1034 (lwL i) [] g z r := by
        intro g z r hI
        refine L_iincN dL_law_1034 rfl (of_decide_eq_true rfl) rfl (by unfold inI; omega) (lwL (i + 6)) rfl ?_
        refine L_goto 18 dL_law_1037 (by decide) ?_
        exact ih (i + 6) g z r (by omega) (by omega) hI
      refine L_aload_n dL_law_27 rfl ?_
      refine L_iload_n dL_law_28 rfl ?_
      refine L_sld (by omega) (by omega) dL_law_29 ?_
      refine L_bipush dL_law_30 rfl (by decide +kernel) ?_
      refine L_iand dL_law_32 ?_
      refine L_ts [148, 181, 234, 277, 340, 373, 406, 469, 502, 545, 578, 611, 644, 687, 730, 753, 777, 810, 843, 886, 899, 942, 965, 978, 1011] 1034 dL_law_33 (by decide) (by decide) (by decide) (fun j t ht ha => ?_) (fun hc => kk g z r hI)
      match j, ht with
      | 0, ht => cases ht; exact lw_c0 hce hsl hL i hi hI kk
      | 1, ht => cases ht; exact lw_c1 hce hsl hL i hi hI kk
      | 2, ht => cases ht; exact lw_c2 hce hsl hL i hi hI kk
      | 3, ht => cases ht; exact lw_c3 hce hsl hL i hi hI kk
      | 4, ht => cases ht; exact lw_c4 hce hsl hL i hi hI kk
      | 5, ht => cases ht; exact lw_c5 hce hsl hL i hi hI kk
      | 6, ht => cases ht; exact lw_c6 hce hsl hL i hi hI kk
      | 7, ht => cases ht; exact lw_c7 hce hsl hL i hi hI kk
      | 8, ht => cases ht; exact lw_c8 hce hsl hL i hi hI kk
      | 9, ht => cases ht; exact lw_c9 hce hsl hL i hi hI kk
      | 10, ht => cases ht; exact lw_c10 hce hsl hL i hi hI kk
      | 11, ht => cases ht; exact lw_c11 hce hsl hL i hi hI kk
      | 12, ht => cases ht; exact lw_c12 hce hsl hL i hi hI kk
      | 13, ht => cases ht; exact lw_c13 hce hsl hL i hi hI kk
      | 14, ht => cases ht; exact lw_c14 hce hsl hL i hi hI kk
      | 15, ht => cases ht; exact lw_c15 hce hsl hL i hi hI kk
      | 16, ht => cases ht; exact lw_c16 hce hsl hL i hi hI kk
      | 17, ht => cases ht; exact lw_c17 hce hsl hL i hi hI kk
      | 18, ht => cases ht; exact lw_c18 hce hsl hL i hi hI kk
      | 19, ht => cases ht; exact lw_c19 hce hsl hL i hi hI kk
      | 20, ht => cases ht; exact lw_c20 hce hsl hL i hi hI kk
      | 21, ht => cases ht; exact lw_c21 hce hsl hL i hi hI kk
      | 22, ht => cases ht; exact lw_c22 hce hsl hL i hi hI kk
      | 23, ht => cases ht; exact lw_c23 hce hsl hL i hi hI kk
      | 24, ht => cases ht; exact lw_c24 hce hsl hL i hi hI kk
      | n + 25, ht => exact absurd (List.getElem?_eq_some_iff.mp ht).1 (by simp)
end LOOP
