theorem lc_status {n i : Nat} {xs : Nat → Int32} {σ τ : tSt} (hin : i + 6 ≤ n) (hn : n ≤ 3072) (he : aX σ = aM τ) (hI : inv (aX σ)) (hz : aw0 σ) (kk : ∀ σ' τ', aX σ' = aM τ' → inv (aX σ') → aw0 σ' → LT n xs 950 [.ref 0, .ref 1, .ref 2, .int (nI i)] [] σ' τ') : LT n xs 152 [.ref 0, .ref 1, .ref 2, .int (nI i)] [] σ τ := by
  refine lr_aload_n eL_152 rfl ?_
  refine lr_callX (as := []) (st := []) eL_153 zv_X6_status zi_X6_status (tWD_i 358 (by decide +kernel) (by decide +kernel)) rfl (by decide) (by decide) rfl rfl rfl (by simp) rfl (u_X_status hI hz) (fun r ω hq => ?_)
  obtain ⟨rfl, hx, hz2⟩ := hq
  refine lr_aload_n eL_156 rfl ?_
  refine lr_callM (as := []) (st := [_]) eL_157 zv_X7_status zi_X7_status (tWD_i 918 (by decide +kernel) (by decide +kernel)) rfl (by decide) (by decide) rfl rfl rfl (by simp) rfl (u_M_status (he ▸ hI)) (fun r ω2 hq => ?_)
  obtain ⟨rfl, hm⟩ := hq
  exact lr_icmp_eq eL_160 (fun _ => kk ω ω2 (by rw [hx, hm, he]) (by rw [hx]; exact u_I_status hI) hz2) (fun h => absurd (by rw [he]) h)
theorem lc_reason {n i : Nat} {xs : Nat → Int32} {σ τ : tSt} (hin : i + 6 ≤ n) (hn : n ≤ 3072) (he : aX σ = aM τ) (hI : inv (aX σ)) (hz : aw0 σ) (kk : ∀ σ' τ', aX σ' = aM τ' → inv (aX σ') → aw0 σ' → LT n xs 950 [.ref 0, .ref 1, .ref 2, .int (nI i)] [] σ' τ') : LT n xs 165 [.ref 0, .ref 1, .ref 2, .int (nI i)] [] σ τ := by
  refine lr_aload_n eL_165 rfl ?_
  refine lr_aload_n eL_166 rfl ?_
  refine lr_iload_n eL_167 rfl ?_
  refine lr_iconst eL_168 (nI 1) (by decide) ?_
  refine lr_iadd eL_169 ?_
  rw [nI_add]
  refine lr_sld eL_170 (vp_in_nI (by omega) (by omega)) ?_
  refine lr_callX (as := [.int (xs (tn (nI (i + 1))))]) (st := []) eL_171 zv_X6_reason zi_X6_reason (tWD_i 362 (by decide +kernel) (by decide +kernel)) rfl (by decide) (by decide) rfl rfl rfl (by simp) rfl (u_X_reason hI hz) (fun r ω hq => ?_)
  obtain ⟨rfl, hx, hz2⟩ := hq
  refine lr_aload_n eL_174 rfl ?_
  refine lr_aload_n eL_175 rfl ?_
  refine lr_iload_n eL_176 rfl ?_
  refine lr_iconst eL_177 (nI 1) (by decide) ?_
  refine lr_iadd eL_178 ?_
  rw [nI_add]
  refine lr_sld eL_179 (vp_in_nI (by omega) (by omega)) ?_
  refine lr_callM (as := [.int (xs (tn (nI (i + 1))))]) (st := [_]) eL_180 zv_X7_reason zi_X7_reason (tWD_i 922 (by decide +kernel) (by decide +kernel)) rfl (by decide) (by decide) rfl rfl rfl (by simp) rfl (u_M_reason (he ▸ hI)) (fun r ω2 hq => ?_)
  obtain ⟨rfl, hm⟩ := hq
  exact lr_icmp_eq eL_183 (fun _ => kk ω ω2 (by rw [hx, hm, he]) (by rw [hx]; exact u_I_reason hI) hz2) (fun h => absurd (by rw [he]) h)
theorem lc_stand {n i : Nat} {xs : Nat → Int32} {σ τ : tSt} (hin : i + 6 ≤ n) (hn : n ≤ 3072) (he : aX σ = aM τ) (hI : inv (aX σ)) (hz : aw0 σ) (kk : ∀ σ' τ', aX σ' = aM τ' → inv (aX σ') → aw0 σ' → LT n xs 950 [.ref 0, .ref 1, .ref 2, .int (nI i)] [] σ' τ') : LT n xs 188 [.ref 0, .ref 1, .ref 2, .int (nI i)] [] σ τ := by
  refine lr_aload_n eL_188 rfl ?_
  refine lr_aload_n eL_189 rfl ?_
  refine lr_iload_n eL_190 rfl ?_
  refine lr_iconst eL_191 (nI 1) (by decide) ?_
  refine lr_iadd eL_192 ?_
  rw [nI_add]
  refine lr_sld eL_193 (vp_in_nI (by omega) (by omega)) ?_
  refine lr_aload_n eL_194 rfl ?_
  refine lr_iload_n eL_195 rfl ?_
  refine lr_iconst eL_196 (nI 2) (by decide) ?_
  refine lr_iadd eL_197 ?_
  rw [nI_add]
  refine lr_sld eL_198 (vp_in_nI (by omega) (by omega)) ?_
  refine lr_callX (as := [.int (xs (tn (nI (i + 1)))), .int (xs (tn (nI (i + 2))))]) (st := []) eL_199 zv_X6_stand zi_X6_stand (tWD_i 366 (by decide +kernel) (by decide +kernel)) rfl (by decide) (by decide) rfl rfl rfl (by simp) rfl (u_X_stand hI hz) (fun r ω hq => ?_)
  obtain ⟨rfl, hx, hz2⟩ := hq
  refine lr_aload_n eL_202 rfl ?_
  refine lr_aload_n eL_203 rfl ?_
  refine lr_iload_n eL_204 rfl ?_
  refine lr_iconst eL_205 (nI 1) (by decide) ?_
  refine lr_iadd eL_206 ?_
  rw [nI_add]
  refine lr_sld eL_207 (vp_in_nI (by omega) (by omega)) ?_
  refine lr_aload_n eL_208 rfl ?_
  refine lr_iload_n eL_209 rfl ?_
  refine lr_iconst eL_210 (nI 2) (by decide) ?_
  refine lr_iadd eL_211 ?_
  rw [nI_add]
  refine lr_sld eL_212 (vp_in_nI (by omega) (by omega)) ?_
  refine lr_callM (as := [.int (xs (tn (nI (i + 1)))), .int (xs (tn (nI (i + 2))))]) (st := [_]) eL_213 zv_X7_stand zi_X7_stand (tWD_i 926 (by decide +kernel) (by decide +kernel)) rfl (by decide) (by decide) rfl rfl rfl (by simp) rfl (u_M_stand (he ▸ hI)) (fun r ω2 hq => ?_)
  obtain ⟨rfl, hm⟩ := hq
  exact lr_icmp_eq eL_216 (fun _ => kk ω ω2 (by rw [hx, hm, he]) (by rw [hx]; exact u_I_stand hI) hz2) (fun h => absurd (by rw [he]) h)
theorem lc_ground {n i : Nat} {xs : Nat → Int32} {σ τ : tSt} (hin : i + 6 ≤ n) (hn : n ≤ 3072) (he : aX σ = aM τ) (hI : inv (aX σ)) (hz : aw0 σ) (kk : ∀ σ' τ', aX σ' = aM τ' → inv (aX σ') → aw0 σ' → LT n xs 950 [.ref 0, .ref 1, .ref 2, .int (nI i)] [] σ' τ') : LT n xs 221 [.ref 0, .ref 1, .ref 2, .int (nI i)] [] σ τ := by
  refine lr_aload_n eL_221 rfl ?_
  refine lr_aload_n eL_222 rfl ?_
  refine lr_iload_n eL_223 rfl ?_
  refine lr_iconst eL_224 (nI 1) (by decide) ?_
  refine lr_iadd eL_225 ?_
  rw [nI_add]
  refine lr_sld eL_226 (vp_in_nI (by omega) (by omega)) ?_
  refine lr_aload_n eL_227 rfl ?_
  refine lr_iload_n eL_228 rfl ?_
  refine lr_iconst eL_229 (nI 2) (by decide) ?_
  refine lr_iadd eL_230 ?_
  rw [nI_add]
  refine lr_sld eL_231 (vp_in_nI (by omega) (by omega)) ?_
  refine lr_callX (as := [.int (xs (tn (nI (i + 1)))), .int (xs (tn (nI (i + 2))))]) (st := []) eL_232 zv_X6_ground zi_X6_ground (tWD_i 385 (by decide +kernel) (by decide +kernel)) rfl (by decide) (by decide) rfl rfl rfl (by simp) rfl (u_X_ground hI hz) (fun r ω hq => ?_)
  obtain ⟨rfl, hx, hz2⟩ := hq
  refine lr_aload_n eL_235 rfl ?_
  refine lr_aload_n eL_236 rfl ?_
  refine lr_iload_n eL_237 rfl ?_
  refine lr_iconst eL_238 (nI 1) (by decide) ?_
  refine lr_iadd eL_239 ?_
  rw [nI_add]
  refine lr_sld eL_240 (vp_in_nI (by omega) (by omega)) ?_
  refine lr_aload_n eL_241 rfl ?_
  refine lr_iload_n eL_242 rfl ?_
  refine lr_iconst eL_243 (nI 2) (by decide) ?_
  refine lr_iadd eL_244 ?_
  rw [nI_add]
  refine lr_sld eL_245 (vp_in_nI (by omega) (by omega)) ?_
  refine lr_callM (as := [.int (xs (tn (nI (i + 1)))), .int (xs (tn (nI (i + 2))))]) (st := [_]) eL_246 zv_X7_ground zi_X7_ground (tWD_i 938 (by decide +kernel) (by decide +kernel)) rfl (by decide) (by decide) rfl rfl rfl (by simp) rfl (u_M_ground (he ▸ hI)) (fun r ω2 hq => ?_)
  obtain ⟨rfl, hm⟩ := hq
  exact lr_icmp_eq eL_249 (fun _ => kk ω ω2 (by rw [hx, hm, he]) (by rw [hx]; exact u_I_ground hI) hz2) (fun h => absurd (by rw [he]) h)
theorem lc_near {n i : Nat} {xs : Nat → Int32} {σ τ : tSt} (hin : i + 6 ≤ n) (hn : n ≤ 3072) (he : aX σ = aM τ) (hI : inv (aX σ)) (hz : aw0 σ) (kk : ∀ σ' τ', aX σ' = aM τ' → inv (aX σ') → aw0 σ' → LT n xs 950 [.ref 0, .ref 1, .ref 2, .int (nI i)] [] σ' τ') : LT n xs 254 [.ref 0, .ref 1, .ref 2, .int (nI i)] [] σ τ := by
  refine lr_aload_n eL_254 rfl ?_
  refine lr_aload_n eL_255 rfl ?_
  refine lr_iload_n eL_256 rfl ?_
  refine lr_iconst eL_257 (nI 1) (by decide) ?_
  refine lr_iadd eL_258 ?_
  rw [nI_add]
  refine lr_sld eL_259 (vp_in_nI (by omega) (by omega)) ?_
  refine lr_aload_n eL_260 rfl ?_
  refine lr_iload_n eL_261 rfl ?_
  refine lr_iconst eL_262 (nI 2) (by decide) ?_
  refine lr_iadd eL_263 ?_
  rw [nI_add]
  refine lr_sld eL_264 (vp_in_nI (by omega) (by omega)) ?_
  refine lr_aload_n eL_265 rfl ?_
  refine lr_iload_n eL_266 rfl ?_
  refine lr_iconst eL_267 (nI 3) (by decide) ?_
  refine lr_iadd eL_268 ?_
  rw [nI_add]
  refine lr_sld eL_269 (vp_in_nI (by omega) (by omega)) ?_
  refine lr_aload_n eL_270 rfl ?_
  refine lr_iload_n eL_271 rfl ?_
  refine lr_iconst eL_272 (nI 4) (by decide) ?_
  refine lr_iadd eL_273 ?_
  rw [nI_add]
  refine lr_sld eL_274 (vp_in_nI (by omega) (by omega)) ?_
  refine lr_callX (as := [.int (xs (tn (nI (i + 1)))), .int (xs (tn (nI (i + 2)))), .int (xs (tn (nI (i + 3)))), .int (xs (tn (nI (i + 4))))]) (st := []) eL_275 zv_X6_near zi_X6_near (tWD_i 393 (by decide +kernel) (by decide +kernel)) rfl (by decide) (by decide) rfl rfl rfl (by simp) rfl (u_X_near hI hz) (fun r ω hq => ?_)
  obtain ⟨rfl, hx, hz2⟩ := hq
  refine lr_aload_n eL_278 rfl ?_
  refine lr_aload_n eL_279 rfl ?_
  refine lr_iload_n eL_280 rfl ?_
  refine lr_iconst eL_281 (nI 1) (by decide) ?_
  refine lr_iadd eL_282 ?_
  rw [nI_add]
  refine lr_sld eL_283 (vp_in_nI (by omega) (by omega)) ?_
  refine lr_aload_n eL_284 rfl ?_
  refine lr_iload_n eL_285 rfl ?_
  refine lr_iconst eL_286 (nI 2) (by decide) ?_
  refine lr_iadd eL_287 ?_
  rw [nI_add]
  refine lr_sld eL_288 (vp_in_nI (by omega) (by omega)) ?_
  refine lr_aload_n eL_289 rfl ?_
  refine lr_iload_n eL_290 rfl ?_
  refine lr_iconst eL_291 (nI 3) (by decide) ?_
  refine lr_iadd eL_292 ?_
  rw [nI_add]
  refine lr_sld eL_293 (vp_in_nI (by omega) (by omega)) ?_
  refine lr_aload_n eL_294 rfl ?_
  refine lr_iload_n eL_295 rfl ?_
  refine lr_iconst eL_296 (nI 4) (by decide) ?_
  refine lr_iadd eL_297 ?_
  rw [nI_add]
  refine lr_sld eL_298 (vp_in_nI (by omega) (by omega)) ?_
  refine lr_callM (as := [.int (xs (tn (nI (i + 1)))), .int (xs (tn (nI (i + 2)))), .int (xs (tn (nI (i + 3)))), .int (xs (tn (nI (i + 4))))]) (st := [_]) eL_299 zv_X7_near zi_X7_near (tWD_i 946 (by decide +kernel) (by decide +kernel)) rfl (by decide) (by decide) rfl rfl rfl (by simp) rfl (u_M_near (he ▸ hI)) (fun r ω2 hq => ?_)
  obtain ⟨rfl, hm⟩ := hq
  exact lr_icmp_eq eL_302 (fun _ => kk ω ω2 (by rw [hx, hm, he]) (by rw [hx]; exact u_I_near hI) hz2) (fun h => absurd (by rw [he]) h)
theorem lc_cone {n i : Nat} {xs : Nat → Int32} {σ τ : tSt} (hin : i + 6 ≤ n) (hn : n ≤ 3072) (he : aX σ = aM τ) (hI : inv (aX σ)) (hz : aw0 σ) (kk : ∀ σ' τ', aX σ' = aM τ' → inv (aX σ') → aw0 σ' → LT n xs 950 [.ref 0, .ref 1, .ref 2, .int (nI i)] [] σ' τ') : LT n xs 307 [.ref 0, .ref 1, .ref 2, .int (nI i)] [] σ τ := by
  refine lr_aload_n eL_307 rfl ?_
  refine lr_aload_n eL_308 rfl ?_
  refine lr_iload_n eL_309 rfl ?_
  refine lr_iconst eL_310 (nI 1) (by decide) ?_
  refine lr_iadd eL_311 ?_
  rw [nI_add]
  refine lr_sld eL_312 (vp_in_nI (by omega) (by omega)) ?_
  refine lr_aload_n eL_313 rfl ?_
  refine lr_iload_n eL_314 rfl ?_
  refine lr_iconst eL_315 (nI 2) (by decide) ?_
  refine lr_iadd eL_316 ?_
  rw [nI_add]
  refine lr_sld eL_317 (vp_in_nI (by omega) (by omega)) ?_
  refine lr_aload_n eL_318 rfl ?_
  refine lr_iload_n eL_319 rfl ?_
  refine lr_iconst eL_320 (nI 3) (by decide) ?_
  refine lr_iadd eL_321 ?_
  rw [nI_add]
  refine lr_sld eL_322 (vp_in_nI (by omega) (by omega)) ?_
  refine lr_callX (as := [.int (xs (tn (nI (i + 1)))), .int (xs (tn (nI (i + 2)))), .int (xs (tn (nI (i + 3))))]) (st := []) eL_323 zv_X6_cone zi_X6_cone (tWD_i 401 (by decide +kernel) (by decide +kernel)) rfl (by decide) (by decide) rfl rfl rfl (by simp) rfl (u_X_cone hI hz) (fun r ω hq => ?_)
  obtain ⟨rfl, hx, hz2⟩ := hq
  refine lr_aload_n eL_326 rfl ?_
  refine lr_aload_n eL_327 rfl ?_
  refine lr_iload_n eL_328 rfl ?_
  refine lr_iconst eL_329 (nI 1) (by decide) ?_
  refine lr_iadd eL_330 ?_
  rw [nI_add]
  refine lr_sld eL_331 (vp_in_nI (by omega) (by omega)) ?_
  refine lr_aload_n eL_332 rfl ?_
  refine lr_iload_n eL_333 rfl ?_
  refine lr_iconst eL_334 (nI 2) (by decide) ?_
  refine lr_iadd eL_335 ?_
  rw [nI_add]
  refine lr_sld eL_336 (vp_in_nI (by omega) (by omega)) ?_
  refine lr_aload_n eL_337 rfl ?_
  refine lr_iload_n eL_338 rfl ?_
  refine lr_iconst eL_339 (nI 3) (by decide) ?_
  refine lr_iadd eL_340 ?_
  rw [nI_add]
  refine lr_sld eL_341 (vp_in_nI (by omega) (by omega)) ?_
  refine lr_callM (as := [.int (xs (tn (nI (i + 1)))), .int (xs (tn (nI (i + 2)))), .int (xs (tn (nI (i + 3))))]) (st := [_]) eL_342 zv_X7_cone zi_X7_cone (tWD_i 950 (by decide +kernel) (by decide +kernel)) rfl (by decide) (by decide) rfl rfl rfl (by simp) rfl (u_M_cone (he ▸ hI)) (fun r ω2 hq => ?_)
  obtain ⟨rfl, hm⟩ := hq
  exact lr_icmp_eq eL_345 (fun _ => kk ω ω2 (by rw [hx, hm, he]) (by rw [hx]; exact u_I_cone hI) hz2) (fun h => absurd (by rw [he]) h)
theorem lc_towtime {n i : Nat} {xs : Nat → Int32} {σ τ : tSt} (hin : i + 6 ≤ n) (hn : n ≤ 3072) (he : aX σ = aM τ) (hI : inv (aX σ)) (hz : aw0 σ) (kk : ∀ σ' τ', aX σ' = aM τ' → inv (aX σ') → aw0 σ' → LT n xs 950 [.ref 0, .ref 1, .ref 2, .int (nI i)] [] σ' τ') : LT n xs 350 [.ref 0, .ref 1, .ref 2, .int (nI i)] [] σ τ := by
  refine lr_aload_n eL_350 rfl ?_
  refine lr_aload_n eL_351 rfl ?_
  refine lr_iload_n eL_352 rfl ?_
  refine lr_iconst eL_353 (nI 1) (by decide) ?_
  refine lr_iadd eL_354 ?_
  rw [nI_add]
  refine lr_sld eL_355 (vp_in_nI (by omega) (by omega)) ?_
  refine lr_callX (as := [.int (xs (tn (nI (i + 1))))]) (st := []) eL_356 zv_X6_towtime zi_X6_towtime (tWD_i 412 (by decide +kernel) (by decide +kernel)) rfl (by decide) (by decide) rfl rfl rfl (by simp) rfl (u_X_towtime hI hz) (fun r ω hq => ?_)
  obtain ⟨rfl, hx, hz2⟩ := hq
  refine lr_aload_n eL_359 rfl ?_
  refine lr_aload_n eL_360 rfl ?_
  refine lr_iload_n eL_361 rfl ?_
  refine lr_iconst eL_362 (nI 1) (by decide) ?_
  refine lr_iadd eL_363 ?_
  rw [nI_add]
  refine lr_sld eL_364 (vp_in_nI (by omega) (by omega)) ?_
  refine lr_callM (as := [.int (xs (tn (nI (i + 1))))]) (st := [_]) eL_365 zv_X7_towtime zi_X7_towtime (tWD_i 957 (by decide +kernel) (by decide +kernel)) rfl (by decide) (by decide) rfl rfl rfl (by simp) rfl (u_M_towtime (he ▸ hI)) (fun r ω2 hq => ?_)
  obtain ⟨rfl, hm⟩ := hq
  exact lr_icmp_eq eL_368 (fun _ => kk ω ω2 (by rw [hx, hm, he]) (by rw [hx]; exact u_I_towtime hI) hz2) (fun h => absurd (by rw [he]) h)
theorem lc_visit {n i : Nat} {xs : Nat → Int32} {σ τ : tSt} (hin : i + 6 ≤ n) (hn : n ≤ 3072) (he : aX σ = aM τ) (hI : inv (aX σ)) (hz : aw0 σ) (kk : ∀ σ' τ', aX σ' = aM τ' → inv (aX σ') → aw0 σ' → LT n xs 950 [.ref 0, .ref 1, .ref 2, .int (nI i)] [] σ' τ') : LT n xs 373 [.ref 0, .ref 1, .ref 2, .int (nI i)] [] σ τ := by
  refine lr_aload_n eL_373 rfl ?_
  refine lr_aload_n eL_374 rfl ?_
  refine lr_iload_n eL_375 rfl ?_
  refine lr_iconst eL_376 (nI 1) (by decide) ?_
  refine lr_iadd eL_377 ?_
  rw [nI_add]
  refine lr_sld eL_378 (vp_in_nI (by omega) (by omega)) ?_
  refine lr_aload_n eL_379 rfl ?_
  refine lr_iload_n eL_380 rfl ?_
  refine lr_iconst eL_381 (nI 2) (by decide) ?_
  refine lr_iadd eL_382 ?_
  rw [nI_add]
  refine lr_sld eL_383 (vp_in_nI (by omega) (by omega)) ?_
  refine lr_aload_n eL_384 rfl ?_
  refine lr_iload_n eL_385 rfl ?_
  refine lr_iconst eL_386 (nI 3) (by decide) ?_
  refine lr_iadd eL_387 ?_
  rw [nI_add]
  refine lr_sld eL_388 (vp_in_nI (by omega) (by omega)) ?_
  refine lr_aload_n eL_389 rfl ?_
  refine lr_iload_n eL_390 rfl ?_
  refine lr_iconst eL_391 (nI 4) (by decide) ?_
  refine lr_iadd eL_392 ?_
  rw [nI_add]
  refine lr_sld eL_393 (vp_in_nI (by omega) (by omega)) ?_
  refine lr_aload_n eL_394 rfl ?_
  refine lr_iload_n eL_395 rfl ?_
  refine lr_iconst eL_396 (nI 5) (by decide) ?_
  refine lr_iadd eL_397 ?_
  rw [nI_add]
  refine lr_sld eL_398 (vp_in_nI (by omega) (by omega)) ?_
  refine lr_callX (as := [.int (xs (tn (nI (i + 1)))), .int (xs (tn (nI (i + 2)))), .int (xs (tn (nI (i + 3)))), .int (xs (tn (nI (i + 4)))), .int (xs (tn (nI (i + 5))))]) (st := []) eL_399 zv_X6_visit zi_X6_visit (tWD_i 424 (by decide +kernel) (by decide +kernel)) rfl (by decide) (by decide) rfl rfl rfl (by simp) rfl (u_X_visit hI hz) (fun r ω hq => ?_)
  obtain ⟨rfl, hx, hz2⟩ := hq
  refine lr_aload_n eL_402 rfl ?_
  refine lr_aload_n eL_403 rfl ?_
  refine lr_iload_n eL_404 rfl ?_
  refine lr_iconst eL_405 (nI 1) (by decide) ?_
  refine lr_iadd eL_406 ?_
  rw [nI_add]
  refine lr_sld eL_407 (vp_in_nI (by omega) (by omega)) ?_
  refine lr_aload_n eL_408 rfl ?_
  refine lr_iload_n eL_409 rfl ?_
  refine lr_iconst eL_410 (nI 2) (by decide) ?_
  refine lr_iadd eL_411 ?_
  rw [nI_add]
  refine lr_sld eL_412 (vp_in_nI (by omega) (by omega)) ?_
  refine lr_aload_n eL_413 rfl ?_
  refine lr_iload_n eL_414 rfl ?_
  refine lr_iconst eL_415 (nI 3) (by decide) ?_
  refine lr_iadd eL_416 ?_
  rw [nI_add]
  refine lr_sld eL_417 (vp_in_nI (by omega) (by omega)) ?_
  refine lr_aload_n eL_418 rfl ?_
  refine lr_iload_n eL_419 rfl ?_
  refine lr_iconst eL_420 (nI 4) (by decide) ?_
  refine lr_iadd eL_421 ?_
  rw [nI_add]
  refine lr_sld eL_422 (vp_in_nI (by omega) (by omega)) ?_
  refine lr_aload_n eL_423 rfl ?_
  refine lr_iload_n eL_424 rfl ?_
  refine lr_iconst eL_425 (nI 5) (by decide) ?_
  refine lr_iadd eL_426 ?_
  rw [nI_add]
  refine lr_sld eL_427 (vp_in_nI (by omega) (by omega)) ?_
  refine lr_callM (as := [.int (xs (tn (nI (i + 1)))), .int (xs (tn (nI (i + 2)))), .int (xs (tn (nI (i + 3)))), .int (xs (tn (nI (i + 4)))), .int (xs (tn (nI (i + 5))))]) (st := [_]) eL_428 zv_X7_visit zi_X7_visit (tWD_i 961 (by decide +kernel) (by decide +kernel)) rfl (by decide) (by decide) rfl rfl rfl (by simp) rfl (u_M_visit (he ▸ hI)) (fun r ω2 hq => ?_)
  obtain ⟨rfl, hm⟩ := hq
  exact lr_icmp_eq eL_431 (fun _ => kk ω ω2 (by rw [hx, hm, he]) (by rw [hx]; exact u_I_visit hI) hz2) (fun h => absurd (by rw [he]) h)
theorem lc_tear {n i : Nat} {xs : Nat → Int32} {σ τ : tSt} (hin : i + 6 ≤ n) (hn : n ≤ 3072) (he : aX σ = aM τ) (hI : inv (aX σ)) (hz : aw0 σ) (kk : ∀ σ' τ', aX σ' = aM τ' → inv (aX σ') → aw0 σ' → LT n xs 950 [.ref 0, .ref 1, .ref 2, .int (nI i)] [] σ' τ') : LT n xs 436 [.ref 0, .ref 1, .ref 2, .int (nI i)] [] σ τ := by
  refine lr_aload_n eL_436 rfl ?_
  refine lr_aload_n eL_437 rfl ?_
  refine lr_iload_n eL_438 rfl ?_
  refine lr_iconst eL_439 (nI 1) (by decide) ?_
  refine lr_iadd eL_440 ?_
  rw [nI_add]
  refine lr_sld eL_441 (vp_in_nI (by omega) (by omega)) ?_
  refine lr_aload_n eL_442 rfl ?_
  refine lr_iload_n eL_443 rfl ?_
  refine lr_iconst eL_444 (nI 2) (by decide) ?_
  refine lr_iadd eL_445 ?_
  rw [nI_add]
  refine lr_sld eL_446 (vp_in_nI (by omega) (by omega)) ?_
  refine lr_callX (as := [.int (xs (tn (nI (i + 1)))), .int (xs (tn (nI (i + 2))))]) (st := []) eL_447 zv_X6_tear zi_X6_tear (tWD_i 432 (by decide +kernel) (by decide +kernel)) rfl (by decide) (by decide) rfl rfl rfl (by simp) rfl (u_X_tear hI hz) (fun r ω hq => ?_)
  obtain ⟨rfl, hx, hz2⟩ := hq
  refine lr_aload_n eL_450 rfl ?_
  refine lr_aload_n eL_451 rfl ?_
  refine lr_iload_n eL_452 rfl ?_
  refine lr_iconst eL_453 (nI 1) (by decide) ?_
  refine lr_iadd eL_454 ?_
  rw [nI_add]
  refine lr_sld eL_455 (vp_in_nI (by omega) (by omega)) ?_
  refine lr_aload_n eL_456 rfl ?_
  refine lr_iload_n eL_457 rfl ?_
  refine lr_iconst eL_458 (nI 2) (by decide) ?_
  refine lr_iadd eL_459 ?_
  rw [nI_add]
  refine lr_sld eL_460 (vp_in_nI (by omega) (by omega)) ?_
  refine lr_callM (as := [.int (xs (tn (nI (i + 1)))), .int (xs (tn (nI (i + 2))))]) (st := [_]) eL_461 zv_X7_tear zi_X7_tear (tWD_i 965 (by decide +kernel) (by decide +kernel)) rfl (by decide) (by decide) rfl rfl rfl (by simp) rfl (u_M_tear (he ▸ hI)) (fun r ω2 hq => ?_)
  obtain ⟨rfl, hm⟩ := hq
  exact lr_icmp_eq eL_464 (fun _ => kk ω ω2 (by rw [hx, hm, he]) (by rw [hx]; exact u_I_tear hI) hz2) (fun h => absurd (by rw [he]) h)
theorem lc_told {n i : Nat} {xs : Nat → Int32} {σ τ : tSt} (hin : i + 6 ≤ n) (hn : n ≤ 3072) (he : aX σ = aM τ) (hI : inv (aX σ)) (hz : aw0 σ) (kk : ∀ σ' τ', aX σ' = aM τ' → inv (aX σ') → aw0 σ' → LT n xs 950 [.ref 0, .ref 1, .ref 2, .int (nI i)] [] σ' τ') : LT n xs 469 [.ref 0, .ref 1, .ref 2, .int (nI i)] [] σ τ := by
  refine lr_aload_n eL_469 rfl ?_
  refine lr_aload_n eL_470 rfl ?_
  refine lr_iload_n eL_471 rfl ?_
  refine lr_iconst eL_472 (nI 1) (by decide) ?_
  refine lr_iadd eL_473 ?_
  rw [nI_add]
  refine lr_sld eL_474 (vp_in_nI (by omega) (by omega)) ?_
  refine lr_aload_n eL_475 rfl ?_
  refine lr_iload_n eL_476 rfl ?_
  refine lr_iconst eL_477 (nI 2) (by decide) ?_
  refine lr_iadd eL_478 ?_
  rw [nI_add]
  refine lr_sld eL_479 (vp_in_nI (by omega) (by omega)) ?_
  refine lr_callX (as := [.int (xs (tn (nI (i + 1)))), .int (xs (tn (nI (i + 2))))]) (st := []) eL_480 zv_X6_told zi_X6_told (tWD_i 444 (by decide +kernel) (by decide +kernel)) rfl (by decide) (by decide) rfl rfl rfl (by simp) rfl (u_X_told hI hz) (fun r ω hq => ?_)
  obtain ⟨rfl, hx, hz2⟩ := hq
  refine lr_aload_n eL_483 rfl ?_
  refine lr_aload_n eL_484 rfl ?_
  refine lr_iload_n eL_485 rfl ?_
  refine lr_iconst eL_486 (nI 1) (by decide) ?_
  refine lr_iadd eL_487 ?_
  rw [nI_add]
  refine lr_sld eL_488 (vp_in_nI (by omega) (by omega)) ?_
  refine lr_aload_n eL_489 rfl ?_
  refine lr_iload_n eL_490 rfl ?_
  refine lr_iconst eL_491 (nI 2) (by decide) ?_
  refine lr_iadd eL_492 ?_
  rw [nI_add]
  refine lr_sld eL_493 (vp_in_nI (by omega) (by omega)) ?_
  refine lr_callM (as := [.int (xs (tn (nI (i + 1)))), .int (xs (tn (nI (i + 2))))]) (st := [_]) eL_494 zv_X7_told zi_X7_told (tWD_i 977 (by decide +kernel) (by decide +kernel)) rfl (by decide) (by decide) rfl rfl rfl (by simp) rfl (u_M_told (he ▸ hI)) (fun r ω2 hq => ?_)
  obtain ⟨rfl, hm⟩ := hq
  exact lr_icmp_eq eL_497 (fun _ => kk ω ω2 (by rw [hx, hm, he]) (by rw [hx]; exact u_I_told hI) hz2) (fun h => absurd (by rw [he]) h)
theorem lc_put {n i : Nat} {xs : Nat → Int32} {σ τ : tSt} (hin : i + 6 ≤ n) (hn : n ≤ 3072) (he : aX σ = aM τ) (hI : inv (aX σ)) (hz : aw0 σ) (kk : ∀ σ' τ', aX σ' = aM τ' → inv (aX σ') → aw0 σ' → LT n xs 950 [.ref 0, .ref 1, .ref 2, .int (nI i)] [] σ' τ') : LT n xs 502 [.ref 0, .ref 1, .ref 2, .int (nI i)] [] σ τ := by
  refine lr_aload_n eL_502 rfl ?_
  refine lr_aload_n eL_503 rfl ?_
  refine lr_iload_n eL_504 rfl ?_
  refine lr_iconst eL_505 (nI 1) (by decide) ?_
  refine lr_iadd eL_506 ?_
  rw [nI_add]
  refine lr_sld eL_507 (vp_in_nI (by omega) (by omega)) ?_
  refine lr_aload_n eL_508 rfl ?_
  refine lr_iload_n eL_509 rfl ?_
  refine lr_iconst eL_510 (nI 2) (by decide) ?_
  refine lr_iadd eL_511 ?_
  rw [nI_add]
  refine lr_sld eL_512 (vp_in_nI (by omega) (by omega)) ?_
  refine lr_callX (as := [.int (xs (tn (nI (i + 1)))), .int (xs (tn (nI (i + 2))))]) (st := []) eL_513 zv_X6_put zi_X6_put (tWD_i 448 (by decide +kernel) (by decide +kernel)) rfl (by decide) (by decide) rfl rfl rfl (by simp) rfl (u_X_put hI hz) (fun r ω hq => ?_)
  obtain ⟨rfl, hx, hz2⟩ := hq
  refine lr_aload_n eL_516 rfl ?_
  refine lr_aload_n eL_517 rfl ?_
  refine lr_iload_n eL_518 rfl ?_
  refine lr_iconst eL_519 (nI 1) (by decide) ?_
  refine lr_iadd eL_520 ?_
  rw [nI_add]
  refine lr_sld eL_521 (vp_in_nI (by omega) (by omega)) ?_
  refine lr_aload_n eL_522 rfl ?_
  refine lr_iload_n eL_523 rfl ?_
  refine lr_iconst eL_524 (nI 2) (by decide) ?_
  refine lr_iadd eL_525 ?_
  rw [nI_add]
  refine lr_sld eL_526 (vp_in_nI (by omega) (by omega)) ?_
  refine lr_callM (as := [.int (xs (tn (nI (i + 1)))), .int (xs (tn (nI (i + 2))))]) (st := [_]) eL_527 zv_X7_put zi_X7_put (tWD_i 981 (by decide +kernel) (by decide +kernel)) rfl (by decide) (by decide) rfl rfl rfl (by simp) rfl (u_M_put (he ▸ hI)) (fun r ω2 hq => ?_)
  obtain ⟨rfl, hm⟩ := hq
  exact lr_icmp_eq eL_530 (fun _ => kk ω ω2 (by rw [hx, hm, he]) (by rw [hx]; exact u_I_put hI) hz2) (fun h => absurd (by rw [he]) h)
theorem lc_why {n i : Nat} {xs : Nat → Int32} {σ τ : tSt} (hin : i + 6 ≤ n) (hn : n ≤ 3072) (he : aX σ = aM τ) (hI : inv (aX σ)) (hz : aw0 σ) (kk : ∀ σ' τ', aX σ' = aM τ' → inv (aX σ') → aw0 σ' → LT n xs 950 [.ref 0, .ref 1, .ref 2, .int (nI i)] [] σ' τ') : LT n xs 535 [.ref 0, .ref 1, .ref 2, .int (nI i)] [] σ τ := by
  refine lr_aload_n eL_535 rfl ?_
  refine lr_aload_n eL_536 rfl ?_
  refine lr_iload_n eL_537 rfl ?_
  refine lr_iconst eL_538 (nI 1) (by decide) ?_
  refine lr_iadd eL_539 ?_
  rw [nI_add]
  refine lr_sld eL_540 (vp_in_nI (by omega) (by omega)) ?_
  refine lr_aload_n eL_541 rfl ?_
  refine lr_iload_n eL_542 rfl ?_
  refine lr_iconst eL_543 (nI 2) (by decide) ?_
  refine lr_iadd eL_544 ?_
  rw [nI_add]
  refine lr_sld eL_545 (vp_in_nI (by omega) (by omega)) ?_
  refine lr_callX (as := [.int (xs (tn (nI (i + 1)))), .int (xs (tn (nI (i + 2))))]) (st := []) eL_546 zv_X6_why zi_X6_why (tWD_i 585 (by decide +kernel) (by decide +kernel)) rfl (by decide) (by decide) rfl rfl rfl (by simp) rfl (u_X_why hI hz) (fun r ω hq => ?_)
  obtain ⟨rfl, hx, hz2⟩ := hq
  refine lr_aload_n eL_549 rfl ?_
  refine lr_aload_n eL_550 rfl ?_
  refine lr_iload_n eL_551 rfl ?_
  refine lr_iconst eL_552 (nI 1) (by decide) ?_
  refine lr_iadd eL_553 ?_
  rw [nI_add]
  refine lr_sld eL_554 (vp_in_nI (by omega) (by omega)) ?_
  refine lr_aload_n eL_555 rfl ?_
  refine lr_iload_n eL_556 rfl ?_
  refine lr_iconst eL_557 (nI 2) (by decide) ?_
  refine lr_iadd eL_558 ?_
  rw [nI_add]
  refine lr_sld eL_559 (vp_in_nI (by omega) (by omega)) ?_
  refine lr_callM (as := [.int (xs (tn (nI (i + 1)))), .int (xs (tn (nI (i + 2))))]) (st := [_]) eL_560 zv_X7_why zi_X7_why (tWD_i 1046 (by decide +kernel) (by decide +kernel)) rfl (by decide) (by decide) rfl rfl rfl (by simp) rfl (u_M_why (he ▸ hI)) (fun r ω2 hq => ?_)
  obtain ⟨rfl, hm⟩ := hq
  exact lr_icmp_eq eL_563 (fun _ => kk ω ω2 (by rw [hx, hm, he]) (by rw [hx]; exact u_I_why hI) hz2) (fun h => absurd (by rw [he]) h)
theorem lc_off {n i : Nat} {xs : Nat → Int32} {σ τ : tSt} (hin : i + 6 ≤ n) (hn : n ≤ 3072) (he : aX σ = aM τ) (hI : inv (aX σ)) (hz : aw0 σ) (kk : ∀ σ' τ', aX σ' = aM τ' → inv (aX σ') → aw0 σ' → LT n xs 950 [.ref 0, .ref 1, .ref 2, .int (nI i)] [] σ' τ') : LT n xs 568 [.ref 0, .ref 1, .ref 2, .int (nI i)] [] σ τ := by
  refine lr_aload_n eL_568 rfl ?_
  refine lr_aload_n eL_569 rfl ?_
  refine lr_iload_n eL_570 rfl ?_
  refine lr_iconst eL_571 (nI 1) (by decide) ?_
  refine lr_iadd eL_572 ?_
  rw [nI_add]
  refine lr_sld eL_573 (vp_in_nI (by omega) (by omega)) ?_
  refine lr_callX (as := [.int (xs (tn (nI (i + 1))))]) (st := []) eL_574 zv_X6_off zi_X6_off (tWD_i 589 (by decide +kernel) (by decide +kernel)) rfl (by decide) (by decide) rfl rfl rfl (by simp) rfl (u_X_off hI hz) (fun r ω hq => ?_)
  obtain ⟨rfl, hx, hz2⟩ := hq
  refine lr_aload_n eL_577 rfl ?_
  refine lr_aload_n eL_578 rfl ?_
  refine lr_iload_n eL_579 rfl ?_
  refine lr_iconst eL_580 (nI 1) (by decide) ?_
  refine lr_iadd eL_581 ?_
  rw [nI_add]
  refine lr_sld eL_582 (vp_in_nI (by omega) (by omega)) ?_
  refine lr_callM (as := [.int (xs (tn (nI (i + 1))))]) (st := [_]) eL_583 zv_X7_off zi_X7_off (tWD_i 1050 (by decide +kernel) (by decide +kernel)) rfl (by decide) (by decide) rfl rfl rfl (by simp) rfl (u_M_off (he ▸ hI)) (fun r ω2 hq => ?_)
  obtain ⟨rfl, hm⟩ := hq
  exact lr_icmp_eq eL_586 (fun _ => kk ω ω2 (by rw [hx, hm, he]) (by rw [hx]; exact u_I_off hI) hz2) (fun h => absurd (by rw [he]) h)
theorem lc_tow {n i : Nat} {xs : Nat → Int32} {σ τ : tSt} (hin : i + 6 ≤ n) (hn : n ≤ 3072) (he : aX σ = aM τ) (hI : inv (aX σ)) (hz : aw0 σ) (kk : ∀ σ' τ', aX σ' = aM τ' → inv (aX σ') → aw0 σ' → LT n xs 950 [.ref 0, .ref 1, .ref 2, .int (nI i)] [] σ' τ') : LT n xs 591 [.ref 0, .ref 1, .ref 2, .int (nI i)] [] σ τ := by
  refine lr_aload_n eL_591 rfl ?_
  refine lr_aload_n eL_592 rfl ?_
  refine lr_iload_n eL_593 rfl ?_
  refine lr_iconst eL_594 (nI 1) (by decide) ?_
  refine lr_iadd eL_595 ?_
  rw [nI_add]
  refine lr_sld eL_596 (vp_in_nI (by omega) (by omega)) ?_
  refine lr_aload_n eL_597 rfl ?_
  refine lr_iload_n eL_598 rfl ?_
  refine lr_iconst eL_599 (nI 2) (by decide) ?_
  refine lr_iadd eL_600 ?_
  rw [nI_add]
  refine lr_sld eL_601 (vp_in_nI (by omega) (by omega)) ?_
  refine lr_aload_n eL_602 rfl ?_
  refine lr_iload_n eL_603 rfl ?_
  refine lr_iconst eL_604 (nI 3) (by decide) ?_
  refine lr_iadd eL_605 ?_
  rw [nI_add]
  refine lr_sld eL_606 (vp_in_nI (by omega) (by omega)) ?_
  refine lr_callX (as := [.int (xs (tn (nI (i + 1)))), .int (xs (tn (nI (i + 2)))), .int (xs (tn (nI (i + 3))))]) (st := []) eL_607 zv_X6_tow zi_X6_tow (tWD_i 597 (by decide +kernel) (by decide +kernel)) rfl (by decide) (by decide) rfl rfl rfl (by simp) rfl (u_X_tow hI hz) (fun r ω hq => ?_)
  obtain ⟨rfl, hx, hz2⟩ := hq
  refine lr_aload_n eL_610 rfl ?_
  refine lr_aload_n eL_611 rfl ?_
  refine lr_iload_n eL_612 rfl ?_
  refine lr_iconst eL_613 (nI 1) (by decide) ?_
  refine lr_iadd eL_614 ?_
  rw [nI_add]
  refine lr_sld eL_615 (vp_in_nI (by omega) (by omega)) ?_
  refine lr_aload_n eL_616 rfl ?_
  refine lr_iload_n eL_617 rfl ?_
  refine lr_iconst eL_618 (nI 2) (by decide) ?_
  refine lr_iadd eL_619 ?_
  rw [nI_add]
  refine lr_sld eL_620 (vp_in_nI (by omega) (by omega)) ?_
  refine lr_aload_n eL_621 rfl ?_
  refine lr_iload_n eL_622 rfl ?_
  refine lr_iconst eL_623 (nI 3) (by decide) ?_
  refine lr_iadd eL_624 ?_
  rw [nI_add]
  refine lr_sld eL_625 (vp_in_nI (by omega) (by omega)) ?_
  refine lr_callM (as := [.int (xs (tn (nI (i + 1)))), .int (xs (tn (nI (i + 2)))), .int (xs (tn (nI (i + 3))))]) (st := [_]) eL_626 zv_X7_tow zi_X7_tow (tWD_i 1054 (by decide +kernel) (by decide +kernel)) rfl (by decide) (by decide) rfl rfl rfl (by simp) rfl (u_M_tow (he ▸ hI)) (fun r ω2 hq => ?_)
  obtain ⟨rfl, hm⟩ := hq
  exact lr_icmp_eq eL_629 (fun _ => kk ω ω2 (by rw [hx, hm, he]) (by rw [hx]; exact u_I_tow hI) hz2) (fun h => absurd (by rw [he]) h)
theorem lc_plan {n i : Nat} {xs : Nat → Int32} {σ τ : tSt} (hin : i + 6 ≤ n) (hn : n ≤ 3072) (he : aX σ = aM τ) (hI : inv (aX σ)) (hz : aw0 σ) (kk : ∀ σ' τ', aX σ' = aM τ' → inv (aX σ') → aw0 σ' → LT n xs 950 [.ref 0, .ref 1, .ref 2, .int (nI i)] [] σ' τ') : LT n xs 634 [.ref 0, .ref 1, .ref 2, .int (nI i)] [] σ τ := by
  refine lr_aload_n eL_634 rfl ?_
  refine lr_callX (as := []) (st := []) eL_635 zv_X6_plan zi_X6_plan (tWD_i 612 (by decide +kernel) (by decide +kernel)) rfl (by decide) (by decide) rfl rfl rfl (by simp) rfl (u_X_plan hI hz) (fun r ω hq => ?_)
  obtain ⟨rfl, hx, hz2⟩ := hq
  refine lr_aload_n eL_638 rfl ?_
  refine lr_callM (as := []) (st := [_]) eL_639 zv_X7_plan zi_X7_plan (tWD_i 1062 (by decide +kernel) (by decide +kernel)) rfl (by decide) (by decide) rfl rfl rfl (by simp) rfl (u_M_plan (he ▸ hI)) (fun r ω2 hq => ?_)
  obtain ⟨rfl, hm⟩ := hq
  exact lr_icmp_eq eL_642 (fun _ => kk ω ω2 (by rw [hx, hm, he]) (by rw [hx]; exact u_I_plan hI) hz2) (fun h => absurd (by rw [he]) h)
theorem lc_search {n i : Nat} {xs : Nat → Int32} {σ τ : tSt} (hin : i + 6 ≤ n) (hn : n ≤ 3072) (he : aX σ = aM τ) (hI : inv (aX σ)) (hz : aw0 σ) (kk : ∀ σ' τ', aX σ' = aM τ' → inv (aX σ') → aw0 σ' → LT n xs 950 [.ref 0, .ref 1, .ref 2, .int (nI i)] [] σ' τ') : LT n xs 647 [.ref 0, .ref 1, .ref 2, .int (nI i)] [] σ τ := by
  refine lr_aload_n eL_647 rfl ?_
  refine lr_callX (as := []) (st := []) eL_648 zv_X6_search zi_X6_search (tWD_i 647 (by decide +kernel) (by decide +kernel)) rfl (by decide) (by decide) rfl rfl rfl (by simp) rfl (u_X_search hI hz) (fun r ω hq => ?_)
  obtain ⟨rfl, hx, hz2⟩ := hq
  refine lr_aload_n eL_651 rfl ?_
  refine lr_callM (as := []) (st := [_]) eL_652 zv_X7_search_ zi_X7_search_ (tWD_i 1082 (by decide +kernel) (by decide +kernel)) rfl (by decide) (by decide) rfl rfl rfl (by simp) rfl (u_M_search (he ▸ hI)) (fun r ω2 hq => ?_)
  obtain ⟨rfl, hm⟩ := hq
  exact lr_icmp_eq eL_655 (fun _ => kk ω ω2 (by rw [hx, hm, he]) (by rw [hx]; exact u_I_search hI) hz2) (fun h => absurd (by rw [he]) h)
theorem lc_most {n i : Nat} {xs : Nat → Int32} {σ τ : tSt} (hin : i + 6 ≤ n) (hn : n ≤ 3072) (he : aX σ = aM τ) (hI : inv (aX σ)) (hz : aw0 σ) (kk : ∀ σ' τ', aX σ' = aM τ' → inv (aX σ') → aw0 σ' → LT n xs 950 [.ref 0, .ref 1, .ref 2, .int (nI i)] [] σ' τ') : LT n xs 660 [.ref 0, .ref 1, .ref 2, .int (nI i)] [] σ τ := by
  refine lr_aload_n eL_660 rfl ?_
  refine lr_callX (as := []) (st := []) eL_661 zv_X6_most zi_X6_most (tWD_i 679 (by decide +kernel) (by decide +kernel)) rfl (by decide) (by decide) rfl rfl rfl (by simp) rfl (u_X_most hI hz) (fun r ω hq => ?_)
  obtain ⟨rfl, hx, hz2⟩ := hq
  refine lr_aload_n eL_664 rfl ?_
  refine lr_callM (as := []) (st := [_]) eL_665 zv_X7_most zi_X7_most (tWD_i 1098 (by decide +kernel) (by decide +kernel)) rfl (by decide) (by decide) rfl rfl rfl (by simp) rfl (u_M_most (he ▸ hI)) (fun r ω2 hq => ?_)
  obtain ⟨rfl, hm⟩ := hq
  exact lr_icmp_eq eL_668 (fun _ => kk ω ω2 (by rw [hx, hm, he]) (by rw [hx]; exact u_I_most hI) hz2) (fun h => absurd (by rw [he]) h)
theorem lc_late {n i : Nat} {xs : Nat → Int32} {σ τ : tSt} (hin : i + 6 ≤ n) (hn : n ≤ 3072) (he : aX σ = aM τ) (hI : inv (aX σ)) (hz : aw0 σ) (kk : ∀ σ' τ', aX σ' = aM τ' → inv (aX σ') → aw0 σ' → LT n xs 950 [.ref 0, .ref 1, .ref 2, .int (nI i)] [] σ' τ') : LT n xs 673 [.ref 0, .ref 1, .ref 2, .int (nI i)] [] σ τ := by
  refine lr_aload_n eL_673 rfl ?_
  refine lr_aload_n eL_674 rfl ?_
  refine lr_iload_n eL_675 rfl ?_
  refine lr_iconst eL_676 (nI 1) (by decide) ?_
  refine lr_iadd eL_677 ?_
  rw [nI_add]
  refine lr_sld eL_678 (vp_in_nI (by omega) (by omega)) ?_
  refine lr_aload_n eL_679 rfl ?_
  refine lr_iload_n eL_680 rfl ?_
  refine lr_iconst eL_681 (nI 2) (by decide) ?_
  refine lr_iadd eL_682 ?_
  rw [nI_add]
  refine lr_sld eL_683 (vp_in_nI (by omega) (by omega)) ?_
  refine lr_callX (as := [.int (xs (tn (nI (i + 1)))), .int (xs (tn (nI (i + 2))))]) (st := []) eL_684 zv_X6_late zi_X6_late (tWD_i 699 (by decide +kernel) (by decide +kernel)) rfl (by decide) (by decide) rfl rfl rfl (by simp) rfl (u_X_late hI hz) (fun r ω hq => ?_)
  obtain ⟨rfl, hx, hz2⟩ := hq
  refine lr_aload_n eL_687 rfl ?_
  refine lr_aload_n eL_688 rfl ?_
  refine lr_iload_n eL_689 rfl ?_
  refine lr_iconst eL_690 (nI 1) (by decide) ?_
  refine lr_iadd eL_691 ?_
  rw [nI_add]
  refine lr_sld eL_692 (vp_in_nI (by omega) (by omega)) ?_
  refine lr_aload_n eL_693 rfl ?_
  refine lr_iload_n eL_694 rfl ?_
  refine lr_iconst eL_695 (nI 2) (by decide) ?_
  refine lr_iadd eL_696 ?_
  rw [nI_add]
  refine lr_sld eL_697 (vp_in_nI (by omega) (by omega)) ?_
  refine lr_callM (as := [.int (xs (tn (nI (i + 1)))), .int (xs (tn (nI (i + 2))))]) (st := [_]) eL_698 zv_X7_late zi_X7_late (tWD_i 1102 (by decide +kernel) (by decide +kernel)) rfl (by decide) (by decide) rfl rfl rfl (by simp) rfl (u_M_late (he ▸ hI)) (fun r ω2 hq => ?_)
  obtain ⟨rfl, hm⟩ := hq
  exact lr_icmp_eq eL_701 (fun _ => kk ω ω2 (by rw [hx, hm, he]) (by rw [hx]; exact u_I_late hI) hz2) (fun h => absurd (by rw [he]) h)
theorem lc_changed {n i : Nat} {xs : Nat → Int32} {σ τ : tSt} (hin : i + 6 ≤ n) (hn : n ≤ 3072) (he : aX σ = aM τ) (hI : inv (aX σ)) (hz : aw0 σ) (kk : ∀ σ' τ', aX σ' = aM τ' → inv (aX σ') → aw0 σ' → LT n xs 950 [.ref 0, .ref 1, .ref 2, .int (nI i)] [] σ' τ') : LT n xs 706 [.ref 0, .ref 1, .ref 2, .int (nI i)] [] σ τ := by
  refine lr_aload_n eL_706 rfl ?_
  refine lr_aload_n eL_707 rfl ?_
  refine lr_iload_n eL_708 rfl ?_
  refine lr_iconst eL_709 (nI 1) (by decide) ?_
  refine lr_iadd eL_710 ?_
  rw [nI_add]
  refine lr_sld eL_711 (vp_in_nI (by omega) (by omega)) ?_
  refine lr_callX (as := [.int (xs (tn (nI (i + 1))))]) (st := []) eL_712 zv_X6_changed zi_X6_changed (tWD_i 745 (by decide +kernel) (by decide +kernel)) rfl (by decide) (by decide) rfl rfl rfl (by simp) rfl (u_X_changed hI hz) (fun r ω hq => ?_)
  obtain ⟨rfl, hx, hz2⟩ := hq
  refine lr_aload_n eL_715 rfl ?_
  refine lr_aload_n eL_716 rfl ?_
  refine lr_iload_n eL_717 rfl ?_
  refine lr_iconst eL_718 (nI 1) (by decide) ?_
  refine lr_iadd eL_719 ?_
  rw [nI_add]
  refine lr_sld eL_720 (vp_in_nI (by omega) (by omega)) ?_
  refine lr_callM (as := [.int (xs (tn (nI (i + 1))))]) (st := [_]) eL_721 zv_X7_changed zi_X7_changed (tWD_i 1106 (by decide +kernel) (by decide +kernel)) rfl (by decide) (by decide) rfl rfl rfl (by simp) rfl (u_M_changed (he ▸ hI)) (fun r ω2 hq => ?_)
  obtain ⟨rfl, hm⟩ := hq
  exact lr_icmp_eq eL_724 (fun _ => kk ω ω2 (by rw [hx, hm, he]) (by rw [hx]; exact u_I_changed hI) hz2) (fun h => absurd (by rw [he]) h)
theorem lc_now {n i : Nat} {xs : Nat → Int32} {σ τ : tSt} (hin : i + 6 ≤ n) (hn : n ≤ 3072) (he : aX σ = aM τ) (hI : inv (aX σ)) (hz : aw0 σ) (kk : ∀ σ' τ', aX σ' = aM τ' → inv (aX σ') → aw0 σ' → LT n xs 950 [.ref 0, .ref 1, .ref 2, .int (nI i)] [] σ' τ') : LT n xs 729 [.ref 0, .ref 1, .ref 2, .int (nI i)] [] σ τ := by
  refine lr_aload_n eL_729 rfl ?_
  refine lr_aload_n eL_730 rfl ?_
  refine lr_iload_n eL_731 rfl ?_
  refine lr_iconst eL_732 (nI 1) (by decide) ?_
  refine lr_iadd eL_733 ?_
  rw [nI_add]
  refine lr_sld eL_734 (vp_in_nI (by omega) (by omega)) ?_
  refine lr_callX (as := [.int (xs (tn (nI (i + 1))))]) (st := []) eL_735 zv_X6_now zi_X6_now (tWD_i 753 (by decide +kernel) (by decide +kernel)) rfl (by decide) (by decide) rfl rfl rfl (by simp) rfl (u_X_now hI hz) (fun r ω hq => ?_)
  obtain ⟨rfl, hx, hz2⟩ := hq
  refine lr_aload_n eL_738 rfl ?_
  refine lr_aload_n eL_739 rfl ?_
  refine lr_iload_n eL_740 rfl ?_
  refine lr_iconst eL_741 (nI 1) (by decide) ?_
  refine lr_iadd eL_742 ?_
  rw [nI_add]
  refine lr_sld eL_743 (vp_in_nI (by omega) (by omega)) ?_
  refine lr_callM (as := [.int (xs (tn (nI (i + 1))))]) (st := [_]) eL_744 zv_X7_now zi_X7_now (tWD_i 1110 (by decide +kernel) (by decide +kernel)) rfl (by decide) (by decide) rfl rfl rfl (by simp) rfl (u_M_now (he ▸ hI)) (fun r ω2 hq => ?_)
  obtain ⟨rfl, hm⟩ := hq
  exact lr_icmp_eq eL_747 (fun _ => kk ω ω2 (by rw [hx, hm, he]) (by rw [hx]; exact u_I_now hI) hz2) (fun h => absurd (by rw [he]) h)
theorem lc_waiting {n i : Nat} {xs : Nat → Int32} {σ τ : tSt} (hin : i + 6 ≤ n) (hn : n ≤ 3072) (he : aX σ = aM τ) (hI : inv (aX σ)) (hz : aw0 σ) (kk : ∀ σ' τ', aX σ' = aM τ' → inv (aX σ') → aw0 σ' → LT n xs 950 [.ref 0, .ref 1, .ref 2, .int (nI i)] [] σ' τ') : LT n xs 752 [.ref 0, .ref 1, .ref 2, .int (nI i)] [] σ τ := by
  refine lr_aload_n eL_752 rfl ?_
  refine lr_callX (as := []) (st := []) eL_753 zv_X6_waiting zi_X6_waiting (tWD_i 761 (by decide +kernel) (by decide +kernel)) rfl (by decide) (by decide) rfl rfl rfl (by simp) rfl (u_X_waiting hI hz) (fun r ω hq => ?_)
  obtain ⟨rfl, hx, hz2⟩ := hq
  refine lr_aload_n eL_756 rfl ?_
  refine lr_callM (as := []) (st := [_]) eL_757 zv_X7_waiting zi_X7_waiting (tWD_i 1118 (by decide +kernel) (by decide +kernel)) rfl (by decide) (by decide) rfl rfl rfl (by simp) rfl (u_M_waiting (he ▸ hI)) (fun r ω2 hq => ?_)
  obtain ⟨rfl, hm⟩ := hq
  exact lr_icmp_eq eL_760 (fun _ => kk ω ω2 (by rw [hx, hm, he]) (by rw [hx]; exact u_I_waiting hI) hz2) (fun h => absurd (by rw [he]) h)
theorem lc_swap {n i : Nat} {xs : Nat → Int32} {σ τ : tSt} (hin : i + 6 ≤ n) (hn : n ≤ 3072) (he : aX σ = aM τ) (hI : inv (aX σ)) (hz : aw0 σ) (kk : ∀ σ' τ', aX σ' = aM τ' → inv (aX σ') → aw0 σ' → LT n xs 950 [.ref 0, .ref 1, .ref 2, .int (nI i)] [] σ' τ') : LT n xs 765 [.ref 0, .ref 1, .ref 2, .int (nI i)] [] σ τ := by
  refine lr_aload_n eL_765 rfl ?_
  refine lr_aload_n eL_766 rfl ?_
  refine lr_iload_n eL_767 rfl ?_
  refine lr_iconst eL_768 (nI 1) (by decide) ?_
  refine lr_iadd eL_769 ?_
  rw [nI_add]
  refine lr_sld eL_770 (vp_in_nI (by omega) (by omega)) ?_
  refine lr_aload_n eL_771 rfl ?_
  refine lr_iload_n eL_772 rfl ?_
  refine lr_iconst eL_773 (nI 2) (by decide) ?_
  refine lr_iadd eL_774 ?_
  rw [nI_add]
  refine lr_sld eL_775 (vp_in_nI (by omega) (by omega)) ?_
  refine lr_callX (as := [.int (xs (tn (nI (i + 1)))), .int (xs (tn (nI (i + 2))))]) (st := []) eL_776 zv_X6_swap zi_X6_swap (tWD_i 765 (by decide +kernel) (by decide +kernel)) rfl (by decide) (by decide) rfl rfl rfl (by simp) rfl (u_X_swap hI hz) (fun r ω hq => ?_)
  obtain ⟨rfl, hx, hz2⟩ := hq
  refine lr_aload_n eL_779 rfl ?_
  refine lr_aload_n eL_780 rfl ?_
  refine lr_iload_n eL_781 rfl ?_
  refine lr_iconst eL_782 (nI 1) (by decide) ?_
  refine lr_iadd eL_783 ?_
  rw [nI_add]
  refine lr_sld eL_784 (vp_in_nI (by omega) (by omega)) ?_
  refine lr_aload_n eL_785 rfl ?_
  refine lr_iload_n eL_786 rfl ?_
  refine lr_iconst eL_787 (nI 2) (by decide) ?_
  refine lr_iadd eL_788 ?_
  rw [nI_add]
  refine lr_sld eL_789 (vp_in_nI (by omega) (by omega)) ?_
  refine lr_callM (as := [.int (xs (tn (nI (i + 1)))), .int (xs (tn (nI (i + 2))))]) (st := [_]) eL_790 zv_X7_swap zi_X7_swap (tWD_i 1058 (by decide +kernel) (by decide +kernel)) rfl (by decide) (by decide) rfl rfl rfl (by simp) rfl (u_M_swap (he ▸ hI)) (fun r ω2 hq => ?_)
  obtain ⟨rfl, hm⟩ := hq
  exact lr_icmp_eq eL_793 (fun _ => kk ω ω2 (by rw [hx, hm, he]) (by rw [hx]; exact u_I_swap hI) hz2) (fun h => absurd (by rw [he]) h)
theorem lc_stays {n i : Nat} {xs : Nat → Int32} {σ τ : tSt} (hin : i + 6 ≤ n) (hn : n ≤ 3072) (he : aX σ = aM τ) (hI : inv (aX σ)) (hz : aw0 σ) (kk : ∀ σ' τ', aX σ' = aM τ' → inv (aX σ') → aw0 σ' → LT n xs 950 [.ref 0, .ref 1, .ref 2, .int (nI i)] [] σ' τ') : LT n xs 798 [.ref 0, .ref 1, .ref 2, .int (nI i)] [] σ τ := by
  refine lr_aload_n eL_798 rfl ?_
  refine lr_aload_n eL_799 rfl ?_
  refine lr_iload_n eL_800 rfl ?_
  refine lr_iconst eL_801 (nI 1) (by decide) ?_
  refine lr_iadd eL_802 ?_
  rw [nI_add]
  refine lr_sld eL_803 (vp_in_nI (by omega) (by omega)) ?_
  refine lr_callX (as := [.int (xs (tn (nI (i + 1))))]) (st := []) eL_804 zv_X6_stays zi_X6_stays (tWD_i 780 (by decide +kernel) (by decide +kernel)) rfl (by decide) (by decide) rfl rfl rfl (by simp) rfl (u_X_stays hI hz) (fun r ω hq => ?_)
  obtain ⟨rfl, hx, hz2⟩ := hq
  refine lr_aload_n eL_807 rfl ?_
  refine lr_aload_n eL_808 rfl ?_
  refine lr_iload_n eL_809 rfl ?_
  refine lr_iconst eL_810 (nI 1) (by decide) ?_
  refine lr_iadd eL_811 ?_
  rw [nI_add]
  refine lr_sld eL_812 (vp_in_nI (by omega) (by omega)) ?_
  refine lr_callM (as := [.int (xs (tn (nI (i + 1))))]) (st := [_]) eL_813 zv_X7_stays zi_X7_stays (tWD_i 1122 (by decide +kernel) (by decide +kernel)) rfl (by decide) (by decide) rfl rfl rfl (by simp) rfl (u_M_stays (he ▸ hI)) (fun r ω2 hq => ?_)
  obtain ⟨rfl, hm⟩ := hq
  exact lr_icmp_eq eL_816 (fun _ => kk ω ω2 (by rw [hx, hm, he]) (by rw [hx]; exact u_I_stays hI) hz2) (fun h => absurd (by rw [he]) h)
theorem lc_stay {n i : Nat} {xs : Nat → Int32} {σ τ : tSt} (hin : i + 6 ≤ n) (hn : n ≤ 3072) (he : aX σ = aM τ) (hI : inv (aX σ)) (hz : aw0 σ) (kk : ∀ σ' τ', aX σ' = aM τ' → inv (aX σ') → aw0 σ' → LT n xs 950 [.ref 0, .ref 1, .ref 2, .int (nI i)] [] σ' τ') : LT n xs 821 [.ref 0, .ref 1, .ref 2, .int (nI i)] [] σ τ := by
  refine lr_aload_n eL_821 rfl ?_
  refine lr_aload_n eL_822 rfl ?_
  refine lr_iload_n eL_823 rfl ?_
  refine lr_iconst eL_824 (nI 1) (by decide) ?_
  refine lr_iadd eL_825 ?_
  rw [nI_add]
  refine lr_sld eL_826 (vp_in_nI (by omega) (by omega)) ?_
  refine lr_aload_n eL_827 rfl ?_
  refine lr_iload_n eL_828 rfl ?_
  refine lr_iconst eL_829 (nI 2) (by decide) ?_
  refine lr_iadd eL_830 ?_
  rw [nI_add]
  refine lr_sld eL_831 (vp_in_nI (by omega) (by omega)) ?_
  refine lr_aload_n eL_832 rfl ?_
  refine lr_iload_n eL_833 rfl ?_
  refine lr_iconst eL_834 (nI 3) (by decide) ?_
  refine lr_iadd eL_835 ?_
  rw [nI_add]
  refine lr_sld eL_836 (vp_in_nI (by omega) (by omega)) ?_
  refine lr_callX (as := [.int (xs (tn (nI (i + 1)))), .int (xs (tn (nI (i + 2)))), .int (xs (tn (nI (i + 3))))]) (st := []) eL_837 zv_X6_stay zi_X6_stay (tWD_i 784 (by decide +kernel) (by decide +kernel)) rfl (by decide) (by decide) rfl rfl rfl (by simp) rfl (u_X_stay hI hz) (fun r ω hq => ?_)
  obtain ⟨rfl, hx, hz2⟩ := hq
  refine lr_aload_n eL_840 rfl ?_
  refine lr_aload_n eL_841 rfl ?_
  refine lr_iload_n eL_842 rfl ?_
  refine lr_iconst eL_843 (nI 1) (by decide) ?_
  refine lr_iadd eL_844 ?_
  rw [nI_add]
  refine lr_sld eL_845 (vp_in_nI (by omega) (by omega)) ?_
  refine lr_aload_n eL_846 rfl ?_
  refine lr_iload_n eL_847 rfl ?_
  refine lr_iconst eL_848 (nI 2) (by decide) ?_
  refine lr_iadd eL_849 ?_
  rw [nI_add]
  refine lr_sld eL_850 (vp_in_nI (by omega) (by omega)) ?_
  refine lr_aload_n eL_851 rfl ?_
  refine lr_iload_n eL_852 rfl ?_
  refine lr_iconst eL_853 (nI 3) (by decide) ?_
  refine lr_iadd eL_854 ?_
  rw [nI_add]
  refine lr_sld eL_855 (vp_in_nI (by omega) (by omega)) ?_
  refine lr_callM (as := [.int (xs (tn (nI (i + 1)))), .int (xs (tn (nI (i + 2)))), .int (xs (tn (nI (i + 3))))]) (st := [_]) eL_856 zv_X7_stay zi_X7_stay (tWD_i 1126 (by decide +kernel) (by decide +kernel)) rfl (by decide) (by decide) rfl rfl rfl (by simp) rfl (u_M_stay (he ▸ hI)) (fun r ω2 hq => ?_)
  obtain ⟨rfl, hm⟩ := hq
  exact lr_icmp_eq eL_859 (fun _ => kk ω ω2 (by rw [hx, hm, he]) (by rw [hx]; exact u_I_stay hI) hz2) (fun h => absurd (by rw [he]) h)
theorem lc_at {n i : Nat} {xs : Nat → Int32} {σ τ : tSt} (hin : i + 6 ≤ n) (hn : n ≤ 3072) (he : aX σ = aM τ) (hI : inv (aX σ)) (hz : aw0 σ) (kk : ∀ σ' τ', aX σ' = aM τ' → inv (aX σ') → aw0 σ' → LT n xs 950 [.ref 0, .ref 1, .ref 2, .int (nI i)] [] σ' τ') : LT n xs 864 [.ref 0, .ref 1, .ref 2, .int (nI i)] [] σ τ := by
  refine lr_aload_n eL_864 rfl ?_
  refine lr_aload_n eL_865 rfl ?_
  refine lr_iload_n eL_866 rfl ?_
  refine lr_iconst eL_867 (nI 1) (by decide) ?_
  refine lr_iadd eL_868 ?_
  rw [nI_add]
  refine lr_sld eL_869 (vp_in_nI (by omega) (by omega)) ?_
  refine lr_aload_n eL_870 rfl ?_
  refine lr_iload_n eL_871 rfl ?_
  refine lr_iconst eL_872 (nI 2) (by decide) ?_
  refine lr_iadd eL_873 ?_
  rw [nI_add]
  refine lr_sld eL_874 (vp_in_nI (by omega) (by omega)) ?_
  refine lr_aload_n eL_875 rfl ?_
  refine lr_iload_n eL_876 rfl ?_
  refine lr_iconst eL_877 (nI 3) (by decide) ?_
  refine lr_iadd eL_878 ?_
  rw [nI_add]
  refine lr_sld eL_879 (vp_in_nI (by omega) (by omega)) ?_
  refine lr_callX (as := [.int (xs (tn (nI (i + 1)))), .int (xs (tn (nI (i + 2)))), .int (xs (tn (nI (i + 3))))]) (st := []) eL_880 zv_X6_at zi_X6_at (tWD_i 788 (by decide +kernel) (by decide +kernel)) rfl (by decide) (by decide) rfl rfl rfl (by simp) rfl (u_X_at hI hz) (fun r ω hq => ?_)
  obtain ⟨rfl, hx, hz2⟩ := hq
  refine lr_aload_n eL_883 rfl ?_
  refine lr_aload_n eL_884 rfl ?_
  refine lr_iload_n eL_885 rfl ?_
  refine lr_iconst eL_886 (nI 1) (by decide) ?_
  refine lr_iadd eL_887 ?_
  rw [nI_add]
  refine lr_sld eL_888 (vp_in_nI (by omega) (by omega)) ?_
  refine lr_aload_n eL_889 rfl ?_
  refine lr_iload_n eL_890 rfl ?_
  refine lr_iconst eL_891 (nI 2) (by decide) ?_
  refine lr_iadd eL_892 ?_
  rw [nI_add]
  refine lr_sld eL_893 (vp_in_nI (by omega) (by omega)) ?_
  refine lr_aload_n eL_894 rfl ?_
  refine lr_iload_n eL_895 rfl ?_
  refine lr_iconst eL_896 (nI 3) (by decide) ?_
  refine lr_iadd eL_897 ?_
  rw [nI_add]
  refine lr_sld eL_898 (vp_in_nI (by omega) (by omega)) ?_
  refine lr_callM (as := [.int (xs (tn (nI (i + 1)))), .int (xs (tn (nI (i + 2)))), .int (xs (tn (nI (i + 3))))]) (st := [_]) eL_899 zv_X7_at zi_X7_at (tWD_i 1130 (by decide +kernel) (by decide +kernel)) rfl (by decide) (by decide) rfl rfl rfl (by simp) rfl (u_M_at (he ▸ hI)) (fun r ω2 hq => ?_)
  obtain ⟨rfl, hm⟩ := hq
  exact lr_icmp_eq eL_902 (fun _ => kk ω ω2 (by rw [hx, hm, he]) (by rw [hx]; exact u_I_at hI) hz2) (fun h => absurd (by rw [he]) h)
theorem lc_crowd {n i : Nat} {xs : Nat → Int32} {σ τ : tSt} (hin : i + 6 ≤ n) (hn : n ≤ 3072) (he : aX σ = aM τ) (hI : inv (aX σ)) (hz : aw0 σ) (kk : ∀ σ' τ', aX σ' = aM τ' → inv (aX σ') → aw0 σ' → LT n xs 950 [.ref 0, .ref 1, .ref 2, .int (nI i)] [] σ' τ') : LT n xs 907 [.ref 0, .ref 1, .ref 2, .int (nI i)] [] σ τ := by
  refine lr_aload_n eL_907 rfl ?_
  refine lr_aload_n eL_908 rfl ?_
  refine lr_iload_n eL_909 rfl ?_
  refine lr_iconst eL_910 (nI 1) (by decide) ?_
  refine lr_iadd eL_911 ?_
  rw [nI_add]
  refine lr_sld eL_912 (vp_in_nI (by omega) (by omega)) ?_
  refine lr_aload_n eL_913 rfl ?_
  refine lr_iload_n eL_914 rfl ?_
  refine lr_iconst eL_915 (nI 2) (by decide) ?_
  refine lr_iadd eL_916 ?_
  rw [nI_add]
  refine lr_sld eL_917 (vp_in_nI (by omega) (by omega)) ?_
  refine lr_aload_n eL_918 rfl ?_
  refine lr_iload_n eL_919 rfl ?_
  refine lr_iconst eL_920 (nI 3) (by decide) ?_
  refine lr_iadd eL_921 ?_
  rw [nI_add]
  refine lr_sld eL_922 (vp_in_nI (by omega) (by omega)) ?_
  refine lr_callX (as := [.int (xs (tn (nI (i + 1)))), .int (xs (tn (nI (i + 2)))), .int (xs (tn (nI (i + 3))))]) (st := []) eL_923 zv_X6_crowd zi_X6_crowd (tWD_i 798 (by decide +kernel) (by decide +kernel)) rfl (by decide) (by decide) rfl rfl rfl (by simp) rfl (u_X_crowd hI hz) (fun r ω hq => ?_)
  obtain ⟨rfl, hx, hz2⟩ := hq
  refine lr_aload_n eL_926 rfl ?_
  refine lr_aload_n eL_927 rfl ?_
  refine lr_iload_n eL_928 rfl ?_
  refine lr_iconst eL_929 (nI 1) (by decide) ?_
  refine lr_iadd eL_930 ?_
  rw [nI_add]
  refine lr_sld eL_931 (vp_in_nI (by omega) (by omega)) ?_
  refine lr_aload_n eL_932 rfl ?_
  refine lr_iload_n eL_933 rfl ?_
  refine lr_iconst eL_934 (nI 2) (by decide) ?_
  refine lr_iadd eL_935 ?_
  rw [nI_add]
  refine lr_sld eL_936 (vp_in_nI (by omega) (by omega)) ?_
  refine lr_aload_n eL_937 rfl ?_
  refine lr_iload_n eL_938 rfl ?_
  refine lr_iconst eL_939 (nI 3) (by decide) ?_
  refine lr_iadd eL_940 ?_
  rw [nI_add]
  refine lr_sld eL_941 (vp_in_nI (by omega) (by omega)) ?_
  refine lr_callM (as := [.int (xs (tn (nI (i + 1)))), .int (xs (tn (nI (i + 2)))), .int (xs (tn (nI (i + 3))))]) (st := [_]) eL_942 zv_X7_crowd zi_X7_crowd (tWD_i 1134 (by decide +kernel) (by decide +kernel)) rfl (by decide) (by decide) rfl rfl rfl (by simp) rfl (u_M_crowd (he ▸ hI)) (fun r ω2 hq => ?_)
  obtain ⟨rfl, hm⟩ := hq
  exact lr_icmp_eq eL_945 (fun _ => kk ω ω2 (by rw [hx, hm, he]) (by rw [hx]; exact u_I_crowd hI) hz2) (fun h => absurd (by rw [he]) h)
