/-! the law: cases 0 to 6 -/
theorem d_law_244 : decode code 244 = .ok (.aload_n 1, 1) := by decide +kernel
theorem d_law_245 : decode code 245 = .ok (.aload_n 0, 1) := by decide +kernel
theorem d_law_246 : decode code 246 = .ok (.iload_n 3, 1) := by decide +kernel
theorem d_law_247 : decode code 247 = .ok (.iconst 1, 1) := by decide +kernel
theorem d_law_248 : decode code 248 = .ok (.iadd, 1) := by decide +kernel
theorem d_law_249 : decode code 249 = .ok (.iaload, 1) := by decide +kernel
theorem d_law_250 : decode code 250 = .ok (.aload_n 0, 1) := by decide +kernel
theorem d_law_251 : decode code 251 = .ok (.iload_n 3, 1) := by decide +kernel
theorem d_law_252 : decode code 252 = .ok (.iconst 2, 1) := by decide +kernel
theorem d_law_253 : decode code 253 = .ok (.iadd, 1) := by decide +kernel
theorem d_law_254 : decode code 254 = .ok (.iaload, 1) := by decide +kernel
theorem d_law_255 : decode code 255 = .ok (.invokevirtual 13, 3) := by decide +kernel
theorem d_law_258 : decode code 258 = .ok (.aload_n 2, 1) := by decide +kernel
theorem d_law_259 : decode code 259 = .ok (.aload_n 0, 1) := by decide +kernel
theorem d_law_260 : decode code 260 = .ok (.iload_n 3, 1) := by decide +kernel
theorem d_law_261 : decode code 261 = .ok (.iconst 1, 1) := by decide +kernel
theorem d_law_262 : decode code 262 = .ok (.iadd, 1) := by decide +kernel
theorem d_law_263 : decode code 263 = .ok (.iaload, 1) := by decide +kernel
theorem d_law_264 : decode code 264 = .ok (.aload_n 0, 1) := by decide +kernel
theorem d_law_265 : decode code 265 = .ok (.iload_n 3, 1) := by decide +kernel
theorem d_law_266 : decode code 266 = .ok (.iconst 2, 1) := by decide +kernel
theorem d_law_267 : decode code 267 = .ok (.iadd, 1) := by decide +kernel
theorem d_law_268 : decode code 268 = .ok (.iaload, 1) := by decide +kernel
theorem d_law_269 : decode code 269 = .ok (.invokevirtual 17, 3) := by decide +kernel
theorem d_law_272 : decode code 272 = .ok (.if_icmp .eq 1322, 3) := by decide +kernel
theorem law_c0 {Γ : GmT} {b L : Nat} {xs : Nat → Int32} {CL SL : Nat} {G : Dt → Nat → List (Nat × Value) → List Value → Prop} (C : LawG Γ b L xs CL SL G) {D : Dt} {i : Int32} (hI : Inv D) (hin : vp_in (i + 1) L ∧ vp_in (i + 2) L ∧ vp_in (i + 3) L ∧ vp_in (i + 4) L ∧ vp_in (i + 5) L) (next : ∀ D2, Inv D2 → G D2 1594 (lvL Γ b i) []) : G D 244 (lvL Γ b i) [] := by
  obtain ⟨x, D1, D2, h1, h2, hI2⟩ := both_row hI (xs (i + 1).toNatClampNeg) (xs (i + 2).toNatClampNeg)
  refine l_aload C 1 d_law_244 rfl rfl ?_
  refine l_arg C d_law_245 d_law_246 d_law_247 rfl d_law_248 d_law_249 rfl rfl hin.1 ?_
  refine l_arg C d_law_250 d_law_251 d_law_252 rfl d_law_253 d_law_254 rfl rfl hin.2.1 ?_
  refine l_call C (As := [.int (xs (i + 1).toNatClampNeg), .int (xs (i + 2).toNatClampNeg)]) (rest := []) ok_Root_row (List.mem_of_getElem? (i := 376) (by decide +kernel)) k_id0 (by decide) ⟨Nat.le_of_ble_eq_true rfl, Nat.le_of_ble_eq_true rfl⟩ rfl rfl (Nat.le_of_ble_eq_true rfl) d_law_255 (c_Root_row Γ h1) ?_
  refine l_aload C 2 d_law_258 rfl rfl ?_
  refine l_arg C d_law_259 d_law_260 d_law_261 rfl d_law_262 d_law_263 rfl rfl hin.1 ?_
  refine l_arg C d_law_264 d_law_265 d_law_266 rfl d_law_267 d_law_268 rfl rfl hin.2.1 ?_
  refine l_call C (As := [.int (xs (i + 1).toNatClampNeg), .int (xs (i + 2).toNatClampNeg)]) (rest := [.int x]) ok_Model_row (List.mem_of_getElem? (i := 1232) (by decide +kernel)) k_id176 (by decide) ⟨Nat.le_of_ble_eq_true rfl, Nat.le_of_ble_eq_true rfl⟩ rfl rfl (Nat.le_of_ble_eq_true rfl) d_law_269 (c_Model_row Γ h2) ?_
  refine l_icmpeq C d_law_272 (tgt := 1594) (by decide) ?_
  exact next D2 hI2
theorem d_law_277 : decode code 277 = .ok (.aload_n 1, 1) := by decide +kernel
theorem d_law_278 : decode code 278 = .ok (.aload_n 0, 1) := by decide +kernel
theorem d_law_279 : decode code 279 = .ok (.iload_n 3, 1) := by decide +kernel
theorem d_law_280 : decode code 280 = .ok (.iconst 1, 1) := by decide +kernel
theorem d_law_281 : decode code 281 = .ok (.iadd, 1) := by decide +kernel
theorem d_law_282 : decode code 282 = .ok (.iaload, 1) := by decide +kernel
theorem d_law_283 : decode code 283 = .ok (.aload_n 0, 1) := by decide +kernel
theorem d_law_284 : decode code 284 = .ok (.iload_n 3, 1) := by decide +kernel
theorem d_law_285 : decode code 285 = .ok (.iconst 2, 1) := by decide +kernel
theorem d_law_286 : decode code 286 = .ok (.iadd, 1) := by decide +kernel
theorem d_law_287 : decode code 287 = .ok (.iaload, 1) := by decide +kernel
theorem d_law_288 : decode code 288 = .ok (.aload_n 0, 1) := by decide +kernel
theorem d_law_289 : decode code 289 = .ok (.iload_n 3, 1) := by decide +kernel
theorem d_law_290 : decode code 290 = .ok (.iconst 3, 1) := by decide +kernel
theorem d_law_291 : decode code 291 = .ok (.iadd, 1) := by decide +kernel
theorem d_law_292 : decode code 292 = .ok (.iaload, 1) := by decide +kernel
theorem d_law_293 : decode code 293 = .ok (.invokevirtual 18, 3) := by decide +kernel
theorem d_law_296 : decode code 296 = .ok (.aload_n 2, 1) := by decide +kernel
theorem d_law_297 : decode code 297 = .ok (.aload_n 0, 1) := by decide +kernel
theorem d_law_298 : decode code 298 = .ok (.iload_n 3, 1) := by decide +kernel
theorem d_law_299 : decode code 299 = .ok (.iconst 1, 1) := by decide +kernel
theorem d_law_300 : decode code 300 = .ok (.iadd, 1) := by decide +kernel
theorem d_law_301 : decode code 301 = .ok (.iaload, 1) := by decide +kernel
theorem d_law_302 : decode code 302 = .ok (.aload_n 0, 1) := by decide +kernel
theorem d_law_303 : decode code 303 = .ok (.iload_n 3, 1) := by decide +kernel
theorem d_law_304 : decode code 304 = .ok (.iconst 2, 1) := by decide +kernel
theorem d_law_305 : decode code 305 = .ok (.iadd, 1) := by decide +kernel
theorem d_law_306 : decode code 306 = .ok (.iaload, 1) := by decide +kernel
theorem d_law_307 : decode code 307 = .ok (.aload_n 0, 1) := by decide +kernel
theorem d_law_308 : decode code 308 = .ok (.iload_n 3, 1) := by decide +kernel
theorem d_law_309 : decode code 309 = .ok (.iconst 3, 1) := by decide +kernel
theorem d_law_310 : decode code 310 = .ok (.iadd, 1) := by decide +kernel
theorem d_law_311 : decode code 311 = .ok (.iaload, 1) := by decide +kernel
theorem d_law_312 : decode code 312 = .ok (.invokevirtual 22, 3) := by decide +kernel
theorem d_law_315 : decode code 315 = .ok (.if_icmp .eq 1279, 3) := by decide +kernel
theorem law_c1 {Γ : GmT} {b L : Nat} {xs : Nat → Int32} {CL SL : Nat} {G : Dt → Nat → List (Nat × Value) → List Value → Prop} (C : LawG Γ b L xs CL SL G) {D : Dt} {i : Int32} (hI : Inv D) (hin : vp_in (i + 1) L ∧ vp_in (i + 2) L ∧ vp_in (i + 3) L ∧ vp_in (i + 4) L ∧ vp_in (i + 5) L) (next : ∀ D2, Inv D2 → G D2 1594 (lvL Γ b i) []) : G D 277 (lvL Γ b i) [] := by
  obtain ⟨x, D1, D2, h1, h2, hI2⟩ := both_lay hI (xs (i + 1).toNatClampNeg) (xs (i + 2).toNatClampNeg) (xs (i + 3).toNatClampNeg)
  refine l_aload C 1 d_law_277 rfl rfl ?_
  refine l_arg C d_law_278 d_law_279 d_law_280 rfl d_law_281 d_law_282 rfl rfl hin.1 ?_
  refine l_arg C d_law_283 d_law_284 d_law_285 rfl d_law_286 d_law_287 rfl rfl hin.2.1 ?_
  refine l_arg C d_law_288 d_law_289 d_law_290 rfl d_law_291 d_law_292 rfl rfl hin.2.2.1 ?_
  refine l_call C (As := [.int (xs (i + 1).toNatClampNeg), .int (xs (i + 2).toNatClampNeg), .int (xs (i + 3).toNatClampNeg)]) (rest := []) ok_Root_lay (List.mem_of_getElem? (i := 397) (by decide +kernel)) k_id0 (by decide) ⟨Nat.le_of_ble_eq_true rfl, Nat.le_of_ble_eq_true rfl⟩ rfl rfl (Nat.le_of_ble_eq_true rfl) d_law_293 (c_Root_lay Γ h1) ?_
  refine l_aload C 2 d_law_296 rfl rfl ?_
  refine l_arg C d_law_297 d_law_298 d_law_299 rfl d_law_300 d_law_301 rfl rfl hin.1 ?_
  refine l_arg C d_law_302 d_law_303 d_law_304 rfl d_law_305 d_law_306 rfl rfl hin.2.1 ?_
  refine l_arg C d_law_307 d_law_308 d_law_309 rfl d_law_310 d_law_311 rfl rfl hin.2.2.1 ?_
  refine l_call C (As := [.int (xs (i + 1).toNatClampNeg), .int (xs (i + 2).toNatClampNeg), .int (xs (i + 3).toNatClampNeg)]) (rest := [.int x]) ok_Model_lay (List.mem_of_getElem? (i := 1243) (by decide +kernel)) k_id176 (by decide) ⟨Nat.le_of_ble_eq_true rfl, Nat.le_of_ble_eq_true rfl⟩ rfl rfl (Nat.le_of_ble_eq_true rfl) d_law_312 (c_Model_lay Γ h2) ?_
  refine l_icmpeq C d_law_315 (tgt := 1594) (by decide) ?_
  exact next D2 hI2
theorem d_law_320 : decode code 320 = .ok (.aload_n 1, 1) := by decide +kernel
theorem d_law_321 : decode code 321 = .ok (.aload_n 0, 1) := by decide +kernel
theorem d_law_322 : decode code 322 = .ok (.iload_n 3, 1) := by decide +kernel
theorem d_law_323 : decode code 323 = .ok (.iconst 1, 1) := by decide +kernel
theorem d_law_324 : decode code 324 = .ok (.iadd, 1) := by decide +kernel
theorem d_law_325 : decode code 325 = .ok (.iaload, 1) := by decide +kernel
theorem d_law_326 : decode code 326 = .ok (.aload_n 0, 1) := by decide +kernel
theorem d_law_327 : decode code 327 = .ok (.iload_n 3, 1) := by decide +kernel
theorem d_law_328 : decode code 328 = .ok (.iconst 2, 1) := by decide +kernel
theorem d_law_329 : decode code 329 = .ok (.iadd, 1) := by decide +kernel
theorem d_law_330 : decode code 330 = .ok (.iaload, 1) := by decide +kernel
theorem d_law_331 : decode code 331 = .ok (.invokevirtual 23, 3) := by decide +kernel
theorem d_law_334 : decode code 334 = .ok (.aload_n 2, 1) := by decide +kernel
theorem d_law_335 : decode code 335 = .ok (.aload_n 0, 1) := by decide +kernel
theorem d_law_336 : decode code 336 = .ok (.iload_n 3, 1) := by decide +kernel
theorem d_law_337 : decode code 337 = .ok (.iconst 1, 1) := by decide +kernel
theorem d_law_338 : decode code 338 = .ok (.iadd, 1) := by decide +kernel
theorem d_law_339 : decode code 339 = .ok (.iaload, 1) := by decide +kernel
theorem d_law_340 : decode code 340 = .ok (.aload_n 0, 1) := by decide +kernel
theorem d_law_341 : decode code 341 = .ok (.iload_n 3, 1) := by decide +kernel
theorem d_law_342 : decode code 342 = .ok (.iconst 2, 1) := by decide +kernel
theorem d_law_343 : decode code 343 = .ok (.iadd, 1) := by decide +kernel
theorem d_law_344 : decode code 344 = .ok (.iaload, 1) := by decide +kernel
theorem d_law_345 : decode code 345 = .ok (.invokevirtual 26, 3) := by decide +kernel
theorem d_law_348 : decode code 348 = .ok (.if_icmp .eq 1246, 3) := by decide +kernel
theorem law_c2 {Γ : GmT} {b L : Nat} {xs : Nat → Int32} {CL SL : Nat} {G : Dt → Nat → List (Nat × Value) → List Value → Prop} (C : LawG Γ b L xs CL SL G) {D : Dt} {i : Int32} (hI : Inv D) (hin : vp_in (i + 1) L ∧ vp_in (i + 2) L ∧ vp_in (i + 3) L ∧ vp_in (i + 4) L ∧ vp_in (i + 5) L) (next : ∀ D2, Inv D2 → G D2 1594 (lvL Γ b i) []) : G D 320 (lvL Γ b i) [] := by
  obtain ⟨x, D1, D2, h1, h2, hI2⟩ := both_at hI (xs (i + 1).toNatClampNeg) (xs (i + 2).toNatClampNeg)
  refine l_aload C 1 d_law_320 rfl rfl ?_
  refine l_arg C d_law_321 d_law_322 d_law_323 rfl d_law_324 d_law_325 rfl rfl hin.1 ?_
  refine l_arg C d_law_326 d_law_327 d_law_328 rfl d_law_329 d_law_330 rfl rfl hin.2.1 ?_
  refine l_call C (As := [.int (xs (i + 1).toNatClampNeg), .int (xs (i + 2).toNatClampNeg)]) (rest := []) ok_Root_at (List.mem_of_getElem? (i := 417) (by decide +kernel)) k_id0 (by decide) ⟨Nat.le_of_ble_eq_true rfl, Nat.le_of_ble_eq_true rfl⟩ rfl rfl (Nat.le_of_ble_eq_true rfl) d_law_331 (c_Root_at Γ h1) ?_
  refine l_aload C 2 d_law_334 rfl rfl ?_
  refine l_arg C d_law_335 d_law_336 d_law_337 rfl d_law_338 d_law_339 rfl rfl hin.1 ?_
  refine l_arg C d_law_340 d_law_341 d_law_342 rfl d_law_343 d_law_344 rfl rfl hin.2.1 ?_
  refine l_call C (As := [.int (xs (i + 1).toNatClampNeg), .int (xs (i + 2).toNatClampNeg)]) (rest := [.int x]) ok_Model_at (List.mem_of_getElem? (i := 1255) (by decide +kernel)) k_id176 (by decide) ⟨Nat.le_of_ble_eq_true rfl, Nat.le_of_ble_eq_true rfl⟩ rfl rfl (Nat.le_of_ble_eq_true rfl) d_law_345 (c_Model_at Γ h2) ?_
  refine l_icmpeq C d_law_348 (tgt := 1594) (by decide) ?_
  exact next D2 hI2
theorem d_law_353 : decode code 353 = .ok (.aload_n 1, 1) := by decide +kernel
theorem d_law_354 : decode code 354 = .ok (.aload_n 0, 1) := by decide +kernel
theorem d_law_355 : decode code 355 = .ok (.iload_n 3, 1) := by decide +kernel
theorem d_law_356 : decode code 356 = .ok (.iconst 1, 1) := by decide +kernel
theorem d_law_357 : decode code 357 = .ok (.iadd, 1) := by decide +kernel
theorem d_law_358 : decode code 358 = .ok (.iaload, 1) := by decide +kernel
theorem d_law_359 : decode code 359 = .ok (.invokevirtual 27, 3) := by decide +kernel
theorem d_law_362 : decode code 362 = .ok (.aload_n 2, 1) := by decide +kernel
theorem d_law_363 : decode code 363 = .ok (.aload_n 0, 1) := by decide +kernel
theorem d_law_364 : decode code 364 = .ok (.iload_n 3, 1) := by decide +kernel
theorem d_law_365 : decode code 365 = .ok (.iconst 1, 1) := by decide +kernel
theorem d_law_366 : decode code 366 = .ok (.iadd, 1) := by decide +kernel
theorem d_law_367 : decode code 367 = .ok (.iaload, 1) := by decide +kernel
theorem d_law_368 : decode code 368 = .ok (.invokevirtual 31, 3) := by decide +kernel
theorem d_law_371 : decode code 371 = .ok (.if_icmp .eq 1223, 3) := by decide +kernel
theorem law_c3 {Γ : GmT} {b L : Nat} {xs : Nat → Int32} {CL SL : Nat} {G : Dt → Nat → List (Nat × Value) → List Value → Prop} (C : LawG Γ b L xs CL SL G) {D : Dt} {i : Int32} (hI : Inv D) (hin : vp_in (i + 1) L ∧ vp_in (i + 2) L ∧ vp_in (i + 3) L ∧ vp_in (i + 4) L ∧ vp_in (i + 5) L) (next : ∀ D2, Inv D2 → G D2 1594 (lvL Γ b i) []) : G D 353 (lvL Γ b i) [] := by
  obtain ⟨x, D1, D2, h1, h2, hI2⟩ := both_tear hI (xs (i + 1).toNatClampNeg)
  refine l_aload C 1 d_law_353 rfl rfl ?_
  refine l_arg C d_law_354 d_law_355 d_law_356 rfl d_law_357 d_law_358 rfl rfl hin.1 ?_
  refine l_call C (As := [.int (xs (i + 1).toNatClampNeg)]) (rest := []) ok_Root_tear (List.mem_of_getElem? (i := 421) (by decide +kernel)) k_id0 (by decide) ⟨Nat.le_of_ble_eq_true rfl, Nat.le_of_ble_eq_true rfl⟩ rfl rfl (Nat.le_of_ble_eq_true rfl) d_law_359 (c_Root_tear Γ h1) ?_
  refine l_aload C 2 d_law_362 rfl rfl ?_
  refine l_arg C d_law_363 d_law_364 d_law_365 rfl d_law_366 d_law_367 rfl rfl hin.1 ?_
  refine l_call C (As := [.int (xs (i + 1).toNatClampNeg)]) (rest := [.int x]) ok_Model_tear (List.mem_of_getElem? (i := 1259) (by decide +kernel)) k_id176 (by decide) ⟨Nat.le_of_ble_eq_true rfl, Nat.le_of_ble_eq_true rfl⟩ rfl rfl (Nat.le_of_ble_eq_true rfl) d_law_368 (c_Model_tear Γ h2) ?_
  refine l_icmpeq C d_law_371 (tgt := 1594) (by decide) ?_
  exact next D2 hI2
theorem d_law_376 : decode code 376 = .ok (.aload_n 1, 1) := by decide +kernel
theorem d_law_377 : decode code 377 = .ok (.aload_n 0, 1) := by decide +kernel
theorem d_law_378 : decode code 378 = .ok (.iload_n 3, 1) := by decide +kernel
theorem d_law_379 : decode code 379 = .ok (.iconst 1, 1) := by decide +kernel
theorem d_law_380 : decode code 380 = .ok (.iadd, 1) := by decide +kernel
theorem d_law_381 : decode code 381 = .ok (.iaload, 1) := by decide +kernel
theorem d_law_382 : decode code 382 = .ok (.aload_n 0, 1) := by decide +kernel
theorem d_law_383 : decode code 383 = .ok (.iload_n 3, 1) := by decide +kernel
theorem d_law_384 : decode code 384 = .ok (.iconst 2, 1) := by decide +kernel
theorem d_law_385 : decode code 385 = .ok (.iadd, 1) := by decide +kernel
theorem d_law_386 : decode code 386 = .ok (.iaload, 1) := by decide +kernel
theorem d_law_387 : decode code 387 = .ok (.aload_n 0, 1) := by decide +kernel
theorem d_law_388 : decode code 388 = .ok (.iload_n 3, 1) := by decide +kernel
theorem d_law_389 : decode code 389 = .ok (.iconst 3, 1) := by decide +kernel
theorem d_law_390 : decode code 390 = .ok (.iadd, 1) := by decide +kernel
theorem d_law_391 : decode code 391 = .ok (.iaload, 1) := by decide +kernel
theorem d_law_392 : decode code 392 = .ok (.aload_n 0, 1) := by decide +kernel
theorem d_law_393 : decode code 393 = .ok (.iload_n 3, 1) := by decide +kernel
theorem d_law_394 : decode code 394 = .ok (.iconst 4, 1) := by decide +kernel
theorem d_law_395 : decode code 395 = .ok (.iadd, 1) := by decide +kernel
theorem d_law_396 : decode code 396 = .ok (.iaload, 1) := by decide +kernel
theorem d_law_397 : decode code 397 = .ok (.aload_n 0, 1) := by decide +kernel
theorem d_law_398 : decode code 398 = .ok (.iload_n 3, 1) := by decide +kernel
theorem d_law_399 : decode code 399 = .ok (.iconst 5, 1) := by decide +kernel
theorem d_law_400 : decode code 400 = .ok (.iadd, 1) := by decide +kernel
theorem d_law_401 : decode code 401 = .ok (.iaload, 1) := by decide +kernel
theorem d_law_402 : decode code 402 = .ok (.invokevirtual 32, 3) := by decide +kernel
theorem d_law_405 : decode code 405 = .ok (.aload_n 2, 1) := by decide +kernel
theorem d_law_406 : decode code 406 = .ok (.aload_n 0, 1) := by decide +kernel
theorem d_law_407 : decode code 407 = .ok (.iload_n 3, 1) := by decide +kernel
theorem d_law_408 : decode code 408 = .ok (.iconst 1, 1) := by decide +kernel
theorem d_law_409 : decode code 409 = .ok (.iadd, 1) := by decide +kernel
theorem d_law_410 : decode code 410 = .ok (.iaload, 1) := by decide +kernel
theorem d_law_411 : decode code 411 = .ok (.aload_n 0, 1) := by decide +kernel
theorem d_law_412 : decode code 412 = .ok (.iload_n 3, 1) := by decide +kernel
theorem d_law_413 : decode code 413 = .ok (.iconst 2, 1) := by decide +kernel
theorem d_law_414 : decode code 414 = .ok (.iadd, 1) := by decide +kernel
theorem d_law_415 : decode code 415 = .ok (.iaload, 1) := by decide +kernel
theorem d_law_416 : decode code 416 = .ok (.aload_n 0, 1) := by decide +kernel
theorem d_law_417 : decode code 417 = .ok (.iload_n 3, 1) := by decide +kernel
theorem d_law_418 : decode code 418 = .ok (.iconst 3, 1) := by decide +kernel
theorem d_law_419 : decode code 419 = .ok (.iadd, 1) := by decide +kernel
theorem d_law_420 : decode code 420 = .ok (.iaload, 1) := by decide +kernel
theorem d_law_421 : decode code 421 = .ok (.aload_n 0, 1) := by decide +kernel
theorem d_law_422 : decode code 422 = .ok (.iload_n 3, 1) := by decide +kernel
theorem d_law_423 : decode code 423 = .ok (.iconst 4, 1) := by decide +kernel
theorem d_law_424 : decode code 424 = .ok (.iadd, 1) := by decide +kernel
theorem d_law_425 : decode code 425 = .ok (.iaload, 1) := by decide +kernel
theorem d_law_426 : decode code 426 = .ok (.aload_n 0, 1) := by decide +kernel
theorem d_law_427 : decode code 427 = .ok (.iload_n 3, 1) := by decide +kernel
theorem d_law_428 : decode code 428 = .ok (.iconst 5, 1) := by decide +kernel
theorem d_law_429 : decode code 429 = .ok (.iadd, 1) := by decide +kernel
theorem d_law_430 : decode code 430 = .ok (.iaload, 1) := by decide +kernel
theorem d_law_431 : decode code 431 = .ok (.invokevirtual 36, 3) := by decide +kernel
theorem d_law_434 : decode code 434 = .ok (.if_icmp .eq 1160, 3) := by decide +kernel
theorem law_c4 {Γ : GmT} {b L : Nat} {xs : Nat → Int32} {CL SL : Nat} {G : Dt → Nat → List (Nat × Value) → List Value → Prop} (C : LawG Γ b L xs CL SL G) {D : Dt} {i : Int32} (hI : Inv D) (hin : vp_in (i + 1) L ∧ vp_in (i + 2) L ∧ vp_in (i + 3) L ∧ vp_in (i + 4) L ∧ vp_in (i + 5) L) (next : ∀ D2, Inv D2 → G D2 1594 (lvL Γ b i) []) : G D 376 (lvL Γ b i) [] := by
  obtain ⟨x, D1, D2, h1, h2, hI2⟩ := both_copy hI (xs (i + 1).toNatClampNeg) (xs (i + 2).toNatClampNeg) (xs (i + 3).toNatClampNeg) (xs (i + 4).toNatClampNeg) (xs (i + 5).toNatClampNeg)
  refine l_aload C 1 d_law_376 rfl rfl ?_
  refine l_arg C d_law_377 d_law_378 d_law_379 rfl d_law_380 d_law_381 rfl rfl hin.1 ?_
  refine l_arg C d_law_382 d_law_383 d_law_384 rfl d_law_385 d_law_386 rfl rfl hin.2.1 ?_
  refine l_arg C d_law_387 d_law_388 d_law_389 rfl d_law_390 d_law_391 rfl rfl hin.2.2.1 ?_
  refine l_arg C d_law_392 d_law_393 d_law_394 rfl d_law_395 d_law_396 rfl rfl hin.2.2.2.1 ?_
  refine l_arg C d_law_397 d_law_398 d_law_399 rfl d_law_400 d_law_401 rfl rfl hin.2.2.2.2 ?_
  refine l_call C (As := [.int (xs (i + 1).toNatClampNeg), .int (xs (i + 2).toNatClampNeg), .int (xs (i + 3).toNatClampNeg), .int (xs (i + 4).toNatClampNeg), .int (xs (i + 5).toNatClampNeg)]) (rest := []) ok_Root_copy (List.mem_of_getElem? (i := 425) (by decide +kernel)) k_id0 (by decide) ⟨Nat.le_of_ble_eq_true rfl, Nat.le_of_ble_eq_true rfl⟩ rfl rfl (Nat.le_of_ble_eq_true rfl) d_law_402 (c_Root_copy Γ h1) ?_
  refine l_aload C 2 d_law_405 rfl rfl ?_
  refine l_arg C d_law_406 d_law_407 d_law_408 rfl d_law_409 d_law_410 rfl rfl hin.1 ?_
  refine l_arg C d_law_411 d_law_412 d_law_413 rfl d_law_414 d_law_415 rfl rfl hin.2.1 ?_
  refine l_arg C d_law_416 d_law_417 d_law_418 rfl d_law_419 d_law_420 rfl rfl hin.2.2.1 ?_
  refine l_arg C d_law_421 d_law_422 d_law_423 rfl d_law_424 d_law_425 rfl rfl hin.2.2.2.1 ?_
  refine l_arg C d_law_426 d_law_427 d_law_428 rfl d_law_429 d_law_430 rfl rfl hin.2.2.2.2 ?_
  refine l_call C (As := [.int (xs (i + 1).toNatClampNeg), .int (xs (i + 2).toNatClampNeg), .int (xs (i + 3).toNatClampNeg), .int (xs (i + 4).toNatClampNeg), .int (xs (i + 5).toNatClampNeg)]) (rest := [.int x]) ok_Model_copy (List.mem_of_getElem? (i := 1263) (by decide +kernel)) k_id176 (by decide) ⟨Nat.le_of_ble_eq_true rfl, Nat.le_of_ble_eq_true rfl⟩ rfl rfl (Nat.le_of_ble_eq_true rfl) d_law_431 (c_Model_copy Γ h2) ?_
  refine l_icmpeq C d_law_434 (tgt := 1594) (by decide) ?_
  exact next D2 hI2
theorem d_law_439 : decode code 439 = .ok (.aload_n 1, 1) := by decide +kernel
theorem d_law_440 : decode code 440 = .ok (.aload_n 0, 1) := by decide +kernel
theorem d_law_441 : decode code 441 = .ok (.iload_n 3, 1) := by decide +kernel
theorem d_law_442 : decode code 442 = .ok (.iconst 1, 1) := by decide +kernel
theorem d_law_443 : decode code 443 = .ok (.iadd, 1) := by decide +kernel
theorem d_law_444 : decode code 444 = .ok (.iaload, 1) := by decide +kernel
theorem d_law_445 : decode code 445 = .ok (.invokevirtual 37, 3) := by decide +kernel
theorem d_law_448 : decode code 448 = .ok (.aload_n 2, 1) := by decide +kernel
theorem d_law_449 : decode code 449 = .ok (.aload_n 0, 1) := by decide +kernel
theorem d_law_450 : decode code 450 = .ok (.iload_n 3, 1) := by decide +kernel
theorem d_law_451 : decode code 451 = .ok (.iconst 1, 1) := by decide +kernel
theorem d_law_452 : decode code 452 = .ok (.iadd, 1) := by decide +kernel
theorem d_law_453 : decode code 453 = .ok (.iaload, 1) := by decide +kernel
theorem d_law_454 : decode code 454 = .ok (.invokevirtual 40, 3) := by decide +kernel
theorem d_law_457 : decode code 457 = .ok (.if_icmp .eq 1137, 3) := by decide +kernel
theorem law_c5 {Γ : GmT} {b L : Nat} {xs : Nat → Int32} {CL SL : Nat} {G : Dt → Nat → List (Nat × Value) → List Value → Prop} (C : LawG Γ b L xs CL SL G) {D : Dt} {i : Int32} (hI : Inv D) (hin : vp_in (i + 1) L ∧ vp_in (i + 2) L ∧ vp_in (i + 3) L ∧ vp_in (i + 4) L ∧ vp_in (i + 5) L) (next : ∀ D2, Inv D2 → G D2 1594 (lvL Γ b i) []) : G D 439 (lvL Γ b i) [] := by
  obtain ⟨x, D1, D2, h1, h2, hI2⟩ := both_mean hI (xs (i + 1).toNatClampNeg)
  refine l_aload C 1 d_law_439 rfl rfl ?_
  refine l_arg C d_law_440 d_law_441 d_law_442 rfl d_law_443 d_law_444 rfl rfl hin.1 ?_
  refine l_call C (As := [.int (xs (i + 1).toNatClampNeg)]) (rest := []) ok_Root_mean (List.mem_of_getElem? (i := 436) (by decide +kernel)) k_id0 (by decide) ⟨Nat.le_of_ble_eq_true rfl, Nat.le_of_ble_eq_true rfl⟩ rfl rfl (Nat.le_of_ble_eq_true rfl) d_law_445 (c_Root_mean Γ h1) ?_
  refine l_aload C 2 d_law_448 rfl rfl ?_
  refine l_arg C d_law_449 d_law_450 d_law_451 rfl d_law_452 d_law_453 rfl rfl hin.1 ?_
  refine l_call C (As := [.int (xs (i + 1).toNatClampNeg)]) (rest := [.int x]) ok_Model_mean (List.mem_of_getElem? (i := 1267) (by decide +kernel)) k_id176 (by decide) ⟨Nat.le_of_ble_eq_true rfl, Nat.le_of_ble_eq_true rfl⟩ rfl rfl (Nat.le_of_ble_eq_true rfl) d_law_454 (c_Model_mean Γ h2) ?_
  refine l_icmpeq C d_law_457 (tgt := 1594) (by decide) ?_
  exact next D2 hI2
theorem d_law_462 : decode code 462 = .ok (.aload_n 1, 1) := by decide +kernel
theorem d_law_463 : decode code 463 = .ok (.aload_n 0, 1) := by decide +kernel
theorem d_law_464 : decode code 464 = .ok (.iload_n 3, 1) := by decide +kernel
theorem d_law_465 : decode code 465 = .ok (.iconst 1, 1) := by decide +kernel
theorem d_law_466 : decode code 466 = .ok (.iadd, 1) := by decide +kernel
theorem d_law_467 : decode code 467 = .ok (.iaload, 1) := by decide +kernel
theorem d_law_468 : decode code 468 = .ok (.aload_n 0, 1) := by decide +kernel
theorem d_law_469 : decode code 469 = .ok (.iload_n 3, 1) := by decide +kernel
theorem d_law_470 : decode code 470 = .ok (.iconst 2, 1) := by decide +kernel
theorem d_law_471 : decode code 471 = .ok (.iadd, 1) := by decide +kernel
theorem d_law_472 : decode code 472 = .ok (.iaload, 1) := by decide +kernel
theorem d_law_473 : decode code 473 = .ok (.invokevirtual 41, 3) := by decide +kernel
theorem d_law_476 : decode code 476 = .ok (.aload_n 2, 1) := by decide +kernel
theorem d_law_477 : decode code 477 = .ok (.aload_n 0, 1) := by decide +kernel
theorem d_law_478 : decode code 478 = .ok (.iload_n 3, 1) := by decide +kernel
theorem d_law_479 : decode code 479 = .ok (.iconst 1, 1) := by decide +kernel
theorem d_law_480 : decode code 480 = .ok (.iadd, 1) := by decide +kernel
theorem d_law_481 : decode code 481 = .ok (.iaload, 1) := by decide +kernel
theorem d_law_482 : decode code 482 = .ok (.aload_n 0, 1) := by decide +kernel
theorem d_law_483 : decode code 483 = .ok (.iload_n 3, 1) := by decide +kernel
theorem d_law_484 : decode code 484 = .ok (.iconst 2, 1) := by decide +kernel
theorem d_law_485 : decode code 485 = .ok (.iadd, 1) := by decide +kernel
theorem d_law_486 : decode code 486 = .ok (.iaload, 1) := by decide +kernel
theorem d_law_487 : decode code 487 = .ok (.invokevirtual 44, 3) := by decide +kernel
theorem d_law_490 : decode code 490 = .ok (.if_icmp .eq 1104, 3) := by decide +kernel
theorem law_c6 {Γ : GmT} {b L : Nat} {xs : Nat → Int32} {CL SL : Nat} {G : Dt → Nat → List (Nat × Value) → List Value → Prop} (C : LawG Γ b L xs CL SL G) {D : Dt} {i : Int32} (hI : Inv D) (hin : vp_in (i + 1) L ∧ vp_in (i + 2) L ∧ vp_in (i + 3) L ∧ vp_in (i + 4) L ∧ vp_in (i + 5) L) (next : ∀ D2, Inv D2 → G D2 1594 (lvL Γ b i) []) : G D 462 (lvL Γ b i) [] := by
  obtain ⟨x, D1, D2, h1, h2, hI2⟩ := both_text hI (xs (i + 1).toNatClampNeg) (xs (i + 2).toNatClampNeg)
  refine l_aload C 1 d_law_462 rfl rfl ?_
  refine l_arg C d_law_463 d_law_464 d_law_465 rfl d_law_466 d_law_467 rfl rfl hin.1 ?_
  refine l_arg C d_law_468 d_law_469 d_law_470 rfl d_law_471 d_law_472 rfl rfl hin.2.1 ?_
  refine l_call C (As := [.int (xs (i + 1).toNatClampNeg), .int (xs (i + 2).toNatClampNeg)]) (rest := []) ok_Root_text (List.mem_of_getElem? (i := 444) (by decide +kernel)) k_id0 (by decide) ⟨Nat.le_of_ble_eq_true rfl, Nat.le_of_ble_eq_true rfl⟩ rfl rfl (Nat.le_of_ble_eq_true rfl) d_law_473 (c_Root_text Γ h1) ?_
  refine l_aload C 2 d_law_476 rfl rfl ?_
  refine l_arg C d_law_477 d_law_478 d_law_479 rfl d_law_480 d_law_481 rfl rfl hin.1 ?_
  refine l_arg C d_law_482 d_law_483 d_law_484 rfl d_law_485 d_law_486 rfl rfl hin.2.1 ?_
  refine l_call C (As := [.int (xs (i + 1).toNatClampNeg), .int (xs (i + 2).toNatClampNeg)]) (rest := [.int x]) ok_Model_text (List.mem_of_getElem? (i := 1271) (by decide +kernel)) k_id176 (by decide) ⟨Nat.le_of_ble_eq_true rfl, Nat.le_of_ble_eq_true rfl⟩ rfl rfl (Nat.le_of_ble_eq_true rfl) d_law_487 (c_Model_text Γ h2) ?_
  refine l_icmpeq C d_law_490 (tgt := 1594) (by decide) ?_
  exact next D2 hI2
