/-! THE LAW: its cases (by program) -/
section sw_law2
variable {p : Program} {l : Launch} {e : Env} {s : State} {m : MethodId} {below : List Frame} {meth : Method} {c : Code} {b L : Nat} {xs : Nat → Int32} {X : sw_X} {τ : Nat → Nat} {k n i : Nat} {hA hM : sw_H} {σ : SgZ}
theorem lc_prime (C0 : lw_At p s m meth c b L xs) (hL : L ≤ 2560) (F : lw_fix X τ s) (hkn : k ≤ 600000 ∧ n ≤ 7302250) (hi : i + 5 ≤ L) (K : okS σ) (I : IA hA σ) (J : IM hM σ) (kont : ∀ (σ' : SgZ) (hA' hM' : sw_H), okS σ' → IA hA' σ' → IM hM' σ' → lw_wp p l e s m below meth c b X τ k n i 1442 [] hA' hM') : lw_wp p l e s m below meth c b X τ k n i 220 [] hA hM := by
  obtain ⟨z1, e1, a1, b1⟩ := zI_of (xs (i + 1))
  refine lw_aloadX C0 221 dL_law_220 rfl ?_
  refine lw_arg C0 hL hi 226 (j := 1) (by omega) dL_law_221 dL_law_222 dL_law_223 (by decide) dL_law_224 dL_law_225 rfl ?_
  rw [e1]
  refine lw_xI C0 F hkn (As := [.int (zI z1)]) 229 dL_law_226 lk_RL_13 (a_prime (d := 0) K I a1 b1) rfl rfl rfl (Nat.le_of_ble_eq_true rfl) (Nat.le_of_ble_eq_true rfl) (fun rx hA9 hqx => ?_)
  obtain ⟨I9, rfl⟩ := hqx
  refine lw_aloadM C0 230 dL_law_229 rfl ?_
  refine lw_arg C0 hL hi 235 (j := 1) (by omega) dL_law_230 dL_law_231 dL_law_232 (by decide) dL_law_233 dL_law_234 rfl ?_
  rw [e1]
  refine lw_mI C0 F hkn (As := [.int (zI z1)]) 238 dL_law_235 lk_RL_17 (m_prime (d := 0) K J a1 b1) rfl rfl rfl (Nat.le_of_ble_eq_true rfl) (Nat.le_of_ble_eq_true rfl) (fun rm hM9 hqm => ?_)
  obtain ⟨J9, rfl⟩ := hqm
  refine lw_eqI C0 1442 dL_law_238 (by decide) ?_
  exact kont _ _ _ (k_prime K _) I9 J9
theorem lc_drop (C0 : lw_At p s m meth c b L xs) (hL : L ≤ 2560) (F : lw_fix X τ s) (hkn : k ≤ 600000 ∧ n ≤ 7302250) (hi : i + 5 ≤ L) (K : okS σ) (I : IA hA σ) (J : IM hM σ) (kont : ∀ (σ' : SgZ) (hA' hM' : sw_H), okS σ' → IA hA' σ' → IM hM' σ' → lw_wp p l e s m below meth c b X τ k n i 1442 [] hA' hM') : lw_wp p l e s m below meth c b X τ k n i 243 [] hA hM := by
  obtain ⟨z1, e1, a1, b1⟩ := zI_of (xs (i + 1))
  refine lw_aloadX C0 244 dL_law_243 rfl ?_
  refine lw_arg C0 hL hi 249 (j := 1) (by omega) dL_law_244 dL_law_245 dL_law_246 (by decide) dL_law_247 dL_law_248 rfl ?_
  rw [e1]
  refine lw_xI C0 F hkn (As := [.int (zI z1)]) 252 dL_law_249 lk_RL_18 (a_drop (d := 0) K I a1 b1) rfl rfl rfl (Nat.le_of_ble_eq_true rfl) (Nat.le_of_ble_eq_true rfl) (fun rx hA9 hqx => ?_)
  obtain ⟨I9, rfl⟩ := hqx
  refine lw_aloadM C0 253 dL_law_252 rfl ?_
  refine lw_arg C0 hL hi 258 (j := 1) (by omega) dL_law_253 dL_law_254 dL_law_255 (by decide) dL_law_256 dL_law_257 rfl ?_
  rw [e1]
  refine lw_mI C0 F hkn (As := [.int (zI z1)]) 261 dL_law_258 lk_RL_21 (m_drop (d := 0) K J a1 b1) rfl rfl rfl (Nat.le_of_ble_eq_true rfl) (Nat.le_of_ble_eq_true rfl) (fun rm hM9 hqm => ?_)
  obtain ⟨J9, rfl⟩ := hqm
  refine lw_eqI C0 1442 dL_law_261 (by decide) ?_
  exact kont _ _ _ (k_drop K _) I9 J9
theorem lc_primeOf (C0 : lw_At p s m meth c b L xs) (hL : L ≤ 2560) (F : lw_fix X τ s) (hkn : k ≤ 600000 ∧ n ≤ 7302250) (hi : i + 5 ≤ L) (K : okS σ) (I : IA hA σ) (J : IM hM σ) (kont : ∀ (σ' : SgZ) (hA' hM' : sw_H), okS σ' → IA hA' σ' → IM hM' σ' → lw_wp p l e s m below meth c b X τ k n i 1442 [] hA' hM') : lw_wp p l e s m below meth c b X τ k n i 266 [] hA hM := by
  obtain ⟨z1, e1, a1, b1⟩ := zI_of (xs (i + 1))
  refine lw_aloadX C0 267 dL_law_266 rfl ?_
  refine lw_arg C0 hL hi 272 (j := 1) (by omega) dL_law_267 dL_law_268 dL_law_269 (by decide) dL_law_270 dL_law_271 rfl ?_
  rw [e1]
  refine lw_xI C0 F hkn (As := [.int (zI z1)]) 275 dL_law_272 lk_RL_22 (a_primeOf (d := 0) K I a1 b1) rfl rfl rfl (Nat.le_of_ble_eq_true rfl) (Nat.le_of_ble_eq_true rfl) (fun rx hA9 hqx => ?_)
  obtain ⟨I9, rfl⟩ := hqx
  refine lw_aloadM C0 276 dL_law_275 rfl ?_
  refine lw_arg C0 hL hi 281 (j := 1) (by omega) dL_law_276 dL_law_277 dL_law_278 (by decide) dL_law_279 dL_law_280 rfl ?_
  rw [e1]
  refine lw_mI C0 F hkn (As := [.int (zI z1)]) 284 dL_law_281 lk_RL_25 (m_primeOf (d := 0) K J a1 b1) rfl rfl rfl (Nat.le_of_ble_eq_true rfl) (Nat.le_of_ble_eq_true rfl) (fun rm hM9 hqm => ?_)
  obtain ⟨J9, rfl⟩ := hqm
  refine lw_eqI C0 1442 dL_law_284 (by decide) ?_
  exact kont _ _ _ K I9 J9
theorem lc_box (C0 : lw_At p s m meth c b L xs) (hL : L ≤ 2560) (F : lw_fix X τ s) (hkn : k ≤ 600000 ∧ n ≤ 7302250) (hi : i + 5 ≤ L) (K : okS σ) (I : IA hA σ) (J : IM hM σ) (kont : ∀ (σ' : SgZ) (hA' hM' : sw_H), okS σ' → IA hA' σ' → IM hM' σ' → lw_wp p l e s m below meth c b X τ k n i 1442 [] hA' hM') : lw_wp p l e s m below meth c b X τ k n i 289 [] hA hM := by
  obtain ⟨z1, e1, a1, b1⟩ := zI_of (xs (i + 1))
  obtain ⟨z2, e2, a2, b2⟩ := zI_of (xs (i + 2))
  refine lw_aloadX C0 290 dL_law_289 rfl ?_
  refine lw_arg C0 hL hi 295 (j := 1) (by omega) dL_law_290 dL_law_291 dL_law_292 (by decide) dL_law_293 dL_law_294 rfl ?_
  rw [e1]
  refine lw_arg C0 hL hi 300 (j := 2) (by omega) dL_law_295 dL_law_296 dL_law_297 (by decide) dL_law_298 dL_law_299 rfl ?_
  rw [e2]
  refine lw_xI C0 F hkn (As := [.int (zI z1), .int (zI z2)]) 303 dL_law_300 lk_RL_26 (a_box (d := 0) K I a1 b1 a2 b2) rfl rfl rfl (Nat.le_of_ble_eq_true rfl) (Nat.le_of_ble_eq_true rfl) (fun rx hA9 hqx => ?_)
  obtain ⟨I9, rfl⟩ := hqx
  refine lw_aloadM C0 304 dL_law_303 rfl ?_
  refine lw_arg C0 hL hi 309 (j := 1) (by omega) dL_law_304 dL_law_305 dL_law_306 (by decide) dL_law_307 dL_law_308 rfl ?_
  rw [e1]
  refine lw_arg C0 hL hi 314 (j := 2) (by omega) dL_law_309 dL_law_310 dL_law_311 (by decide) dL_law_312 dL_law_313 rfl ?_
  rw [e2]
  refine lw_mI C0 F hkn (As := [.int (zI z1), .int (zI z2)]) 317 dL_law_314 lk_RL_30 (m_box (d := 0) K J a1 b1 a2 b2) rfl rfl rfl (Nat.le_of_ble_eq_true rfl) (Nat.le_of_ble_eq_true rfl) (fun rm hM9 hqm => ?_)
  obtain ⟨J9, rfl⟩ := hqm
  refine lw_eqI C0 1442 dL_law_317 (by decide) ?_
  exact kont _ _ _ (k_box K _ _) I9 J9
theorem lc_boxOf (C0 : lw_At p s m meth c b L xs) (hL : L ≤ 2560) (F : lw_fix X τ s) (hkn : k ≤ 600000 ∧ n ≤ 7302250) (hi : i + 5 ≤ L) (K : okS σ) (I : IA hA σ) (J : IM hM σ) (kont : ∀ (σ' : SgZ) (hA' hM' : sw_H), okS σ' → IA hA' σ' → IM hM' σ' → lw_wp p l e s m below meth c b X τ k n i 1442 [] hA' hM') : lw_wp p l e s m below meth c b X τ k n i 322 [] hA hM := by
  obtain ⟨z1, e1, a1, b1⟩ := zI_of (xs (i + 1))
  refine lw_aloadX C0 323 dL_law_322 rfl ?_
  refine lw_arg C0 hL hi 328 (j := 1) (by omega) dL_law_323 dL_law_324 dL_law_325 (by decide) dL_law_326 dL_law_327 rfl ?_
  rw [e1]
  refine lw_xI C0 F hkn (As := [.int (zI z1)]) 331 dL_law_328 lk_RL_31 (a_boxOf (d := 0) K I a1 b1) rfl rfl rfl (Nat.le_of_ble_eq_true rfl) (Nat.le_of_ble_eq_true rfl) (fun rx hA9 hqx => ?_)
  obtain ⟨I9, rfl⟩ := hqx
  refine lw_aloadM C0 332 dL_law_331 rfl ?_
  refine lw_arg C0 hL hi 337 (j := 1) (by omega) dL_law_332 dL_law_333 dL_law_334 (by decide) dL_law_335 dL_law_336 rfl ?_
  rw [e1]
  refine lw_mI C0 F hkn (As := [.int (zI z1)]) 340 dL_law_337 lk_RL_34 (m_boxOf (d := 0) K J a1 b1) rfl rfl rfl (Nat.le_of_ble_eq_true rfl) (Nat.le_of_ble_eq_true rfl) (fun rm hM9 hqm => ?_)
  obtain ⟨J9, rfl⟩ := hqm
  refine lw_eqI C0 1442 dL_law_340 (by decide) ?_
  exact kont _ _ _ K I9 J9
theorem lc_put (C0 : lw_At p s m meth c b L xs) (hL : L ≤ 2560) (F : lw_fix X τ s) (hkn : k ≤ 600000 ∧ n ≤ 7302250) (hi : i + 5 ≤ L) (K : okS σ) (I : IA hA σ) (J : IM hM σ) (kont : ∀ (σ' : SgZ) (hA' hM' : sw_H), okS σ' → IA hA' σ' → IM hM' σ' → lw_wp p l e s m below meth c b X τ k n i 1442 [] hA' hM') : lw_wp p l e s m below meth c b X τ k n i 345 [] hA hM := by
  obtain ⟨z1, e1, a1, b1⟩ := zI_of (xs (i + 1))
  obtain ⟨z2, e2, a2, b2⟩ := zI_of (xs (i + 2))
  obtain ⟨z3, e3, a3, b3⟩ := zI_of (xs (i + 3))
  refine lw_aloadX C0 346 dL_law_345 rfl ?_
  refine lw_arg C0 hL hi 351 (j := 1) (by omega) dL_law_346 dL_law_347 dL_law_348 (by decide) dL_law_349 dL_law_350 rfl ?_
  rw [e1]
  refine lw_arg C0 hL hi 356 (j := 2) (by omega) dL_law_351 dL_law_352 dL_law_353 (by decide) dL_law_354 dL_law_355 rfl ?_
  rw [e2]
  refine lw_arg C0 hL hi 361 (j := 3) (by omega) dL_law_356 dL_law_357 dL_law_358 (by decide) dL_law_359 dL_law_360 rfl ?_
  rw [e3]
  refine lw_xI C0 F hkn (As := [.int (zI z1), .int (zI z2), .int (zI z3)]) 364 dL_law_361 lk_RL_35 (a_put (d := 0) K I a1 b1 a2 b2 a3 b3) rfl rfl rfl (Nat.le_of_ble_eq_true rfl) (Nat.le_of_ble_eq_true rfl) (fun rx hA9 hqx => ?_)
  obtain ⟨I9, rfl⟩ := hqx
  refine lw_aloadM C0 365 dL_law_364 rfl ?_
  refine lw_arg C0 hL hi 370 (j := 1) (by omega) dL_law_365 dL_law_366 dL_law_367 (by decide) dL_law_368 dL_law_369 rfl ?_
  rw [e1]
  refine lw_arg C0 hL hi 375 (j := 2) (by omega) dL_law_370 dL_law_371 dL_law_372 (by decide) dL_law_373 dL_law_374 rfl ?_
  rw [e2]
  refine lw_arg C0 hL hi 380 (j := 3) (by omega) dL_law_375 dL_law_376 dL_law_377 (by decide) dL_law_378 dL_law_379 rfl ?_
  rw [e3]
  refine lw_mI C0 F hkn (As := [.int (zI z1), .int (zI z2), .int (zI z3)]) 383 dL_law_380 lk_RL_39 (m_put (d := 0) K J a1 b1 a2 b2 a3 b3) rfl rfl rfl (Nat.le_of_ble_eq_true rfl) (Nat.le_of_ble_eq_true rfl) (fun rm hM9 hqm => ?_)
  obtain ⟨J9, rfl⟩ := hqm
  refine lw_eqI C0 1442 dL_law_383 (by decide) ?_
  exact kont _ _ _ (k_put K _ _ _) I9 J9
theorem lc_sign (C0 : lw_At p s m meth c b L xs) (hL : L ≤ 2560) (F : lw_fix X τ s) (hkn : k ≤ 600000 ∧ n ≤ 7302250) (hi : i + 5 ≤ L) (K : okS σ) (I : IA hA σ) (J : IM hM σ) (kont : ∀ (σ' : SgZ) (hA' hM' : sw_H), okS σ' → IA hA' σ' → IM hM' σ' → lw_wp p l e s m below meth c b X τ k n i 1442 [] hA' hM') : lw_wp p l e s m below meth c b X τ k n i 388 [] hA hM := by
  obtain ⟨z1, e1, a1, b1⟩ := zI_of (xs (i + 1))
  obtain ⟨z2, e2, a2, b2⟩ := zI_of (xs (i + 2))
  refine lw_aloadX C0 389 dL_law_388 rfl ?_
  refine lw_arg C0 hL hi 394 (j := 1) (by omega) dL_law_389 dL_law_390 dL_law_391 (by decide) dL_law_392 dL_law_393 rfl ?_
  rw [e1]
  refine lw_arg C0 hL hi 399 (j := 2) (by omega) dL_law_394 dL_law_395 dL_law_396 (by decide) dL_law_397 dL_law_398 rfl ?_
  rw [e2]
  refine lw_xI C0 F hkn (As := [.int (zI z1), .int (zI z2)]) 402 dL_law_399 lk_RL_40 (a_sign (d := 0) K I a1 b1 a2 b2) rfl rfl rfl (Nat.le_of_ble_eq_true rfl) (Nat.le_of_ble_eq_true rfl) (fun rx hA9 hqx => ?_)
  obtain ⟨I9, rfl⟩ := hqx
  refine lw_aloadM C0 403 dL_law_402 rfl ?_
  refine lw_arg C0 hL hi 408 (j := 1) (by omega) dL_law_403 dL_law_404 dL_law_405 (by decide) dL_law_406 dL_law_407 rfl ?_
  rw [e1]
  refine lw_arg C0 hL hi 413 (j := 2) (by omega) dL_law_408 dL_law_409 dL_law_410 (by decide) dL_law_411 dL_law_412 rfl ?_
  rw [e2]
  refine lw_mI C0 F hkn (As := [.int (zI z1), .int (zI z2)]) 416 dL_law_413 lk_RL_43 (m_sign (d := 0) K J a1 b1 a2 b2) rfl rfl rfl (Nat.le_of_ble_eq_true rfl) (Nat.le_of_ble_eq_true rfl) (fun rm hM9 hqm => ?_)
  obtain ⟨J9, rfl⟩ := hqm
  refine lw_eqI C0 1442 dL_law_416 (by decide) ?_
  exact kont _ _ _ (k_sign K _ _) I9 J9
theorem lc_powerOf (C0 : lw_At p s m meth c b L xs) (hL : L ≤ 2560) (F : lw_fix X τ s) (hkn : k ≤ 600000 ∧ n ≤ 7302250) (hi : i + 5 ≤ L) (K : okS σ) (I : IA hA σ) (J : IM hM σ) (kont : ∀ (σ' : SgZ) (hA' hM' : sw_H), okS σ' → IA hA' σ' → IM hM' σ' → lw_wp p l e s m below meth c b X τ k n i 1442 [] hA' hM') : lw_wp p l e s m below meth c b X τ k n i 421 [] hA hM := by
  obtain ⟨z1, e1, a1, b1⟩ := zI_of (xs (i + 1))
  obtain ⟨z2, e2, a2, b2⟩ := zI_of (xs (i + 2))
  refine lw_aloadX C0 422 dL_law_421 rfl ?_
  refine lw_arg C0 hL hi 427 (j := 1) (by omega) dL_law_422 dL_law_423 dL_law_424 (by decide) dL_law_425 dL_law_426 rfl ?_
  rw [e1]
  refine lw_arg C0 hL hi 432 (j := 2) (by omega) dL_law_427 dL_law_428 dL_law_429 (by decide) dL_law_430 dL_law_431 rfl ?_
  rw [e2]
  refine lw_xI C0 F hkn (As := [.int (zI z1), .int (zI z2)]) 435 dL_law_432 lk_RL_44 (a_powerOf (d := 0) K I a1 b1 a2 b2) rfl rfl rfl (Nat.le_of_ble_eq_true rfl) (Nat.le_of_ble_eq_true rfl) (fun rx hA9 hqx => ?_)
  obtain ⟨I9, rfl⟩ := hqx
  refine lw_aloadM C0 436 dL_law_435 rfl ?_
  refine lw_arg C0 hL hi 441 (j := 1) (by omega) dL_law_436 dL_law_437 dL_law_438 (by decide) dL_law_439 dL_law_440 rfl ?_
  rw [e1]
  refine lw_arg C0 hL hi 446 (j := 2) (by omega) dL_law_441 dL_law_442 dL_law_443 (by decide) dL_law_444 dL_law_445 rfl ?_
  rw [e2]
  refine lw_mI C0 F hkn (As := [.int (zI z1), .int (zI z2)]) 449 dL_law_446 lk_RL_47 (m_powerOf (d := 0) K J a1 b1 a2 b2) rfl rfl rfl (Nat.le_of_ble_eq_true rfl) (Nat.le_of_ble_eq_true rfl) (fun rm hM9 hqm => ?_)
  obtain ⟨J9, rfl⟩ := hqm
  refine lw_eqI C0 1442 dL_law_449 (by decide) ?_
  exact kont _ _ _ K I9 J9
theorem lc_value (C0 : lw_At p s m meth c b L xs) (hL : L ≤ 2560) (F : lw_fix X τ s) (hkn : k ≤ 600000 ∧ n ≤ 7302250) (hi : i + 5 ≤ L) (K : okS σ) (I : IA hA σ) (J : IM hM σ) (kont : ∀ (σ' : SgZ) (hA' hM' : sw_H), okS σ' → IA hA' σ' → IM hM' σ' → lw_wp p l e s m below meth c b X τ k n i 1442 [] hA' hM') : lw_wp p l e s m below meth c b X τ k n i 454 [] hA hM := by
  obtain ⟨z1, e1, a1, b1⟩ := zI_of (xs (i + 1))
  obtain ⟨z2, e2, a2, b2⟩ := zI_of (xs (i + 2))
  refine lw_aloadX C0 455 dL_law_454 rfl ?_
  refine lw_arg C0 hL hi 460 (j := 1) (by omega) dL_law_455 dL_law_456 dL_law_457 (by decide) dL_law_458 dL_law_459 rfl ?_
  rw [e1]
  refine lw_arg C0 hL hi 465 (j := 2) (by omega) dL_law_460 dL_law_461 dL_law_462 (by decide) dL_law_463 dL_law_464 rfl ?_
  rw [e2]
  refine lw_xL C0 F hkn (As := [.int (zI z1), .int (zI z2)]) 468 dL_law_465 lk_RL_48 (a_value (d := 0) K I a1 b1 a2 b2) rfl rfl rfl (Nat.le_of_ble_eq_true rfl) (Nat.le_of_ble_eq_true rfl) (fun rx hA9 hqx => ?_)
  obtain ⟨I9, rfl⟩ := hqx
  refine lw_aloadM C0 469 dL_law_468 rfl ?_
  refine lw_arg C0 hL hi 474 (j := 1) (by omega) dL_law_469 dL_law_470 dL_law_471 (by decide) dL_law_472 dL_law_473 rfl ?_
  rw [e1]
  refine lw_arg C0 hL hi 479 (j := 2) (by omega) dL_law_474 dL_law_475 dL_law_476 (by decide) dL_law_477 dL_law_478 rfl ?_
  rw [e2]
  refine lw_mL C0 F hkn (As := [.int (zI z1), .int (zI z2)]) 482 dL_law_479 lk_RL_52 (m_value (d := 0) K J a1 b1 a2 b2) rfl rfl rfl (Nat.le_of_ble_eq_true rfl) (Nat.le_of_ble_eq_true rfl) (fun rm hM9 hqm => ?_)
  obtain ⟨J9, rfl⟩ := hqm
  refine lw_eqL C0 1442 dL_law_482 dL_law_483 (by decide) ?_
  exact kont _ _ _ K I9 J9
theorem lc_height (C0 : lw_At p s m meth c b L xs) (hL : L ≤ 2560) (F : lw_fix X τ s) (hkn : k ≤ 600000 ∧ n ≤ 7302250) (hi : i + 5 ≤ L) (K : okS σ) (I : IA hA σ) (J : IM hM σ) (kont : ∀ (σ' : SgZ) (hA' hM' : sw_H), okS σ' → IA hA' σ' → IM hM' σ' → lw_wp p l e s m below meth c b X τ k n i 1442 [] hA' hM') : lw_wp p l e s m below meth c b X τ k n i 488 [] hA hM := by
  obtain ⟨z1, e1, a1, b1⟩ := zI_of (xs (i + 1))
  refine lw_aloadX C0 489 dL_law_488 rfl ?_
  refine lw_arg C0 hL hi 494 (j := 1) (by omega) dL_law_489 dL_law_490 dL_law_491 (by decide) dL_law_492 dL_law_493 rfl ?_
  rw [e1]
  refine lw_xI C0 F hkn (As := [.int (zI z1)]) 497 dL_law_494 lk_RL_53 (a_height (d := 0) K I a1 b1) rfl rfl rfl (Nat.le_of_ble_eq_true rfl) (Nat.le_of_ble_eq_true rfl) (fun rx hA9 hqx => ?_)
  obtain ⟨I9, rfl⟩ := hqx
  refine lw_aloadM C0 498 dL_law_497 rfl ?_
  refine lw_arg C0 hL hi 503 (j := 1) (by omega) dL_law_498 dL_law_499 dL_law_500 (by decide) dL_law_501 dL_law_502 rfl ?_
  rw [e1]
  refine lw_mI C0 F hkn (As := [.int (zI z1)]) 506 dL_law_503 lk_RL_56 (m_height (d := 0) K J a1 b1) rfl rfl rfl (Nat.le_of_ble_eq_true rfl) (Nat.le_of_ble_eq_true rfl) (fun rm hM9 hqm => ?_)
  obtain ⟨J9, rfl⟩ := hqm
  refine lw_eqI C0 1442 dL_law_506 (by decide) ?_
  exact kont _ _ _ K I9 J9
theorem lc_isIn (C0 : lw_At p s m meth c b L xs) (hL : L ≤ 2560) (F : lw_fix X τ s) (hkn : k ≤ 600000 ∧ n ≤ 7302250) (hi : i + 5 ≤ L) (K : okS σ) (I : IA hA σ) (J : IM hM σ) (kont : ∀ (σ' : SgZ) (hA' hM' : sw_H), okS σ' → IA hA' σ' → IM hM' σ' → lw_wp p l e s m below meth c b X τ k n i 1442 [] hA' hM') : lw_wp p l e s m below meth c b X τ k n i 511 [] hA hM := by
  obtain ⟨z1, e1, a1, b1⟩ := zI_of (xs (i + 1))
  refine lw_aloadX C0 512 dL_law_511 rfl ?_
  refine lw_arg C0 hL hi 517 (j := 1) (by omega) dL_law_512 dL_law_513 dL_law_514 (by decide) dL_law_515 dL_law_516 rfl ?_
  rw [e1]
  refine lw_xI C0 F hkn (As := [.int (zI z1)]) 520 dL_law_517 lk_RL_57 (a_isIn (d := 0) K I a1 b1) rfl rfl rfl (Nat.le_of_ble_eq_true rfl) (Nat.le_of_ble_eq_true rfl) (fun rx hA9 hqx => ?_)
  obtain ⟨I9, rfl⟩ := hqx
  refine lw_aloadM C0 521 dL_law_520 rfl ?_
  refine lw_arg C0 hL hi 526 (j := 1) (by omega) dL_law_521 dL_law_522 dL_law_523 (by decide) dL_law_524 dL_law_525 rfl ?_
  rw [e1]
  refine lw_mI C0 F hkn (As := [.int (zI z1)]) 529 dL_law_526 lk_RL_60 (m_isIn (d := 0) K J a1 b1) rfl rfl rfl (Nat.le_of_ble_eq_true rfl) (Nat.le_of_ble_eq_true rfl) (fun rm hM9 hqm => ?_)
  obtain ⟨J9, rfl⟩ := hqm
  refine lw_eqI C0 1442 dL_law_529 (by decide) ?_
  exact kont _ _ _ K I9 J9
theorem lc_times (C0 : lw_At p s m meth c b L xs) (hL : L ≤ 2560) (F : lw_fix X τ s) (hkn : k ≤ 600000 ∧ n ≤ 7302250) (hi : i + 5 ≤ L) (K : okS σ) (I : IA hA σ) (J : IM hM σ) (kont : ∀ (σ' : SgZ) (hA' hM' : sw_H), okS σ' → IA hA' σ' → IM hM' σ' → lw_wp p l e s m below meth c b X τ k n i 1442 [] hA' hM') : lw_wp p l e s m below meth c b X τ k n i 534 [] hA hM := by
  obtain ⟨z1, e1, a1, b1⟩ := zI_of (xs (i + 1))
  obtain ⟨z2, e2, a2, b2⟩ := zI_of (xs (i + 2))
  obtain ⟨z3, e3, a3, b3⟩ := zI_of (xs (i + 3))
  refine lw_aloadX C0 535 dL_law_534 rfl ?_
  refine lw_arg C0 hL hi 540 (j := 1) (by omega) dL_law_535 dL_law_536 dL_law_537 (by decide) dL_law_538 dL_law_539 rfl ?_
  rw [e1]
  refine lw_arg C0 hL hi 545 (j := 2) (by omega) dL_law_540 dL_law_541 dL_law_542 (by decide) dL_law_543 dL_law_544 rfl ?_
  rw [e2]
  refine lw_arg C0 hL hi 550 (j := 3) (by omega) dL_law_545 dL_law_546 dL_law_547 (by decide) dL_law_548 dL_law_549 rfl ?_
  rw [e3]
  refine lw_xI C0 F hkn (As := [.int (zI z1), .int (zI z2), .int (zI z3)]) 553 dL_law_550 lk_RL_61 (a_times (d := 0) K I a1 b1 a2 b2 a3 b3) rfl rfl rfl (Nat.le_of_ble_eq_true rfl) (Nat.le_of_ble_eq_true rfl) (fun rx hA9 hqx => ?_)
  obtain ⟨I9, rfl⟩ := hqx
  refine lw_aloadM C0 554 dL_law_553 rfl ?_
  refine lw_arg C0 hL hi 559 (j := 1) (by omega) dL_law_554 dL_law_555 dL_law_556 (by decide) dL_law_557 dL_law_558 rfl ?_
  rw [e1]
  refine lw_arg C0 hL hi 564 (j := 2) (by omega) dL_law_559 dL_law_560 dL_law_561 (by decide) dL_law_562 dL_law_563 rfl ?_
  rw [e2]
  refine lw_arg C0 hL hi 569 (j := 3) (by omega) dL_law_564 dL_law_565 dL_law_566 (by decide) dL_law_567 dL_law_568 rfl ?_
  rw [e3]
  refine lw_mI C0 F hkn (As := [.int (zI z1), .int (zI z2), .int (zI z3)]) 572 dL_law_569 lk_RL_64 (m_times (d := 0) K J a1 b1 a2 b2 a3 b3) rfl rfl rfl (Nat.le_of_ble_eq_true rfl) (Nat.le_of_ble_eq_true rfl) (fun rm hM9 hqm => ?_)
  obtain ⟨J9, rfl⟩ := hqm
  refine lw_eqI C0 1442 dL_law_572 (by decide) ?_
  exact kont _ _ _ (k_join K _ _ _ _) I9 J9
theorem lc_over (C0 : lw_At p s m meth c b L xs) (hL : L ≤ 2560) (F : lw_fix X τ s) (hkn : k ≤ 600000 ∧ n ≤ 7302250) (hi : i + 5 ≤ L) (K : okS σ) (I : IA hA σ) (J : IM hM σ) (kont : ∀ (σ' : SgZ) (hA' hM' : sw_H), okS σ' → IA hA' σ' → IM hM' σ' → lw_wp p l e s m below meth c b X τ k n i 1442 [] hA' hM') : lw_wp p l e s m below meth c b X τ k n i 577 [] hA hM := by
  obtain ⟨z1, e1, a1, b1⟩ := zI_of (xs (i + 1))
  obtain ⟨z2, e2, a2, b2⟩ := zI_of (xs (i + 2))
  obtain ⟨z3, e3, a3, b3⟩ := zI_of (xs (i + 3))
  refine lw_aloadX C0 578 dL_law_577 rfl ?_
  refine lw_arg C0 hL hi 583 (j := 1) (by omega) dL_law_578 dL_law_579 dL_law_580 (by decide) dL_law_581 dL_law_582 rfl ?_
  rw [e1]
  refine lw_arg C0 hL hi 588 (j := 2) (by omega) dL_law_583 dL_law_584 dL_law_585 (by decide) dL_law_586 dL_law_587 rfl ?_
  rw [e2]
  refine lw_arg C0 hL hi 593 (j := 3) (by omega) dL_law_588 dL_law_589 dL_law_590 (by decide) dL_law_591 dL_law_592 rfl ?_
  rw [e3]
  refine lw_xI C0 F hkn (As := [.int (zI z1), .int (zI z2), .int (zI z3)]) 596 dL_law_593 lk_RL_65 (a_over (d := 0) K I a1 b1 a2 b2 a3 b3) rfl rfl rfl (Nat.le_of_ble_eq_true rfl) (Nat.le_of_ble_eq_true rfl) (fun rx hA9 hqx => ?_)
  obtain ⟨I9, rfl⟩ := hqx
  refine lw_aloadM C0 597 dL_law_596 rfl ?_
  refine lw_arg C0 hL hi 602 (j := 1) (by omega) dL_law_597 dL_law_598 dL_law_599 (by decide) dL_law_600 dL_law_601 rfl ?_
  rw [e1]
  refine lw_arg C0 hL hi 607 (j := 2) (by omega) dL_law_602 dL_law_603 dL_law_604 (by decide) dL_law_605 dL_law_606 rfl ?_
  rw [e2]
  refine lw_arg C0 hL hi 612 (j := 3) (by omega) dL_law_607 dL_law_608 dL_law_609 (by decide) dL_law_610 dL_law_611 rfl ?_
  rw [e3]
  refine lw_mI C0 F hkn (As := [.int (zI z1), .int (zI z2), .int (zI z3)]) 615 dL_law_612 lk_RL_68 (m_over (d := 0) K J a1 b1 a2 b2 a3 b3) rfl rfl rfl (Nat.le_of_ble_eq_true rfl) (Nat.le_of_ble_eq_true rfl) (fun rm hM9 hqm => ?_)
  obtain ⟨J9, rfl⟩ := hqm
  refine lw_eqI C0 1442 dL_law_615 (by decide) ?_
  exact kont _ _ _ (k_join K _ _ _ _) I9 J9
theorem lc_partner (C0 : lw_At p s m meth c b L xs) (hL : L ≤ 2560) (F : lw_fix X τ s) (hkn : k ≤ 600000 ∧ n ≤ 7302250) (hi : i + 5 ≤ L) (K : okS σ) (I : IA hA σ) (J : IM hM σ) (kont : ∀ (σ' : SgZ) (hA' hM' : sw_H), okS σ' → IA hA' σ' → IM hM' σ' → lw_wp p l e s m below meth c b X τ k n i 1442 [] hA' hM') : lw_wp p l e s m below meth c b X τ k n i 620 [] hA hM := by
  obtain ⟨z1, e1, a1, b1⟩ := zI_of (xs (i + 1))
  obtain ⟨z2, e2, a2, b2⟩ := zI_of (xs (i + 2))
  refine lw_aloadX C0 621 dL_law_620 rfl ?_
  refine lw_arg C0 hL hi 626 (j := 1) (by omega) dL_law_621 dL_law_622 dL_law_623 (by decide) dL_law_624 dL_law_625 rfl ?_
  rw [e1]
  refine lw_arg C0 hL hi 631 (j := 2) (by omega) dL_law_626 dL_law_627 dL_law_628 (by decide) dL_law_629 dL_law_630 rfl ?_
  rw [e2]
  refine lw_xI C0 F hkn (As := [.int (zI z1), .int (zI z2)]) 634 dL_law_631 lk_RL_69 (a_partner (d := 0) K I a1 b1 a2 b2) rfl rfl rfl (Nat.le_of_ble_eq_true rfl) (Nat.le_of_ble_eq_true rfl) (fun rx hA9 hqx => ?_)
  obtain ⟨I9, rfl⟩ := hqx
  refine lw_aloadM C0 635 dL_law_634 rfl ?_
  refine lw_arg C0 hL hi 640 (j := 1) (by omega) dL_law_635 dL_law_636 dL_law_637 (by decide) dL_law_638 dL_law_639 rfl ?_
  rw [e1]
  refine lw_arg C0 hL hi 645 (j := 2) (by omega) dL_law_640 dL_law_641 dL_law_642 (by decide) dL_law_643 dL_law_644 rfl ?_
  rw [e2]
  refine lw_mI C0 F hkn (As := [.int (zI z1), .int (zI z2)]) 648 dL_law_645 lk_RL_72 (m_partner (d := 0) K J a1 b1 a2 b2) rfl rfl rfl (Nat.le_of_ble_eq_true rfl) (Nat.le_of_ble_eq_true rfl) (fun rm hM9 hqm => ?_)
  obtain ⟨J9, rfl⟩ := hqm
  refine lw_eqI C0 1442 dL_law_648 (by decide) ?_
  exact kont _ _ _ (k_partner K _ _) I9 J9
theorem lc_form (C0 : lw_At p s m meth c b L xs) (hL : L ≤ 2560) (F : lw_fix X τ s) (hkn : k ≤ 600000 ∧ n ≤ 7302250) (hi : i + 5 ≤ L) (K : okS σ) (I : IA hA σ) (J : IM hM σ) (kont : ∀ (σ' : SgZ) (hA' hM' : sw_H), okS σ' → IA hA' σ' → IM hM' σ' → lw_wp p l e s m below meth c b X τ k n i 1442 [] hA' hM') : lw_wp p l e s m below meth c b X τ k n i 653 [] hA hM := by
  obtain ⟨z1, e1, a1, b1⟩ := zI_of (xs (i + 1))
  obtain ⟨z2, e2, a2, b2⟩ := zI_of (xs (i + 2))
  obtain ⟨z3, e3, a3, b3⟩ := zI_of (xs (i + 3))
  refine lw_aloadX C0 654 dL_law_653 rfl ?_
  refine lw_arg C0 hL hi 659 (j := 1) (by omega) dL_law_654 dL_law_655 dL_law_656 (by decide) dL_law_657 dL_law_658 rfl ?_
  rw [e1]
  refine lw_arg C0 hL hi 664 (j := 2) (by omega) dL_law_659 dL_law_660 dL_law_661 (by decide) dL_law_662 dL_law_663 rfl ?_
  rw [e2]
  refine lw_arg C0 hL hi 669 (j := 3) (by omega) dL_law_664 dL_law_665 dL_law_666 (by decide) dL_law_667 dL_law_668 rfl ?_
  rw [e3]
  refine lw_xI C0 F hkn (As := [.int (zI z1), .int (zI z2), .int (zI z3)]) 672 dL_law_669 lk_RL_73 (a_form (d := 0) K I a1 b1 a2 b2 a3 b3) rfl rfl rfl (Nat.le_of_ble_eq_true rfl) (Nat.le_of_ble_eq_true rfl) (fun rx hA9 hqx => ?_)
  obtain ⟨I9, rfl⟩ := hqx
  refine lw_aloadM C0 673 dL_law_672 rfl ?_
  refine lw_arg C0 hL hi 678 (j := 1) (by omega) dL_law_673 dL_law_674 dL_law_675 (by decide) dL_law_676 dL_law_677 rfl ?_
  rw [e1]
  refine lw_arg C0 hL hi 683 (j := 2) (by omega) dL_law_678 dL_law_679 dL_law_680 (by decide) dL_law_681 dL_law_682 rfl ?_
  rw [e2]
  refine lw_arg C0 hL hi 688 (j := 3) (by omega) dL_law_683 dL_law_684 dL_law_685 (by decide) dL_law_686 dL_law_687 rfl ?_
  rw [e3]
  refine lw_mI C0 F hkn (As := [.int (zI z1), .int (zI z2), .int (zI z3)]) 691 dL_law_688 lk_RL_76 (m_form (d := 0) K J a1 b1 a2 b2 a3 b3) rfl rfl rfl (Nat.le_of_ble_eq_true rfl) (Nat.le_of_ble_eq_true rfl) (fun rm hM9 hqm => ?_)
  obtain ⟨J9, rfl⟩ := hqm
  refine lw_eqI C0 1442 dL_law_691 (by decide) ?_
  exact kont _ _ _ (k_form K _ _ _) I9 J9
theorem lc_forms (C0 : lw_At p s m meth c b L xs) (hL : L ≤ 2560) (F : lw_fix X τ s) (hkn : k ≤ 600000 ∧ n ≤ 7302250) (hi : i + 5 ≤ L) (K : okS σ) (I : IA hA σ) (J : IM hM σ) (kont : ∀ (σ' : SgZ) (hA' hM' : sw_H), okS σ' → IA hA' σ' → IM hM' σ' → lw_wp p l e s m below meth c b X τ k n i 1442 [] hA' hM') : lw_wp p l e s m below meth c b X τ k n i 696 [] hA hM := by
  obtain ⟨z1, e1, a1, b1⟩ := zI_of (xs (i + 1))
  refine lw_aloadX C0 697 dL_law_696 rfl ?_
  refine lw_arg C0 hL hi 702 (j := 1) (by omega) dL_law_697 dL_law_698 dL_law_699 (by decide) dL_law_700 dL_law_701 rfl ?_
  rw [e1]
  refine lw_xI C0 F hkn (As := [.int (zI z1)]) 705 dL_law_702 lk_RL_77 (a_forms (d := 0) K I a1 b1) rfl rfl rfl (Nat.le_of_ble_eq_true rfl) (Nat.le_of_ble_eq_true rfl) (fun rx hA9 hqx => ?_)
  obtain ⟨I9, rfl⟩ := hqx
  refine lw_aloadM C0 706 dL_law_705 rfl ?_
  refine lw_arg C0 hL hi 711 (j := 1) (by omega) dL_law_706 dL_law_707 dL_law_708 (by decide) dL_law_709 dL_law_710 rfl ?_
  rw [e1]
  refine lw_mI C0 F hkn (As := [.int (zI z1)]) 714 dL_law_711 lk_RL_80 (m_forms (d := 0) K J a1 b1) rfl rfl rfl (Nat.le_of_ble_eq_true rfl) (Nat.le_of_ble_eq_true rfl) (fun rm hM9 hqm => ?_)
  obtain ⟨J9, rfl⟩ := hqm
  refine lw_eqI C0 1442 dL_law_714 (by decide) ?_
  exact kont _ _ _ K I9 J9
theorem lc_answers (C0 : lw_At p s m meth c b L xs) (hL : L ≤ 2560) (F : lw_fix X τ s) (hkn : k ≤ 600000 ∧ n ≤ 7302250) (hi : i + 5 ≤ L) (K : okS σ) (I : IA hA σ) (J : IM hM σ) (kont : ∀ (σ' : SgZ) (hA' hM' : sw_H), okS σ' → IA hA' σ' → IM hM' σ' → lw_wp p l e s m below meth c b X τ k n i 1442 [] hA' hM') : lw_wp p l e s m below meth c b X τ k n i 719 [] hA hM := by
  refine lw_aloadX C0 720 dL_law_719 rfl ?_
  refine lw_xI C0 F hkn (As := []) 723 dL_law_720 lk_RL_81 (a_answers (d := 0) K I) rfl rfl rfl (Nat.le_of_ble_eq_true rfl) (Nat.le_of_ble_eq_true rfl) (fun rx hA9 hqx => ?_)
  obtain ⟨I9, rfl⟩ := hqx
  refine lw_aloadM C0 724 dL_law_723 rfl ?_
  refine lw_mI C0 F hkn (As := []) 727 dL_law_724 lk_RL_85 (m_answers (d := 0) K J) rfl rfl rfl (Nat.le_of_ble_eq_true rfl) (Nat.le_of_ble_eq_true rfl) (fun rm hM9 hqm => ?_)
  obtain ⟨J9, rfl⟩ := hqm
  refine lw_eqI C0 1442 dL_law_727 (by decide) ?_
  exact kont _ _ _ K I9 J9
theorem lc_answer (C0 : lw_At p s m meth c b L xs) (hL : L ≤ 2560) (F : lw_fix X τ s) (hkn : k ≤ 600000 ∧ n ≤ 7302250) (hi : i + 5 ≤ L) (K : okS σ) (I : IA hA σ) (J : IM hM σ) (kont : ∀ (σ' : SgZ) (hA' hM' : sw_H), okS σ' → IA hA' σ' → IM hM' σ' → lw_wp p l e s m below meth c b X τ k n i 1442 [] hA' hM') : lw_wp p l e s m below meth c b X τ k n i 732 [] hA hM := by
  obtain ⟨z1, e1, a1, b1⟩ := zI_of (xs (i + 1))
  obtain ⟨z2, e2, a2, b2⟩ := zI_of (xs (i + 2))
  refine lw_aloadX C0 733 dL_law_732 rfl ?_
  refine lw_arg C0 hL hi 738 (j := 1) (by omega) dL_law_733 dL_law_734 dL_law_735 (by decide) dL_law_736 dL_law_737 rfl ?_
  rw [e1]
  refine lw_arg C0 hL hi 743 (j := 2) (by omega) dL_law_738 dL_law_739 dL_law_740 (by decide) dL_law_741 dL_law_742 rfl ?_
  rw [e2]
  refine lw_xL C0 F hkn (As := [.int (zI z1), .int (zI z2)]) 746 dL_law_743 lk_RL_86 (a_answer (d := 0) K I a1 b1 a2 b2) rfl rfl rfl (Nat.le_of_ble_eq_true rfl) (Nat.le_of_ble_eq_true rfl) (fun rx hA9 hqx => ?_)
  obtain ⟨I9, rfl⟩ := hqx
  refine lw_aloadM C0 747 dL_law_746 rfl ?_
  refine lw_arg C0 hL hi 752 (j := 1) (by omega) dL_law_747 dL_law_748 dL_law_749 (by decide) dL_law_750 dL_law_751 rfl ?_
  rw [e1]
  refine lw_arg C0 hL hi 757 (j := 2) (by omega) dL_law_752 dL_law_753 dL_law_754 (by decide) dL_law_755 dL_law_756 rfl ?_
  rw [e2]
  refine lw_mL C0 F hkn (As := [.int (zI z1), .int (zI z2)]) 760 dL_law_757 lk_RL_89 (m_answer (d := 0) K J a1 b1 a2 b2) rfl rfl rfl (Nat.le_of_ble_eq_true rfl) (Nat.le_of_ble_eq_true rfl) (fun rm hM9 hqm => ?_)
  obtain ⟨J9, rfl⟩ := hqm
  refine lw_eqL C0 1442 dL_law_760 dL_law_761 (by decide) ?_
  exact kont _ _ _ K I9 J9
theorem lc_take (C0 : lw_At p s m meth c b L xs) (hL : L ≤ 2560) (F : lw_fix X τ s) (hkn : k ≤ 600000 ∧ n ≤ 7302250) (hi : i + 5 ≤ L) (K : okS σ) (I : IA hA σ) (J : IM hM σ) (kont : ∀ (σ' : SgZ) (hA' hM' : sw_H), okS σ' → IA hA' σ' → IM hM' σ' → lw_wp p l e s m below meth c b X τ k n i 1442 [] hA' hM') : lw_wp p l e s m below meth c b X τ k n i 766 [] hA hM := by
  obtain ⟨z1, e1, a1, b1⟩ := zI_of (xs (i + 1))
  obtain ⟨z2, e2, a2, b2⟩ := zI_of (xs (i + 2))
  refine lw_aloadX C0 767 dL_law_766 rfl ?_
  refine lw_arg C0 hL hi 772 (j := 1) (by omega) dL_law_767 dL_law_768 dL_law_769 (by decide) dL_law_770 dL_law_771 rfl ?_
  rw [e1]
  refine lw_arg C0 hL hi 777 (j := 2) (by omega) dL_law_772 dL_law_773 dL_law_774 (by decide) dL_law_775 dL_law_776 rfl ?_
  rw [e2]
  refine lw_xI C0 F hkn (As := [.int (zI z1), .int (zI z2)]) 780 dL_law_777 lk_RL_90 (a_take (d := 0) K I a1 b1 a2 b2) rfl rfl rfl (Nat.le_of_ble_eq_true rfl) (Nat.le_of_ble_eq_true rfl) (fun rx hA9 hqx => ?_)
  obtain ⟨I9, rfl⟩ := hqx
  refine lw_aloadM C0 781 dL_law_780 rfl ?_
  refine lw_arg C0 hL hi 786 (j := 1) (by omega) dL_law_781 dL_law_782 dL_law_783 (by decide) dL_law_784 dL_law_785 rfl ?_
  rw [e1]
  refine lw_arg C0 hL hi 791 (j := 2) (by omega) dL_law_786 dL_law_787 dL_law_788 (by decide) dL_law_789 dL_law_790 rfl ?_
  rw [e2]
  refine lw_mI C0 F hkn (As := [.int (zI z1), .int (zI z2)]) 794 dL_law_791 lk_RL_93 (m_take (d := 0) K J a1 b1 a2 b2) rfl rfl rfl (Nat.le_of_ble_eq_true rfl) (Nat.le_of_ble_eq_true rfl) (fun rm hM9 hqm => ?_)
  obtain ⟨J9, rfl⟩ := hqm
  refine lw_eqI C0 1442 dL_law_794 (by decide) ?_
  exact kont _ _ _ (k_take _ K _ _) I9 J9
theorem lc_which (C0 : lw_At p s m meth c b L xs) (hL : L ≤ 2560) (F : lw_fix X τ s) (hkn : k ≤ 600000 ∧ n ≤ 7302250) (hi : i + 5 ≤ L) (K : okS σ) (I : IA hA σ) (J : IM hM σ) (kont : ∀ (σ' : SgZ) (hA' hM' : sw_H), okS σ' → IA hA' σ' → IM hM' σ' → lw_wp p l e s m below meth c b X τ k n i 1442 [] hA' hM') : lw_wp p l e s m below meth c b X τ k n i 799 [] hA hM := by
  obtain ⟨z1, e1, a1, b1⟩ := zI_of (xs (i + 1))
  refine lw_aloadX C0 800 dL_law_799 rfl ?_
  refine lw_arg C0 hL hi 805 (j := 1) (by omega) dL_law_800 dL_law_801 dL_law_802 (by decide) dL_law_803 dL_law_804 rfl ?_
  rw [e1]
  refine lw_xI C0 F hkn (As := [.int (zI z1)]) 808 dL_law_805 lk_RL_94 (a_which (d := 0) K I a1 b1) rfl rfl rfl (Nat.le_of_ble_eq_true rfl) (Nat.le_of_ble_eq_true rfl) (fun rx hA9 hqx => ?_)
  obtain ⟨I9, rfl⟩ := hqx
  refine lw_aloadM C0 809 dL_law_808 rfl ?_
  refine lw_arg C0 hL hi 814 (j := 1) (by omega) dL_law_809 dL_law_810 dL_law_811 (by decide) dL_law_812 dL_law_813 rfl ?_
  rw [e1]
  refine lw_mI C0 F hkn (As := [.int (zI z1)]) 817 dL_law_814 lk_RL_97 (m_which (d := 0) K J a1 b1) rfl rfl rfl (Nat.le_of_ble_eq_true rfl) (Nat.le_of_ble_eq_true rfl) (fun rm hM9 hqm => ?_)
  obtain ⟨J9, rfl⟩ := hqm
  refine lw_eqI C0 1442 dL_law_817 (by decide) ?_
  exact kont _ _ _ K I9 J9
theorem lc_groups (C0 : lw_At p s m meth c b L xs) (hL : L ≤ 2560) (F : lw_fix X τ s) (hkn : k ≤ 600000 ∧ n ≤ 7302250) (hi : i + 5 ≤ L) (K : okS σ) (I : IA hA σ) (J : IM hM σ) (kont : ∀ (σ' : SgZ) (hA' hM' : sw_H), okS σ' → IA hA' σ' → IM hM' σ' → lw_wp p l e s m below meth c b X τ k n i 1442 [] hA' hM') : lw_wp p l e s m below meth c b X τ k n i 822 [] hA hM := by
  refine lw_aloadX C0 823 dL_law_822 rfl ?_
  refine lw_xI C0 F hkn (As := []) 826 dL_law_823 lk_RL_98 (a_groups (d := 0) K I) rfl rfl rfl (Nat.le_of_ble_eq_true rfl) (Nat.le_of_ble_eq_true rfl) (fun rx hA9 hqx => ?_)
  obtain ⟨I9, rfl⟩ := hqx
  refine lw_aloadM C0 827 dL_law_826 rfl ?_
  refine lw_mI C0 F hkn (As := []) 830 dL_law_827 lk_RL_101 (m_groups (d := 0) K J) rfl rfl rfl (Nat.le_of_ble_eq_true rfl) (Nat.le_of_ble_eq_true rfl) (fun rm hM9 hqm => ?_)
  obtain ⟨J9, rfl⟩ := hqm
  refine lw_eqI C0 1442 dL_law_830 (by decide) ?_
  exact kont _ _ _ K I9 J9
theorem lc_groupOf (C0 : lw_At p s m meth c b L xs) (hL : L ≤ 2560) (F : lw_fix X τ s) (hkn : k ≤ 600000 ∧ n ≤ 7302250) (hi : i + 5 ≤ L) (K : okS σ) (I : IA hA σ) (J : IM hM σ) (kont : ∀ (σ' : SgZ) (hA' hM' : sw_H), okS σ' → IA hA' σ' → IM hM' σ' → lw_wp p l e s m below meth c b X τ k n i 1442 [] hA' hM') : lw_wp p l e s m below meth c b X τ k n i 835 [] hA hM := by
  obtain ⟨z1, e1, a1, b1⟩ := zI_of (xs (i + 1))
  refine lw_aloadX C0 836 dL_law_835 rfl ?_
  refine lw_arg C0 hL hi 841 (j := 1) (by omega) dL_law_836 dL_law_837 dL_law_838 (by decide) dL_law_839 dL_law_840 rfl ?_
  rw [e1]
  refine lw_xI C0 F hkn (As := [.int (zI z1)]) 844 dL_law_841 lk_RL_102 (a_groupOf (d := 0) K I a1 b1) rfl rfl rfl (Nat.le_of_ble_eq_true rfl) (Nat.le_of_ble_eq_true rfl) (fun rx hA9 hqx => ?_)
  obtain ⟨I9, rfl⟩ := hqx
  refine lw_aloadM C0 845 dL_law_844 rfl ?_
  refine lw_arg C0 hL hi 850 (j := 1) (by omega) dL_law_845 dL_law_846 dL_law_847 (by decide) dL_law_848 dL_law_849 rfl ?_
  rw [e1]
  refine lw_mI C0 F hkn (As := [.int (zI z1)]) 853 dL_law_850 lk_RL_105 (m_groupOf (d := 0) K J a1 b1) rfl rfl rfl (Nat.le_of_ble_eq_true rfl) (Nat.le_of_ble_eq_true rfl) (fun rm hM9 hqm => ?_)
  obtain ⟨J9, rfl⟩ := hqm
  refine lw_eqI C0 1442 dL_law_853 (by decide) ?_
  exact kont _ _ _ K I9 J9
theorem lc_group (C0 : lw_At p s m meth c b L xs) (hL : L ≤ 2560) (F : lw_fix X τ s) (hkn : k ≤ 600000 ∧ n ≤ 7302250) (hi : i + 5 ≤ L) (K : okS σ) (I : IA hA σ) (J : IM hM σ) (kont : ∀ (σ' : SgZ) (hA' hM' : sw_H), okS σ' → IA hA' σ' → IM hM' σ' → lw_wp p l e s m below meth c b X τ k n i 1442 [] hA' hM') : lw_wp p l e s m below meth c b X τ k n i 858 [] hA hM := by
  obtain ⟨z1, e1, a1, b1⟩ := zI_of (xs (i + 1))
  obtain ⟨z2, e2, a2, b2⟩ := zI_of (xs (i + 2))
  refine lw_aloadX C0 859 dL_law_858 rfl ?_
  refine lw_arg C0 hL hi 864 (j := 1) (by omega) dL_law_859 dL_law_860 dL_law_861 (by decide) dL_law_862 dL_law_863 rfl ?_
  rw [e1]
  refine lw_arg C0 hL hi 869 (j := 2) (by omega) dL_law_864 dL_law_865 dL_law_866 (by decide) dL_law_867 dL_law_868 rfl ?_
  rw [e2]
  refine lw_xI C0 F hkn (As := [.int (zI z1), .int (zI z2)]) 872 dL_law_869 lk_RL_106 (a_group (d := 0) K I a1 b1 a2 b2) rfl rfl rfl (Nat.le_of_ble_eq_true rfl) (Nat.le_of_ble_eq_true rfl) (fun rx hA9 hqx => ?_)
  obtain ⟨I9, rfl⟩ := hqx
  refine lw_aloadM C0 873 dL_law_872 rfl ?_
  refine lw_arg C0 hL hi 878 (j := 1) (by omega) dL_law_873 dL_law_874 dL_law_875 (by decide) dL_law_876 dL_law_877 rfl ?_
  rw [e1]
  refine lw_arg C0 hL hi 883 (j := 2) (by omega) dL_law_878 dL_law_879 dL_law_880 (by decide) dL_law_881 dL_law_882 rfl ?_
  rw [e2]
  refine lw_mI C0 F hkn (As := [.int (zI z1), .int (zI z2)]) 886 dL_law_883 lk_RL_109 (m_group (d := 0) K J a1 b1 a2 b2) rfl rfl rfl (Nat.le_of_ble_eq_true rfl) (Nat.le_of_ble_eq_true rfl) (fun rm hM9 hqm => ?_)
  obtain ⟨J9, rfl⟩ := hqm
  refine lw_eqI C0 1442 dL_law_886 (by decide) ?_
  exact kont _ _ _ K I9 J9
theorem lc_lots (C0 : lw_At p s m meth c b L xs) (hL : L ≤ 2560) (F : lw_fix X τ s) (hkn : k ≤ 600000 ∧ n ≤ 7302250) (hi : i + 5 ≤ L) (K : okS σ) (I : IA hA σ) (J : IM hM σ) (kont : ∀ (σ' : SgZ) (hA' hM' : sw_H), okS σ' → IA hA' σ' → IM hM' σ' → lw_wp p l e s m below meth c b X τ k n i 1442 [] hA' hM') : lw_wp p l e s m below meth c b X τ k n i 891 [] hA hM := by
  obtain ⟨z1, e1, a1, b1⟩ := zI_of (xs (i + 1))
  refine lw_aloadX C0 892 dL_law_891 rfl ?_
  refine lw_arg C0 hL hi 897 (j := 1) (by omega) dL_law_892 dL_law_893 dL_law_894 (by decide) dL_law_895 dL_law_896 rfl ?_
  rw [e1]
  refine lw_arg C0 hL hi 902 (j := 2) (by omega) dL_law_897 dL_law_898 dL_law_899 (by decide) dL_law_900 dL_law_901 rfl ?_
  refine lw_xI C0 F hkn (As := [.int (zI z1), .int (xs (i + 2))]) 905 dL_law_902 lk_RL_110 (a_lots (d := 0) K I a1 b1) rfl rfl rfl (Nat.le_of_ble_eq_true rfl) (Nat.le_of_ble_eq_true rfl) (fun rx hA9 hqx => ?_)
  obtain ⟨I9, rfl⟩ := hqx
  refine lw_aloadM C0 906 dL_law_905 rfl ?_
  refine lw_arg C0 hL hi 911 (j := 1) (by omega) dL_law_906 dL_law_907 dL_law_908 (by decide) dL_law_909 dL_law_910 rfl ?_
  rw [e1]
  refine lw_arg C0 hL hi 916 (j := 2) (by omega) dL_law_911 dL_law_912 dL_law_913 (by decide) dL_law_914 dL_law_915 rfl ?_
  refine lw_mI C0 F hkn (As := [.int (zI z1), .int (xs (i + 2))]) 919 dL_law_916 lk_RL_113 (m_lots (d := 0) K J a1 b1) rfl rfl rfl (Nat.le_of_ble_eq_true rfl) (Nat.le_of_ble_eq_true rfl) (fun rm hM9 hqm => ?_)
  obtain ⟨J9, rfl⟩ := hqm
  refine lw_eqI C0 1442 dL_law_919 (by decide) ?_
  exact kont _ _ _ K I9 J9
theorem lc_sieve (C0 : lw_At p s m meth c b L xs) (hL : L ≤ 2560) (F : lw_fix X τ s) (hkn : k ≤ 600000 ∧ n ≤ 7302250) (hi : i + 5 ≤ L) (K : okS σ) (I : IA hA σ) (J : IM hM σ) (kont : ∀ (σ' : SgZ) (hA' hM' : sw_H), okS σ' → IA hA' σ' → IM hM' σ' → lw_wp p l e s m below meth c b X τ k n i 1442 [] hA' hM') : lw_wp p l e s m below meth c b X τ k n i 924 [] hA hM := by
  obtain ⟨z1, e1, a1, b1⟩ := zI_of (xs (i + 1))
  refine lw_aloadX C0 925 dL_law_924 rfl ?_
  refine lw_arg C0 hL hi 930 (j := 1) (by omega) dL_law_925 dL_law_926 dL_law_927 (by decide) dL_law_928 dL_law_929 rfl ?_
  rw [e1]
  refine lw_xI C0 F hkn (As := [.int (zI z1)]) 933 dL_law_930 lk_RL_114 (a_sieve (d := 0) K I a1 b1) rfl rfl rfl (Nat.le_of_ble_eq_true rfl) (Nat.le_of_ble_eq_true rfl) (fun rx hA9 hqx => ?_)
  obtain ⟨I9, rfl⟩ := hqx
  refine lw_aloadM C0 934 dL_law_933 rfl ?_
  refine lw_arg C0 hL hi 939 (j := 1) (by omega) dL_law_934 dL_law_935 dL_law_936 (by decide) dL_law_937 dL_law_938 rfl ?_
  rw [e1]
  refine lw_mI C0 F hkn (As := [.int (zI z1)]) 942 dL_law_939 lk_RL_117 (m_sieve (d := 0) K J a1 b1) rfl rfl rfl (Nat.le_of_ble_eq_true rfl) (Nat.le_of_ble_eq_true rfl) (fun rm hM9 hqm => ?_)
  obtain ⟨J9, rfl⟩ := hqm
  refine lw_eqI C0 1442 dL_law_942 (by decide) ?_
  exact kont _ _ _ (k_sieve K _) I9 J9
theorem lc_sieveOf (C0 : lw_At p s m meth c b L xs) (hL : L ≤ 2560) (F : lw_fix X τ s) (hkn : k ≤ 600000 ∧ n ≤ 7302250) (hi : i + 5 ≤ L) (K : okS σ) (I : IA hA σ) (J : IM hM σ) (kont : ∀ (σ' : SgZ) (hA' hM' : sw_H), okS σ' → IA hA' σ' → IM hM' σ' → lw_wp p l e s m below meth c b X τ k n i 1442 [] hA' hM') : lw_wp p l e s m below meth c b X τ k n i 947 [] hA hM := by
  obtain ⟨z1, e1, a1, b1⟩ := zI_of (xs (i + 1))
  refine lw_aloadX C0 948 dL_law_947 rfl ?_
  refine lw_arg C0 hL hi 953 (j := 1) (by omega) dL_law_948 dL_law_949 dL_law_950 (by decide) dL_law_951 dL_law_952 rfl ?_
  rw [e1]
  refine lw_xI C0 F hkn (As := [.int (zI z1)]) 956 dL_law_953 lk_RL_118 (a_sieveOf (d := 0) K I a1 b1) rfl rfl rfl (Nat.le_of_ble_eq_true rfl) (Nat.le_of_ble_eq_true rfl) (fun rx hA9 hqx => ?_)
  obtain ⟨I9, rfl⟩ := hqx
  refine lw_aloadM C0 957 dL_law_956 rfl ?_
  refine lw_arg C0 hL hi 962 (j := 1) (by omega) dL_law_957 dL_law_958 dL_law_959 (by decide) dL_law_960 dL_law_961 rfl ?_
  rw [e1]
  refine lw_mI C0 F hkn (As := [.int (zI z1)]) 965 dL_law_962 lk_RL_121 (m_sieveOf (d := 0) K J a1 b1) rfl rfl rfl (Nat.le_of_ble_eq_true rfl) (Nat.le_of_ble_eq_true rfl) (fun rm hM9 hqm => ?_)
  obtain ⟨J9, rfl⟩ := hqm
  refine lw_eqI C0 1442 dL_law_965 (by decide) ?_
  exact kont _ _ _ K I9 J9
theorem lc_forget (C0 : lw_At p s m meth c b L xs) (hL : L ≤ 2560) (F : lw_fix X τ s) (hkn : k ≤ 600000 ∧ n ≤ 7302250) (hi : i + 5 ≤ L) (K : okS σ) (I : IA hA σ) (J : IM hM σ) (kont : ∀ (σ' : SgZ) (hA' hM' : sw_H), okS σ' → IA hA' σ' → IM hM' σ' → lw_wp p l e s m below meth c b X τ k n i 1442 [] hA' hM') : lw_wp p l e s m below meth c b X τ k n i 970 [] hA hM := by
  obtain ⟨z1, e1, a1, b1⟩ := zI_of (xs (i + 1))
  refine lw_aloadX C0 971 dL_law_970 rfl ?_
  refine lw_arg C0 hL hi 976 (j := 1) (by omega) dL_law_971 dL_law_972 dL_law_973 (by decide) dL_law_974 dL_law_975 rfl ?_
  rw [e1]
  refine lw_xI C0 F hkn (As := [.int (zI z1)]) 979 dL_law_976 lk_RL_122 (a_forget (d := 0) K I a1 b1) rfl rfl rfl (Nat.le_of_ble_eq_true rfl) (Nat.le_of_ble_eq_true rfl) (fun rx hA9 hqx => ?_)
  obtain ⟨I9, rfl⟩ := hqx
  refine lw_aloadM C0 980 dL_law_979 rfl ?_
  refine lw_arg C0 hL hi 985 (j := 1) (by omega) dL_law_980 dL_law_981 dL_law_982 (by decide) dL_law_983 dL_law_984 rfl ?_
  rw [e1]
  refine lw_mI C0 F hkn (As := [.int (zI z1)]) 988 dL_law_985 lk_RL_125 (m_forget (d := 0) K J a1 b1) rfl rfl rfl (Nat.le_of_ble_eq_true rfl) (Nat.le_of_ble_eq_true rfl) (fun rm hM9 hqm => ?_)
  obtain ⟨J9, rfl⟩ := hqm
  refine lw_eqI C0 1442 dL_law_988 (by decide) ?_
  exact kont _ _ _ (k_forget K _) I9 J9
theorem lc_order (C0 : lw_At p s m meth c b L xs) (hL : L ≤ 2560) (F : lw_fix X τ s) (hkn : k ≤ 600000 ∧ n ≤ 7302250) (hi : i + 5 ≤ L) (K : okS σ) (I : IA hA σ) (J : IM hM σ) (kont : ∀ (σ' : SgZ) (hA' hM' : sw_H), okS σ' → IA hA' σ' → IM hM' σ' → lw_wp p l e s m below meth c b X τ k n i 1442 [] hA' hM') : lw_wp p l e s m below meth c b X τ k n i 993 [] hA hM := by
  obtain ⟨z1, e1, a1, b1⟩ := zI_of (xs (i + 1))
  obtain ⟨z2, e2, a2, b2⟩ := zI_of (xs (i + 2))
  refine lw_aloadX C0 994 dL_law_993 rfl ?_
  refine lw_arg C0 hL hi 999 (j := 1) (by omega) dL_law_994 dL_law_995 dL_law_996 (by decide) dL_law_997 dL_law_998 rfl ?_
  rw [e1]
  refine lw_arg C0 hL hi 1004 (j := 2) (by omega) dL_law_999 dL_law_1000 dL_law_1001 (by decide) dL_law_1002 dL_law_1003 rfl ?_
  rw [e2]
  refine lw_xI C0 F hkn (As := [.int (zI z1), .int (zI z2)]) 1007 dL_law_1004 lk_RL_126 (a_order (d := 0) K I a1 b1 a2 b2) rfl rfl rfl (Nat.le_of_ble_eq_true rfl) (Nat.le_of_ble_eq_true rfl) (fun rx hA9 hqx => ?_)
  obtain ⟨I9, rfl⟩ := hqx
  refine lw_aloadM C0 1008 dL_law_1007 rfl ?_
  refine lw_arg C0 hL hi 1013 (j := 1) (by omega) dL_law_1008 dL_law_1009 dL_law_1010 (by decide) dL_law_1011 dL_law_1012 rfl ?_
  rw [e1]
  refine lw_arg C0 hL hi 1018 (j := 2) (by omega) dL_law_1013 dL_law_1014 dL_law_1015 (by decide) dL_law_1016 dL_law_1017 rfl ?_
  rw [e2]
  refine lw_mI C0 F hkn (As := [.int (zI z1), .int (zI z2)]) 1021 dL_law_1018 lk_RL_129 (m_order (d := 0) K J a1 b1 a2 b2) rfl rfl rfl (Nat.le_of_ble_eq_true rfl) (Nat.le_of_ble_eq_true rfl) (fun rm hM9 hqm => ?_)
  obtain ⟨J9, rfl⟩ := hqm
  refine lw_eqI C0 1442 dL_law_1021 (by decide) ?_
  exact kont _ _ _ K I9 J9
theorem lc_reach (C0 : lw_At p s m meth c b L xs) (hL : L ≤ 2560) (F : lw_fix X τ s) (hkn : k ≤ 600000 ∧ n ≤ 7302250) (hi : i + 5 ≤ L) (K : okS σ) (I : IA hA σ) (J : IM hM σ) (kont : ∀ (σ' : SgZ) (hA' hM' : sw_H), okS σ' → IA hA' σ' → IM hM' σ' → lw_wp p l e s m below meth c b X τ k n i 1442 [] hA' hM') : lw_wp p l e s m below meth c b X τ k n i 1026 [] hA hM := by
  obtain ⟨z1, e1, a1, b1⟩ := zI_of (xs (i + 1))
  refine lw_aloadX C0 1027 dL_law_1026 rfl ?_
  refine lw_arg C0 hL hi 1032 (j := 1) (by omega) dL_law_1027 dL_law_1028 dL_law_1029 (by decide) dL_law_1030 dL_law_1031 rfl ?_
  rw [e1]
  refine lw_xI C0 F hkn (As := [.int (zI z1)]) 1035 dL_law_1032 lk_RL_130 (a_reach (d := 0) K I a1 b1) rfl rfl rfl (Nat.le_of_ble_eq_true rfl) (Nat.le_of_ble_eq_true rfl) (fun rx hA9 hqx => ?_)
  obtain ⟨I9, rfl⟩ := hqx
  refine lw_aloadM C0 1036 dL_law_1035 rfl ?_
  refine lw_arg C0 hL hi 1041 (j := 1) (by omega) dL_law_1036 dL_law_1037 dL_law_1038 (by decide) dL_law_1039 dL_law_1040 rfl ?_
  rw [e1]
  refine lw_mI C0 F hkn (As := [.int (zI z1)]) 1044 dL_law_1041 lk_RL_133 (m_reach (d := 0) K J a1 b1) rfl rfl rfl (Nat.le_of_ble_eq_true rfl) (Nat.le_of_ble_eq_true rfl) (fun rm hM9 hqm => ?_)
  obtain ⟨J9, rfl⟩ := hqm
  refine lw_eqI C0 1442 dL_law_1044 (by decide) ?_
  exact kont _ _ _ K I9 J9
theorem lc_passes (C0 : lw_At p s m meth c b L xs) (hL : L ≤ 2560) (F : lw_fix X τ s) (hkn : k ≤ 600000 ∧ n ≤ 7302250) (hi : i + 5 ≤ L) (K : okS σ) (I : IA hA σ) (J : IM hM σ) (kont : ∀ (σ' : SgZ) (hA' hM' : sw_H), okS σ' → IA hA' σ' → IM hM' σ' → lw_wp p l e s m below meth c b X τ k n i 1442 [] hA' hM') : lw_wp p l e s m below meth c b X τ k n i 1049 [] hA hM := by
  obtain ⟨z1, e1, a1, b1⟩ := zI_of (xs (i + 1))
  obtain ⟨z2, e2, a2, b2⟩ := zI_of (xs (i + 2))
  refine lw_aloadX C0 1050 dL_law_1049 rfl ?_
  refine lw_arg C0 hL hi 1055 (j := 1) (by omega) dL_law_1050 dL_law_1051 dL_law_1052 (by decide) dL_law_1053 dL_law_1054 rfl ?_
  rw [e1]
  refine lw_arg C0 hL hi 1060 (j := 2) (by omega) dL_law_1055 dL_law_1056 dL_law_1057 (by decide) dL_law_1058 dL_law_1059 rfl ?_
  rw [e2]
  refine lw_xI C0 F hkn (As := [.int (zI z1), .int (zI z2)]) 1063 dL_law_1060 lk_RL_134 (a_passes (d := 0) K I a1 b1 a2 b2) rfl rfl rfl (Nat.le_of_ble_eq_true rfl) (Nat.le_of_ble_eq_true rfl) (fun rx hA9 hqx => ?_)
  obtain ⟨I9, rfl⟩ := hqx
  refine lw_aloadM C0 1064 dL_law_1063 rfl ?_
  refine lw_arg C0 hL hi 1069 (j := 1) (by omega) dL_law_1064 dL_law_1065 dL_law_1066 (by decide) dL_law_1067 dL_law_1068 rfl ?_
  rw [e1]
  refine lw_arg C0 hL hi 1074 (j := 2) (by omega) dL_law_1069 dL_law_1070 dL_law_1071 (by decide) dL_law_1072 dL_law_1073 rfl ?_
  rw [e2]
  refine lw_mI C0 F hkn (As := [.int (zI z1), .int (zI z2)]) 1077 dL_law_1074 lk_RL_137 (m_passes (d := 0) K J a1 b1 a2 b2) rfl rfl rfl (Nat.le_of_ble_eq_true rfl) (Nat.le_of_ble_eq_true rfl) (fun rm hM9 hqm => ?_)
  obtain ⟨J9, rfl⟩ := hqm
  refine lw_eqI C0 1442 dL_law_1077 (by decide) ?_
  exact kont _ _ _ K I9 J9
theorem lc_left (C0 : lw_At p s m meth c b L xs) (hL : L ≤ 2560) (F : lw_fix X τ s) (hkn : k ≤ 600000 ∧ n ≤ 7302250) (hi : i + 5 ≤ L) (K : okS σ) (I : IA hA σ) (J : IM hM σ) (kont : ∀ (σ' : SgZ) (hA' hM' : sw_H), okS σ' → IA hA' σ' → IM hM' σ' → lw_wp p l e s m below meth c b X τ k n i 1442 [] hA' hM') : lw_wp p l e s m below meth c b X τ k n i 1082 [] hA hM := by
  refine lw_aloadX C0 1083 dL_law_1082 rfl ?_
  refine lw_xI C0 F hkn (As := []) 1086 dL_law_1083 lk_RL_138 (a_left (d := 0) K I) rfl rfl rfl (Nat.le_of_ble_eq_true rfl) (Nat.le_of_ble_eq_true rfl) (fun rx hA9 hqx => ?_)
  obtain ⟨I9, rfl⟩ := hqx
  refine lw_aloadM C0 1087 dL_law_1086 rfl ?_
  refine lw_mI C0 F hkn (As := []) 1090 dL_law_1087 lk_RL_141 (m_left (d := 0) K J) rfl rfl rfl (Nat.le_of_ble_eq_true rfl) (Nat.le_of_ble_eq_true rfl) (fun rm hM9 hqm => ?_)
  obtain ⟨J9, rfl⟩ := hqm
  refine lw_eqI C0 1442 dL_law_1090 (by decide) ?_
  exact kont _ _ _ K I9 J9
theorem lc_feed (C0 : lw_At p s m meth c b L xs) (hL : L ≤ 2560) (F : lw_fix X τ s) (hkn : k ≤ 600000 ∧ n ≤ 7302250) (hi : i + 5 ≤ L) (K : okS σ) (I : IA hA σ) (J : IM hM σ) (kont : ∀ (σ' : SgZ) (hA' hM' : sw_H), okS σ' → IA hA' σ' → IM hM' σ' → lw_wp p l e s m below meth c b X τ k n i 1442 [] hA' hM') : lw_wp p l e s m below meth c b X τ k n i 1095 [] hA hM := by
  obtain ⟨z1, e1, a1, b1⟩ := zI_of (xs (i + 1))
  refine lw_aloadX C0 1096 dL_law_1095 rfl ?_
  refine lw_arg C0 hL hi 1101 (j := 1) (by omega) dL_law_1096 dL_law_1097 dL_law_1098 (by decide) dL_law_1099 dL_law_1100 rfl ?_
  rw [e1]
  refine lw_xI C0 F hkn (As := [.int (zI z1)]) 1104 dL_law_1101 lk_RL_142 (a_feed (d := 0) K I a1 b1) rfl rfl rfl (Nat.le_of_ble_eq_true rfl) (Nat.le_of_ble_eq_true rfl) (fun rx hA9 hqx => ?_)
  obtain ⟨I9, rfl⟩ := hqx
  refine lw_aloadM C0 1105 dL_law_1104 rfl ?_
  refine lw_arg C0 hL hi 1110 (j := 1) (by omega) dL_law_1105 dL_law_1106 dL_law_1107 (by decide) dL_law_1108 dL_law_1109 rfl ?_
  rw [e1]
  refine lw_mI C0 F hkn (As := [.int (zI z1)]) 1113 dL_law_1110 lk_RL_145 (m_feed (d := 0) K J a1 b1) rfl rfl rfl (Nat.le_of_ble_eq_true rfl) (Nat.le_of_ble_eq_true rfl) (fun rm hM9 hqm => ?_)
  obtain ⟨J9, rfl⟩ := hqm
  refine lw_eqI C0 1442 dL_law_1113 (by decide) ?_
  exact kont _ _ _ (k_feed K _) I9 J9
theorem lc_wipe (C0 : lw_At p s m meth c b L xs) (hL : L ≤ 2560) (F : lw_fix X τ s) (hkn : k ≤ 600000 ∧ n ≤ 7302250) (hi : i + 5 ≤ L) (K : okS σ) (I : IA hA σ) (J : IM hM σ) (kont : ∀ (σ' : SgZ) (hA' hM' : sw_H), okS σ' → IA hA' σ' → IM hM' σ' → lw_wp p l e s m below meth c b X τ k n i 1442 [] hA' hM') : lw_wp p l e s m below meth c b X τ k n i 1118 [] hA hM := by
  refine lw_aloadX C0 1119 dL_law_1118 rfl ?_
  refine lw_xI C0 F hkn (As := []) 1122 dL_law_1119 lk_RL_146 (a_wipe (d := 0) K I) rfl rfl rfl (Nat.le_of_ble_eq_true rfl) (Nat.le_of_ble_eq_true rfl) (fun rx hA9 hqx => ?_)
  obtain ⟨I9, rfl⟩ := hqx
  refine lw_aloadM C0 1123 dL_law_1122 rfl ?_
  refine lw_mI C0 F hkn (As := []) 1126 dL_law_1123 lk_RL_149 (m_wipe (d := 0) K J) rfl rfl rfl (Nat.le_of_ble_eq_true rfl) (Nat.le_of_ble_eq_true rfl) (fun rm hM9 hqm => ?_)
  obtain ⟨J9, rfl⟩ := hqm
  refine lw_eqI C0 1442 dL_law_1126 (by decide) ?_
  exact kont _ _ _ (k_wipe K) I9 J9
theorem lc_read (C0 : lw_At p s m meth c b L xs) (hL : L ≤ 2560) (F : lw_fix X τ s) (hkn : k ≤ 600000 ∧ n ≤ 7302250) (hi : i + 5 ≤ L) (K : okS σ) (I : IA hA σ) (J : IM hM σ) (kont : ∀ (σ' : SgZ) (hA' hM' : sw_H), okS σ' → IA hA' σ' → IM hM' σ' → lw_wp p l e s m below meth c b X τ k n i 1442 [] hA' hM') : lw_wp p l e s m below meth c b X τ k n i 1131 [] hA hM := by
  obtain ⟨z1, e1, a1, b1⟩ := zI_of (xs (i + 1))
  refine lw_aloadX C0 1132 dL_law_1131 rfl ?_
  refine lw_arg C0 hL hi 1137 (j := 1) (by omega) dL_law_1132 dL_law_1133 dL_law_1134 (by decide) dL_law_1135 dL_law_1136 rfl ?_
  rw [e1]
  refine lw_xI C0 F hkn (As := [.int (zI z1)]) 1140 dL_law_1137 lk_RL_150 (a_read (d := 0) K I a1 b1) rfl rfl rfl (Nat.le_of_ble_eq_true rfl) (Nat.le_of_ble_eq_true rfl) (fun rx hA9 hqx => ?_)
  obtain ⟨I9, rfl⟩ := hqx
  refine lw_aloadM C0 1141 dL_law_1140 rfl ?_
  refine lw_arg C0 hL hi 1146 (j := 1) (by omega) dL_law_1141 dL_law_1142 dL_law_1143 (by decide) dL_law_1144 dL_law_1145 rfl ?_
  rw [e1]
  refine lw_mI C0 F hkn (As := [.int (zI z1)]) 1149 dL_law_1146 lk_RL_153 (m_read (d := 0) K J a1 b1) rfl rfl rfl (Nat.le_of_ble_eq_true rfl) (Nat.le_of_ble_eq_true rfl) (fun rm hM9 hqm => ?_)
  obtain ⟨J9, rfl⟩ := hqm
  refine lw_eqI C0 1442 dL_law_1149 (by decide) ?_
  exact kont _ _ _ (k_read K _) I9 J9
theorem lc_spelled (C0 : lw_At p s m meth c b L xs) (hL : L ≤ 2560) (F : lw_fix X τ s) (hkn : k ≤ 600000 ∧ n ≤ 7302250) (hi : i + 5 ≤ L) (K : okS σ) (I : IA hA σ) (J : IM hM σ) (kont : ∀ (σ' : SgZ) (hA' hM' : sw_H), okS σ' → IA hA' σ' → IM hM' σ' → lw_wp p l e s m below meth c b X τ k n i 1442 [] hA' hM') : lw_wp p l e s m below meth c b X τ k n i 1154 [] hA hM := by
  obtain ⟨z1, e1, a1, b1⟩ := zI_of (xs (i + 1))
  obtain ⟨z2, e2, a2, b2⟩ := zI_of (xs (i + 2))
  refine lw_aloadX C0 1155 dL_law_1154 rfl ?_
  refine lw_arg C0 hL hi 1160 (j := 1) (by omega) dL_law_1155 dL_law_1156 dL_law_1157 (by decide) dL_law_1158 dL_law_1159 rfl ?_
  rw [e1]
  refine lw_arg C0 hL hi 1165 (j := 2) (by omega) dL_law_1160 dL_law_1161 dL_law_1162 (by decide) dL_law_1163 dL_law_1164 rfl ?_
  rw [e2]
  refine lw_xI C0 F hkn (As := [.int (zI z1), .int (zI z2)]) 1168 dL_law_1165 lk_RL_154 (a_spelled (d := 0) K I a1 b1 a2 b2) rfl rfl rfl (Nat.le_of_ble_eq_true rfl) (Nat.le_of_ble_eq_true rfl) (fun rx hA9 hqx => ?_)
  obtain ⟨I9, rfl⟩ := hqx
  refine lw_aloadM C0 1169 dL_law_1168 rfl ?_
  refine lw_arg C0 hL hi 1174 (j := 1) (by omega) dL_law_1169 dL_law_1170 dL_law_1171 (by decide) dL_law_1172 dL_law_1173 rfl ?_
  rw [e1]
  refine lw_arg C0 hL hi 1179 (j := 2) (by omega) dL_law_1174 dL_law_1175 dL_law_1176 (by decide) dL_law_1177 dL_law_1178 rfl ?_
  rw [e2]
  refine lw_mI C0 F hkn (As := [.int (zI z1), .int (zI z2)]) 1182 dL_law_1179 lk_RL_157 (m_spelled (d := 0) K J a1 b1 a2 b2) rfl rfl rfl (Nat.le_of_ble_eq_true rfl) (Nat.le_of_ble_eq_true rfl) (fun rm hM9 hqm => ?_)
  obtain ⟨J9, rfl⟩ := hqm
  refine lw_eqI C0 1442 dL_law_1182 (by decide) ?_
  exact kont _ _ _ K I9 J9
theorem lc_list (C0 : lw_At p s m meth c b L xs) (hL : L ≤ 2560) (F : lw_fix X τ s) (hkn : k ≤ 600000 ∧ n ≤ 7302250) (hi : i + 5 ≤ L) (K : okS σ) (I : IA hA σ) (J : IM hM σ) (kont : ∀ (σ' : SgZ) (hA' hM' : sw_H), okS σ' → IA hA' σ' → IM hM' σ' → lw_wp p l e s m below meth c b X τ k n i 1442 [] hA' hM') : lw_wp p l e s m below meth c b X τ k n i 1187 [] hA hM := by
  obtain ⟨z1, e1, a1, b1⟩ := zI_of (xs (i + 1))
  obtain ⟨z2, e2, a2, b2⟩ := zI_of (xs (i + 2))
  refine lw_aloadX C0 1188 dL_law_1187 rfl ?_
  refine lw_arg C0 hL hi 1193 (j := 1) (by omega) dL_law_1188 dL_law_1189 dL_law_1190 (by decide) dL_law_1191 dL_law_1192 rfl ?_
  rw [e1]
  refine lw_arg C0 hL hi 1198 (j := 2) (by omega) dL_law_1193 dL_law_1194 dL_law_1195 (by decide) dL_law_1196 dL_law_1197 rfl ?_
  rw [e2]
  refine lw_xI C0 F hkn (As := [.int (zI z1), .int (zI z2)]) 1201 dL_law_1198 lk_RL_158 (a_list (d := 0) K I a1 b1 a2 b2) rfl rfl rfl (Nat.le_of_ble_eq_true rfl) (Nat.le_of_ble_eq_true rfl) (fun rx hA9 hqx => ?_)
  obtain ⟨I9, rfl⟩ := hqx
  refine lw_aloadM C0 1202 dL_law_1201 rfl ?_
  refine lw_arg C0 hL hi 1207 (j := 1) (by omega) dL_law_1202 dL_law_1203 dL_law_1204 (by decide) dL_law_1205 dL_law_1206 rfl ?_
  rw [e1]
  refine lw_arg C0 hL hi 1212 (j := 2) (by omega) dL_law_1207 dL_law_1208 dL_law_1209 (by decide) dL_law_1210 dL_law_1211 rfl ?_
  rw [e2]
  refine lw_mI C0 F hkn (As := [.int (zI z1), .int (zI z2)]) 1215 dL_law_1212 lk_RL_161 (m_list (d := 0) K J a1 b1 a2 b2) rfl rfl rfl (Nat.le_of_ble_eq_true rfl) (Nat.le_of_ble_eq_true rfl) (fun rm hM9 hqm => ?_)
  obtain ⟨J9, rfl⟩ := hqm
  refine lw_eqI C0 1442 dL_law_1215 (by decide) ?_
  exact kont _ _ _ (k_list K _ _) I9 J9
theorem lc_lay (C0 : lw_At p s m meth c b L xs) (hL : L ≤ 2560) (F : lw_fix X τ s) (hkn : k ≤ 600000 ∧ n ≤ 7302250) (hi : i + 5 ≤ L) (K : okS σ) (I : IA hA σ) (J : IM hM σ) (kont : ∀ (σ' : SgZ) (hA' hM' : sw_H), okS σ' → IA hA' σ' → IM hM' σ' → lw_wp p l e s m below meth c b X τ k n i 1442 [] hA' hM') : lw_wp p l e s m below meth c b X τ k n i 1220 [] hA hM := by
  obtain ⟨z1, e1, a1, b1⟩ := zI_of (xs (i + 1))
  obtain ⟨z2, e2, a2, b2⟩ := zI_of (xs (i + 2))
  refine lw_aloadX C0 1221 dL_law_1220 rfl ?_
  refine lw_arg C0 hL hi 1226 (j := 1) (by omega) dL_law_1221 dL_law_1222 dL_law_1223 (by decide) dL_law_1224 dL_law_1225 rfl ?_
  rw [e1]
  refine lw_arg C0 hL hi 1231 (j := 2) (by omega) dL_law_1226 dL_law_1227 dL_law_1228 (by decide) dL_law_1229 dL_law_1230 rfl ?_
  rw [e2]
  refine lw_long C0 hL hi 1251 (show i + 4 < L by omega) dL_law_1231 dL_law_1232 dL_law_1233 dL_law_1234 dL_law_1235 dL_law_1236 dL_law_1237 dL_law_1239 dL_law_1240 dL_law_1241 dL_law_1242 dL_law_1243 dL_law_1244 dL_law_1245 dL_law_1246 dL_law_1249 dL_law_1250 rfl ?_
  refine lw_xI C0 F hkn (As := [.int (zI z1), .int (zI z2), .long (lw_v xs i)]) 1254 dL_law_1251 lk_RL_164 (a_lay (d := 0) K I a1 b1 a2 b2) rfl rfl rfl (Nat.le_of_ble_eq_true rfl) (Nat.le_of_ble_eq_true rfl) (fun rx hA9 hqx => ?_)
  obtain ⟨I9, rfl⟩ := hqx
  refine lw_aloadM C0 1255 dL_law_1254 rfl ?_
  refine lw_arg C0 hL hi 1260 (j := 1) (by omega) dL_law_1255 dL_law_1256 dL_law_1257 (by decide) dL_law_1258 dL_law_1259 rfl ?_
  rw [e1]
  refine lw_arg C0 hL hi 1265 (j := 2) (by omega) dL_law_1260 dL_law_1261 dL_law_1262 (by decide) dL_law_1263 dL_law_1264 rfl ?_
  rw [e2]
  refine lw_long C0 hL hi 1285 (show i + 4 < L by omega) dL_law_1265 dL_law_1266 dL_law_1267 dL_law_1268 dL_law_1269 dL_law_1270 dL_law_1271 dL_law_1273 dL_law_1274 dL_law_1275 dL_law_1276 dL_law_1277 dL_law_1278 dL_law_1279 dL_law_1280 dL_law_1283 dL_law_1284 rfl ?_
  refine lw_mI C0 F hkn (As := [.int (zI z1), .int (zI z2), .long (lw_v xs i)]) 1288 dL_law_1285 lk_RL_168 (m_lay (d := 0) K J a1 b1 a2 b2) rfl rfl rfl (Nat.le_of_ble_eq_true rfl) (Nat.le_of_ble_eq_true rfl) (fun rm hM9 hqm => ?_)
  obtain ⟨J9, rfl⟩ := hqm
  refine lw_eqI C0 1442 dL_law_1288 (by decide) ?_
  exact kont _ _ _ (k_lay K _ _ _) I9 J9
theorem lc_get (C0 : lw_At p s m meth c b L xs) (hL : L ≤ 2560) (F : lw_fix X τ s) (hkn : k ≤ 600000 ∧ n ≤ 7302250) (hi : i + 5 ≤ L) (K : okS σ) (I : IA hA σ) (J : IM hM σ) (kont : ∀ (σ' : SgZ) (hA' hM' : sw_H), okS σ' → IA hA' σ' → IM hM' σ' → lw_wp p l e s m below meth c b X τ k n i 1442 [] hA' hM') : lw_wp p l e s m below meth c b X τ k n i 1293 [] hA hM := by
  obtain ⟨z1, e1, a1, b1⟩ := zI_of (xs (i + 1))
  obtain ⟨z2, e2, a2, b2⟩ := zI_of (xs (i + 2))
  refine lw_aloadX C0 1294 dL_law_1293 rfl ?_
  refine lw_arg C0 hL hi 1299 (j := 1) (by omega) dL_law_1294 dL_law_1295 dL_law_1296 (by decide) dL_law_1297 dL_law_1298 rfl ?_
  rw [e1]
  refine lw_arg C0 hL hi 1304 (j := 2) (by omega) dL_law_1299 dL_law_1300 dL_law_1301 (by decide) dL_law_1302 dL_law_1303 rfl ?_
  rw [e2]
  refine lw_xL C0 F hkn (As := [.int (zI z1), .int (zI z2)]) 1307 dL_law_1304 lk_RL_169 (a_get (d := 0) K I a1 b1 a2 b2) rfl rfl rfl (Nat.le_of_ble_eq_true rfl) (Nat.le_of_ble_eq_true rfl) (fun rx hA9 hqx => ?_)
  obtain ⟨I9, rfl⟩ := hqx
  refine lw_aloadM C0 1308 dL_law_1307 rfl ?_
  refine lw_arg C0 hL hi 1313 (j := 1) (by omega) dL_law_1308 dL_law_1309 dL_law_1310 (by decide) dL_law_1311 dL_law_1312 rfl ?_
  rw [e1]
  refine lw_arg C0 hL hi 1318 (j := 2) (by omega) dL_law_1313 dL_law_1314 dL_law_1315 (by decide) dL_law_1316 dL_law_1317 rfl ?_
  rw [e2]
  refine lw_mL C0 F hkn (As := [.int (zI z1), .int (zI z2)]) 1321 dL_law_1318 lk_RL_172 (m_get (d := 0) K J a1 b1 a2 b2) rfl rfl rfl (Nat.le_of_ble_eq_true rfl) (Nat.le_of_ble_eq_true rfl) (fun rm hM9 hqm => ?_)
  obtain ⟨J9, rfl⟩ := hqm
  refine lw_eqL C0 1442 dL_law_1321 dL_law_1322 (by decide) ?_
  exact kont _ _ _ K I9 J9
theorem lc_film (C0 : lw_At p s m meth c b L xs) (hL : L ≤ 2560) (F : lw_fix X τ s) (hkn : k ≤ 600000 ∧ n ≤ 7302250) (hi : i + 5 ≤ L) (K : okS σ) (I : IA hA σ) (J : IM hM σ) (kont : ∀ (σ' : SgZ) (hA' hM' : sw_H), okS σ' → IA hA' σ' → IM hM' σ' → lw_wp p l e s m below meth c b X τ k n i 1442 [] hA' hM') : lw_wp p l e s m below meth c b X τ k n i 1327 [] hA hM := by
  obtain ⟨z1, e1, a1, b1⟩ := zI_of (xs (i + 1))
  obtain ⟨z2, e2, a2, b2⟩ := zI_of (xs (i + 2))
  refine lw_aloadX C0 1328 dL_law_1327 rfl ?_
  refine lw_arg C0 hL hi 1333 (j := 1) (by omega) dL_law_1328 dL_law_1329 dL_law_1330 (by decide) dL_law_1331 dL_law_1332 rfl ?_
  rw [e1]
  refine lw_arg C0 hL hi 1338 (j := 2) (by omega) dL_law_1333 dL_law_1334 dL_law_1335 (by decide) dL_law_1336 dL_law_1337 rfl ?_
  rw [e2]
  refine lw_xI C0 F hkn (As := [.int (zI z1), .int (zI z2)]) 1341 dL_law_1338 lk_RL_173 (a_film (d := 0) K I a1 b1 a2 b2) rfl rfl rfl (Nat.le_of_ble_eq_true rfl) (Nat.le_of_ble_eq_true rfl) (fun rx hA9 hqx => ?_)
  obtain ⟨I9, rfl⟩ := hqx
  refine lw_aloadM C0 1342 dL_law_1341 rfl ?_
  refine lw_arg C0 hL hi 1347 (j := 1) (by omega) dL_law_1342 dL_law_1343 dL_law_1344 (by decide) dL_law_1345 dL_law_1346 rfl ?_
  rw [e1]
  refine lw_arg C0 hL hi 1352 (j := 2) (by omega) dL_law_1347 dL_law_1348 dL_law_1349 (by decide) dL_law_1350 dL_law_1351 rfl ?_
  rw [e2]
  refine lw_mI C0 F hkn (As := [.int (zI z1), .int (zI z2)]) 1355 dL_law_1352 lk_RL_176 (m_film (d := 0) K J a1 b1 a2 b2) rfl rfl rfl (Nat.le_of_ble_eq_true rfl) (Nat.le_of_ble_eq_true rfl) (fun rm hM9 hqm => ?_)
  obtain ⟨J9, rfl⟩ := hqm
  refine lw_eqI C0 1442 dL_law_1355 (by decide) ?_
  exact kont _ _ _ (k_film _ K _ _) I9 J9
theorem lc_judge (C0 : lw_At p s m meth c b L xs) (hL : L ≤ 2560) (F : lw_fix X τ s) (hkn : k ≤ 600000 ∧ n ≤ 7302250) (hi : i + 5 ≤ L) (K : okS σ) (I : IA hA σ) (J : IM hM σ) (kont : ∀ (σ' : SgZ) (hA' hM' : sw_H), okS σ' → IA hA' σ' → IM hM' σ' → lw_wp p l e s m below meth c b X τ k n i 1442 [] hA' hM') : lw_wp p l e s m below meth c b X τ k n i 1360 [] hA hM := by
  obtain ⟨z1, e1, a1, b1⟩ := zI_of (xs (i + 1))
  obtain ⟨z2, e2, a2, b2⟩ := zI_of (xs (i + 2))
  refine lw_aloadX C0 1361 dL_law_1360 rfl ?_
  refine lw_arg C0 hL hi 1366 (j := 1) (by omega) dL_law_1361 dL_law_1362 dL_law_1363 (by decide) dL_law_1364 dL_law_1365 rfl ?_
  rw [e1]
  refine lw_arg C0 hL hi 1371 (j := 2) (by omega) dL_law_1366 dL_law_1367 dL_law_1368 (by decide) dL_law_1369 dL_law_1370 rfl ?_
  rw [e2]
  refine lw_xI C0 F hkn (As := [.int (zI z1), .int (zI z2)]) 1374 dL_law_1371 lk_RL_177 (a_judge (d := 0) K I a1 b1 a2 b2) rfl rfl rfl (Nat.le_of_ble_eq_true rfl) (Nat.le_of_ble_eq_true rfl) (fun rx hA9 hqx => ?_)
  obtain ⟨I9, rfl⟩ := hqx
  refine lw_aloadM C0 1375 dL_law_1374 rfl ?_
  refine lw_arg C0 hL hi 1380 (j := 1) (by omega) dL_law_1375 dL_law_1376 dL_law_1377 (by decide) dL_law_1378 dL_law_1379 rfl ?_
  rw [e1]
  refine lw_arg C0 hL hi 1385 (j := 2) (by omega) dL_law_1380 dL_law_1381 dL_law_1382 (by decide) dL_law_1383 dL_law_1384 rfl ?_
  rw [e2]
  refine lw_mI C0 F hkn (As := [.int (zI z1), .int (zI z2)]) 1388 dL_law_1385 lk_RL_180 (m_judge (d := 0) K J a1 b1 a2 b2) rfl rfl rfl (Nat.le_of_ble_eq_true rfl) (Nat.le_of_ble_eq_true rfl) (fun rm hM9 hqm => ?_)
  obtain ⟨J9, rfl⟩ := hqm
  refine lw_eqI C0 1442 dL_law_1388 (by decide) ?_
  exact kont _ _ _ K I9 J9
theorem lc_image (C0 : lw_At p s m meth c b L xs) (hL : L ≤ 2560) (F : lw_fix X τ s) (hkn : k ≤ 600000 ∧ n ≤ 7302250) (hi : i + 5 ≤ L) (K : okS σ) (I : IA hA σ) (J : IM hM σ) (kont : ∀ (σ' : SgZ) (hA' hM' : sw_H), okS σ' → IA hA' σ' → IM hM' σ' → lw_wp p l e s m below meth c b X τ k n i 1442 [] hA' hM') : lw_wp p l e s m below meth c b X τ k n i 1393 [] hA hM := by
  refine lw_aloadX C0 1394 dL_law_1393 rfl ?_
  refine lw_xI C0 F hkn (As := []) 1397 dL_law_1394 lk_RL_181 (a_image (d := 0) K I) rfl rfl rfl (Nat.le_of_ble_eq_true rfl) (Nat.le_of_ble_eq_true rfl) (fun rx hA9 hqx => ?_)
  obtain ⟨I9, rfl⟩ := hqx
  refine lw_aloadM C0 1398 dL_law_1397 rfl ?_
  refine lw_mI C0 F hkn (As := []) 1401 dL_law_1398 lk_RL_184 (m_image (d := 0) K J) rfl rfl rfl (Nat.le_of_ble_eq_true rfl) (Nat.le_of_ble_eq_true rfl) (fun rm hM9 hqm => ?_)
  obtain ⟨J9, rfl⟩ := hqm
  refine lw_eqI C0 1442 dL_law_1401 (by decide) ?_
  exact kont _ _ _ (k_image K) I9 J9
theorem lc_undo (C0 : lw_At p s m meth c b L xs) (hL : L ≤ 2560) (F : lw_fix X τ s) (hkn : k ≤ 600000 ∧ n ≤ 7302250) (hi : i + 5 ≤ L) (K : okS σ) (I : IA hA σ) (J : IM hM σ) (kont : ∀ (σ' : SgZ) (hA' hM' : sw_H), okS σ' → IA hA' σ' → IM hM' σ' → lw_wp p l e s m below meth c b X τ k n i 1442 [] hA' hM') : lw_wp p l e s m below meth c b X τ k n i 1406 [] hA hM := by
  refine lw_aloadX C0 1407 dL_law_1406 rfl ?_
  refine lw_xI C0 F hkn (As := []) 1410 dL_law_1407 lk_RL_185 (a_undo (d := 0) K I) rfl rfl rfl (Nat.le_of_ble_eq_true rfl) (Nat.le_of_ble_eq_true rfl) (fun rx hA9 hqx => ?_)
  obtain ⟨I9, rfl⟩ := hqx
  refine lw_aloadM C0 1411 dL_law_1410 rfl ?_
  refine lw_mI C0 F hkn (As := []) 1414 dL_law_1411 lk_RL_188 (m_undo (d := 0) K J) rfl rfl rfl (Nat.le_of_ble_eq_true rfl) (Nat.le_of_ble_eq_true rfl) (fun rm hM9 hqm => ?_)
  obtain ⟨J9, rfl⟩ := hqm
  refine lw_eqI C0 1442 dL_law_1414 (by decide) ?_
  exact kont _ _ _ (k_undo K) I9 J9
theorem lc_count (C0 : lw_At p s m meth c b L xs) (hL : L ≤ 2560) (F : lw_fix X τ s) (hkn : k ≤ 600000 ∧ n ≤ 7302250) (hi : i + 5 ≤ L) (K : okS σ) (I : IA hA σ) (J : IM hM σ) (kont : ∀ (σ' : SgZ) (hA' hM' : sw_H), okS σ' → IA hA' σ' → IM hM' σ' → lw_wp p l e s m below meth c b X τ k n i 1442 [] hA' hM') : lw_wp p l e s m below meth c b X τ k n i 1419 [] hA hM := by
  obtain ⟨z1, e1, a1, b1⟩ := zI_of (xs (i + 1))
  refine lw_aloadX C0 1420 dL_law_1419 rfl ?_
  refine lw_arg C0 hL hi 1425 (j := 1) (by omega) dL_law_1420 dL_law_1421 dL_law_1422 (by decide) dL_law_1423 dL_law_1424 rfl ?_
  rw [e1]
  refine lw_xI C0 F hkn (As := [.int (zI z1)]) 1428 dL_law_1425 lk_RL_189 (a_count (d := 0) K I a1 b1) rfl rfl rfl (Nat.le_of_ble_eq_true rfl) (Nat.le_of_ble_eq_true rfl) (fun rx hA9 hqx => ?_)
  obtain ⟨I9, rfl⟩ := hqx
  refine lw_aloadM C0 1429 dL_law_1428 rfl ?_
  refine lw_arg C0 hL hi 1434 (j := 1) (by omega) dL_law_1429 dL_law_1430 dL_law_1431 (by decide) dL_law_1432 dL_law_1433 rfl ?_
  rw [e1]
  refine lw_mI C0 F hkn (As := [.int (zI z1)]) 1437 dL_law_1434 lk_RL_192 (m_count (d := 0) K J a1 b1) rfl rfl rfl (Nat.le_of_ble_eq_true rfl) (Nat.le_of_ble_eq_true rfl) (fun rm hM9 hqm => ?_)
  obtain ⟨J9, rfl⟩ := hqm
  refine lw_eqI C0 1442 dL_law_1437 (by decide) ?_
  exact kont _ _ _ K I9 J9
end sw_law2
