/-! the law: its calls (gen_law.py) -/
theorem law_m63 (x : Int32) : 0 ≤ (x &&& 63).toInt ∧ (x &&& 63).toInt ≤ 63 := by
  have h : (x &&& 63).toInt = ((x &&& 63).toBitVec.toNat : Int) := by
    have hm : (x &&& 63).toBitVec.toNat ≤ 63 := by
      show (x.toBitVec &&& (63 : Int32).toBitVec).toNat ≤ 63
      rw [BitVec.toNat_and]; exact Nat.and_le_right
    show (x &&& 63).toBitVec.toInt = _
    rw [BitVec.toInt_eq_toNat_of_lt (by omega)]
  have hm : (x &&& 63).toBitVec.toNat ≤ 63 := by
    show (x.toBitVec &&& (63 : Int32).toBitVec).toNat ≤ 63
    rw [BitVec.toNat_and]; exact Nat.and_le_right
  omega
section LCASES
variable {E : En} {p : Program} {e : Env} {s : State} {m : MethodId} {below : List Frame} {meth : Method} {c : Code} {b L : Nat} {xs : Nat → Int32} {i0 : Nat} {M : Mem}
set_option maxRecDepth 10000 in
theorem law_0 (hC : LK E p s m meth c b L xs) (hi : i0 + 5 ≤ L) (hR : Rel M) (ih : ∀ M', Rel M' → LV E p e s m below meth c b 1440 (lc E b i0) [] M') : LV E p e s m below meth c b 224 (lc E b i0) [] M := by
  obtain ⟨r, M1, M2, h1, h2, h3⟩ := op_feed (x := (xs (i0 + 1)).toInt) (rgx _) hR
  refine LV.a1 hC dL_law_224 ?_
  refine LV.arg hC 1 1 rfl (by omega) dL_law_225 dL_law_226 dL_law_227 dL_law_228 dL_law_229 ?_
  refine LV.callV hC [vi (xs (i0 + 1)).toInt] [] (c_X5_feed (d := 40) (by decide) h1) okX5_feed gw_310 rfl rfl (by decide) (hcX5 E _) rfl (Nat.le_of_ble_eq_true rfl) (by decide) dL_law_230 (fun v N hq => ?_)
  obtain ⟨rfl, rfl⟩ := hq
  refine LV.a2 hC dL_law_233 ?_
  refine LV.arg hC 1 1 rfl (by omega) dL_law_234 dL_law_235 dL_law_236 dL_law_237 dL_law_238 ?_
  refine LV.callV hC [vi (xs (i0 + 1)).toInt] [vi r] (c_X6_feed (d := 40) (by decide) h2) okX6_feed gw_961 rfl rfl (by decide) (hcX6 E _) rfl (Nat.le_of_ble_eq_true rfl) (by decide) dL_law_239 (fun v N hq => ?_)
  obtain ⟨rfl, rfl⟩ := hq
  refine LV.eqi hC (r := r) (tgt := 1440) dL_law_242 (by decide) ?_
  exact ih _ h3
set_option maxRecDepth 10000 in
theorem law_1 (hC : LK E p s m meth c b L xs) (hi : i0 + 5 ≤ L) (hR : Rel M) (ih : ∀ M', Rel M' → LV E p e s m below meth c b 1440 (lc E b i0) [] M') : LV E p e s m below meth c b 247 (lc E b i0) [] M := by
  obtain ⟨r, M1, M2, h1, h2, h3⟩ := op_end (x := (xs (i0 + 1)).toInt) (rgx _) hR
  refine LV.a1 hC dL_law_247 ?_
  refine LV.arg hC 1 1 rfl (by omega) dL_law_248 dL_law_249 dL_law_250 dL_law_251 dL_law_252 ?_
  refine LV.callV hC [vi (xs (i0 + 1)).toInt] [] (c_X5_end (d := 40) (by decide) h1) okX5_end gw_321 rfl rfl (by decide) (hcX5 E _) rfl (Nat.le_of_ble_eq_true rfl) (by decide) dL_law_253 (fun v N hq => ?_)
  obtain ⟨rfl, rfl⟩ := hq
  refine LV.a2 hC dL_law_256 ?_
  refine LV.arg hC 1 1 rfl (by omega) dL_law_257 dL_law_258 dL_law_259 dL_law_260 dL_law_261 ?_
  refine LV.callV hC [vi (xs (i0 + 1)).toInt] [vi r] (c_X6_end (d := 40) (by decide) h2) okX6_end gw_969 rfl rfl (by decide) (hcX6 E _) rfl (Nat.le_of_ble_eq_true rfl) (by decide) dL_law_262 (fun v N hq => ?_)
  obtain ⟨rfl, rfl⟩ := hq
  refine LV.eqi hC (r := r) (tgt := 1440) dL_law_265 (by decide) ?_
  exact ih _ h3
set_option maxRecDepth 10000 in
theorem law_2 (hC : LK E p s m meth c b L xs) (hi : i0 + 5 ≤ L) (hR : Rel M) (ih : ∀ M', Rel M' → LV E p e s m below meth c b 1440 (lc E b i0) [] M') : LV E p e s m below meth c b 270 (lc E b i0) [] M := by
  obtain ⟨r, M1, M2, h1, h2, h3⟩ := op_text (n := 1000)  (Nat.le_refl _)  hR
  refine LV.a1 hC dL_law_270 ?_
  refine LV.callV hC [] [] (c_X5_text (d := 40) (by decide) h1) okX5_text gw_325 rfl rfl (by decide) (hcX5 E _) rfl (Nat.le_of_ble_eq_true rfl) (by decide) dL_law_271 (fun v N hq => ?_)
  obtain ⟨rfl, rfl⟩ := hq
  refine LV.a2 hC dL_law_274 ?_
  refine LV.callV hC [] [vi r] (c_X6_text (d := 40) (by decide) h2) okX6_text gw_973 rfl rfl (by decide) (hcX6 E _) rfl (Nat.le_of_ble_eq_true rfl) (by decide) dL_law_275 (fun v N hq => ?_)
  obtain ⟨rfl, rfl⟩ := hq
  refine LV.eqi hC (r := r) (tgt := 1440) dL_law_278 (by decide) ?_
  exact ih _ h3
set_option maxRecDepth 10000 in
theorem law_3 (hC : LK E p s m meth c b L xs) (hi : i0 + 5 ≤ L) (hR : Rel M) (ih : ∀ M', Rel M' → LV E p e s m below meth c b 1440 (lc E b i0) [] M') : LV E p e s m below meth c b 283 (lc E b i0) [] M := by
  obtain ⟨r, h1, h2⟩ := op_fault   hR
  refine LV.a1 hC dL_law_283 ?_
  refine LV.callV hC [] [] (c_X5_fault (d := 40) (by decide) h1) okX5_fault gw_491 rfl rfl (by decide) (hcX5 E _) rfl (Nat.le_of_ble_eq_true rfl) (by decide) dL_law_284 (fun v N hq => ?_)
  obtain ⟨rfl, rfl⟩ := hq
  refine LV.a2 hC dL_law_287 ?_
  refine LV.callV hC [] [vi r] (c_X6_fault (d := 40) (by decide) h2) okX6_fault gw_1014 rfl rfl (by decide) (hcX6 E _) rfl (Nat.le_of_ble_eq_true rfl) (by decide) dL_law_288 (fun v N hq => ?_)
  obtain ⟨rfl, rfl⟩ := hq
  refine LV.eqi hC (r := r) (tgt := 1440) dL_law_291 (by decide) ?_
  exact ih _ hR
set_option maxRecDepth 10000 in
theorem law_4 (hC : LK E p s m meth c b L xs) (hi : i0 + 5 ≤ L) (hR : Rel M) (ih : ∀ M', Rel M' → LV E p e s m below meth c b 1440 (lc E b i0) [] M') : LV E p e s m below meth c b 296 (lc E b i0) [] M := by
  obtain ⟨r, h1, h2⟩ := op_rule (x := (xs (i0 + 1)).toInt) (rgx _) hR
  refine LV.a1 hC dL_law_296 ?_
  refine LV.arg hC 1 1 rfl (by omega) dL_law_297 dL_law_298 dL_law_299 dL_law_300 dL_law_301 ?_
  refine LV.callV hC [vi (xs (i0 + 1)).toInt] [] (c_X5_rule (d := 40) (by decide) h1) okX5_rule gw_495 rfl rfl (by decide) (hcX5 E _) rfl (Nat.le_of_ble_eq_true rfl) (by decide) dL_law_302 (fun v N hq => ?_)
  obtain ⟨rfl, rfl⟩ := hq
  refine LV.a2 hC dL_law_305 ?_
  refine LV.arg hC 1 1 rfl (by omega) dL_law_306 dL_law_307 dL_law_308 dL_law_309 dL_law_310 ?_
  refine LV.callV hC [vi (xs (i0 + 1)).toInt] [vi r] (c_X6_rule (d := 40) (by decide) h2) okX6_rule gw_1018 rfl rfl (by decide) (hcX6 E _) rfl (Nat.le_of_ble_eq_true rfl) (by decide) dL_law_311 (fun v N hq => ?_)
  obtain ⟨rfl, rfl⟩ := hq
  refine LV.eqi hC (r := r) (tgt := 1440) dL_law_314 (by decide) ?_
  exact ih _ hR
set_option maxRecDepth 10000 in
theorem law_5 (hC : LK E p s m meth c b L xs) (hi : i0 + 5 ≤ L) (hR : Rel M) (ih : ∀ M', Rel M' → LV E p e s m below meth c b 1440 (lc E b i0) [] M') : LV E p e s m below meth c b 319 (lc E b i0) [] M := by
  obtain ⟨r, h1, h2⟩ := op_land (x := (xs (i0 + 1)).toInt) (y := (xs (i0 + 2)).toInt) (rgx _) (rgx _) hR
  refine LV.a1 hC dL_law_319 ?_
  refine LV.arg hC 1 1 rfl (by omega) dL_law_320 dL_law_321 dL_law_322 dL_law_323 dL_law_324 ?_
  refine LV.arg hC 2 2 rfl (by omega) dL_law_325 dL_law_326 dL_law_327 dL_law_328 dL_law_329 ?_
  refine LV.callV hC [vi (xs (i0 + 1)).toInt, vi (xs (i0 + 2)).toInt] [] (c_X5_land (d := 40) (by decide) h1) okX5_land gw_499 rfl rfl (by decide) (hcX5 E _) rfl (Nat.le_of_ble_eq_true rfl) (by decide) dL_law_330 (fun v N hq => ?_)
  obtain ⟨rfl, rfl⟩ := hq
  refine LV.a2 hC dL_law_333 ?_
  refine LV.arg hC 1 1 rfl (by omega) dL_law_334 dL_law_335 dL_law_336 dL_law_337 dL_law_338 ?_
  refine LV.arg hC 2 2 rfl (by omega) dL_law_339 dL_law_340 dL_law_341 dL_law_342 dL_law_343 ?_
  refine LV.callV hC [vi (xs (i0 + 1)).toInt, vi (xs (i0 + 2)).toInt] [vi r] (c_X6_land (d := 40) (by decide) h2) okX6_land gw_1030 rfl rfl (by decide) (hcX6 E _) rfl (Nat.le_of_ble_eq_true rfl) (by decide) dL_law_344 (fun v N hq => ?_)
  obtain ⟨rfl, rfl⟩ := hq
  refine LV.eqi hC (r := r) (tgt := 1440) dL_law_347 (by decide) ?_
  exact ih _ hR
set_option maxRecDepth 10000 in
theorem law_6 (hC : LK E p s m meth c b L xs) (hi : i0 + 5 ≤ L) (hR : Rel M) (ih : ∀ M', Rel M' → LV E p e s m below meth c b 1440 (lc E b i0) [] M') : LV E p e s m below meth c b 352 (lc E b i0) [] M := by
  obtain ⟨r, h1, h2⟩ := op_reading (x := (xs (i0 + 1)).toInt) (y := (xs (i0 + 2)).toInt) (rgx _) (rgx _) hR
  refine LV.a1 hC dL_law_352 ?_
  refine LV.arg hC 1 1 rfl (by omega) dL_law_353 dL_law_354 dL_law_355 dL_law_356 dL_law_357 ?_
  refine LV.arg hC 2 2 rfl (by omega) dL_law_358 dL_law_359 dL_law_360 dL_law_361 dL_law_362 ?_
  refine LV.callV hC [vi (xs (i0 + 1)).toInt, vi (xs (i0 + 2)).toInt] [] (c_X5_reading (d := 40) (by decide) h1) okX5_reading gw_514 rfl rfl (by decide) (hcX5 E _) rfl (Nat.le_of_ble_eq_true rfl) (by decide) dL_law_363 (fun v N hq => ?_)
  obtain ⟨rfl, rfl⟩ := hq
  refine LV.a2 hC dL_law_366 ?_
  refine LV.arg hC 1 1 rfl (by omega) dL_law_367 dL_law_368 dL_law_369 dL_law_370 dL_law_371 ?_
  refine LV.arg hC 2 2 rfl (by omega) dL_law_372 dL_law_373 dL_law_374 dL_law_375 dL_law_376 ?_
  refine LV.callV hC [vi (xs (i0 + 1)).toInt, vi (xs (i0 + 2)).toInt] [vi r] (c_X6_reading (d := 40) (by decide) h2) okX6_reading gw_1038 rfl rfl (by decide) (hcX6 E _) rfl (Nat.le_of_ble_eq_true rfl) (by decide) dL_law_377 (fun v N hq => ?_)
  obtain ⟨rfl, rfl⟩ := hq
  refine LV.eqi hC (r := r) (tgt := 1440) dL_law_380 (by decide) ?_
  exact ih _ hR
set_option maxRecDepth 10000 in
theorem law_7 (hC : LK E p s m meth c b L xs) (hi : i0 + 5 ≤ L) (hR : Rel M) (ih : ∀ M', Rel M' → LV E p e s m below meth c b 1440 (lc E b i0) [] M') : LV E p e s m below meth c b 385 (lc E b i0) [] M := by
  obtain ⟨r, h1, h2⟩ := op_bears (n := 1000) (x := (xs (i0 + 1)).toInt) (Nat.le_refl _) (rgx _) hR
  refine LV.a1 hC dL_law_385 ?_
  refine LV.arg hC 1 1 rfl (by omega) dL_law_386 dL_law_387 dL_law_388 dL_law_389 dL_law_390 ?_
  refine LV.callV hC [vi (xs (i0 + 1)).toInt] [] (c_X5_bears (d := 40) (by decide) h1) okX5_bears gw_530 rfl rfl (by decide) (hcX5 E _) rfl (Nat.le_of_ble_eq_true rfl) (by decide) dL_law_391 (fun v N hq => ?_)
  obtain ⟨rfl, rfl⟩ := hq
  refine LV.a2 hC dL_law_394 ?_
  refine LV.arg hC 1 1 rfl (by omega) dL_law_395 dL_law_396 dL_law_397 dL_law_398 dL_law_399 ?_
  refine LV.callV hC [vi (xs (i0 + 1)).toInt] [vi r] (c_X6_bears (d := 40) (by decide) h2) okX6_bears gw_1052 rfl rfl (by decide) (hcX6 E _) rfl (Nat.le_of_ble_eq_true rfl) (by decide) dL_law_400 (fun v N hq => ?_)
  obtain ⟨rfl, rfl⟩ := hq
  refine LV.eqi hC (r := r) (tgt := 1440) dL_law_403 (by decide) ?_
  exact ih _ hR
set_option maxRecDepth 10000 in
theorem law_8 (hC : LK E p s m meth c b L xs) (hi : i0 + 5 ≤ L) (hR : Rel M) (ih : ∀ M', Rel M' → LV E p e s m below meth c b 1440 (lc E b i0) [] M') : LV E p e s m below meth c b 408 (lc E b i0) [] M := by
  obtain ⟨r, M1, M2, h1, h2, h3⟩ := op_till (x := (xs (i0 + 1)).toInt) (y := (xs (i0 + 2)).toInt) (z := (xs (i0 + 3)).toInt) (rgx _) (rgx _) (rgx _) hR
  refine LV.a1 hC dL_law_408 ?_
  refine LV.arg hC 1 1 rfl (by omega) dL_law_409 dL_law_410 dL_law_411 dL_law_412 dL_law_413 ?_
  refine LV.arg hC 2 2 rfl (by omega) dL_law_414 dL_law_415 dL_law_416 dL_law_417 dL_law_418 ?_
  refine LV.arg hC 3 3 rfl (by omega) dL_law_419 dL_law_420 dL_law_421 dL_law_422 dL_law_423 ?_
  refine LV.callV hC [vi (xs (i0 + 1)).toInt, vi (xs (i0 + 2)).toInt, vi (xs (i0 + 3)).toInt] [] (c_X5_till (d := 40) (by decide) h1) okX5_till gw_538 rfl rfl (by decide) (hcX5 E _) rfl (Nat.le_of_ble_eq_true rfl) (by decide) dL_law_424 (fun v N hq => ?_)
  obtain ⟨rfl, rfl⟩ := hq
  refine LV.a2 hC dL_law_427 ?_
  refine LV.arg hC 1 1 rfl (by omega) dL_law_428 dL_law_429 dL_law_430 dL_law_431 dL_law_432 ?_
  refine LV.arg hC 2 2 rfl (by omega) dL_law_433 dL_law_434 dL_law_435 dL_law_436 dL_law_437 ?_
  refine LV.arg hC 3 3 rfl (by omega) dL_law_438 dL_law_439 dL_law_440 dL_law_441 dL_law_442 ?_
  refine LV.callV hC [vi (xs (i0 + 1)).toInt, vi (xs (i0 + 2)).toInt, vi (xs (i0 + 3)).toInt] [vi r] (c_X6_till (d := 40) (by decide) h2) okX6_till gw_1063 rfl rfl (by decide) (hcX6 E _) rfl (Nat.le_of_ble_eq_true rfl) (by decide) dL_law_443 (fun v N hq => ?_)
  obtain ⟨rfl, rfl⟩ := hq
  refine LV.eqi hC (r := r) (tgt := 1440) dL_law_446 (by decide) ?_
  exact ih _ h3
set_option maxRecDepth 10000 in
theorem law_9 (hC : LK E p s m meth c b L xs) (hi : i0 + 5 ≤ L) (hR : Rel M) (ih : ∀ M', Rel M' → LV E p e s m below meth c b 1440 (lc E b i0) [] M') : LV E p e s m below meth c b 451 (lc E b i0) [] M := by
  obtain ⟨r, M1, M2, h1, h2, h3⟩ := op_weigh (x := (xs (i0 + 1)).toInt) (y := (xs (i0 + 2)).toInt) (rgx _) (rgx _) hR
  refine LV.a1 hC dL_law_451 ?_
  refine LV.arg hC 1 1 rfl (by omega) dL_law_452 dL_law_453 dL_law_454 dL_law_455 dL_law_456 ?_
  refine LV.arg hC 2 2 rfl (by omega) dL_law_457 dL_law_458 dL_law_459 dL_law_460 dL_law_461 ?_
  refine LV.callV hC [vi (xs (i0 + 1)).toInt, vi (xs (i0 + 2)).toInt] [] (c_X5_weigh (d := 40) (by decide) h1) okX5_weigh gw_542 rfl rfl (by decide) (hcX5 E _) rfl (Nat.le_of_ble_eq_true rfl) (by decide) dL_law_462 (fun v N hq => ?_)
  obtain ⟨rfl, rfl⟩ := hq
  refine LV.a2 hC dL_law_465 ?_
  refine LV.arg hC 1 1 rfl (by omega) dL_law_466 dL_law_467 dL_law_468 dL_law_469 dL_law_470 ?_
  refine LV.arg hC 2 2 rfl (by omega) dL_law_471 dL_law_472 dL_law_473 dL_law_474 dL_law_475 ?_
  refine LV.callV hC [vi (xs (i0 + 1)).toInt, vi (xs (i0 + 2)).toInt] [vi r] (c_X6_weigh (d := 40) (by decide) h2) okX6_weigh gw_1071 rfl rfl (by decide) (hcX6 E _) rfl (Nat.le_of_ble_eq_true rfl) (by decide) dL_law_476 (fun v N hq => ?_)
  obtain ⟨rfl, rfl⟩ := hq
  refine LV.eqi hC (r := r) (tgt := 1440) dL_law_479 (by decide) ?_
  exact ih _ h3
set_option maxRecDepth 10000 in
theorem law_10 (hC : LK E p s m meth c b L xs) (hi : i0 + 5 ≤ L) (hR : Rel M) (ih : ∀ M', Rel M' → LV E p e s m below meth c b 1440 (lc E b i0) [] M') : LV E p e s m below meth c b 484 (lc E b i0) [] M := by
  obtain ⟨r, M1, M2, h1, h2, h3⟩ := op_need (x := (xs (i0 + 1)).toInt) (rgx _) hR
  refine LV.a1 hC dL_law_484 ?_
  refine LV.arg hC 1 1 rfl (by omega) dL_law_485 dL_law_486 dL_law_487 dL_law_488 dL_law_489 ?_
  refine LV.callV hC [vi (xs (i0 + 1)).toInt] [] (c_X5_need (d := 40) (by decide) h1) okX5_need gw_546 rfl rfl (by decide) (hcX5 E _) rfl (Nat.le_of_ble_eq_true rfl) (by decide) dL_law_490 (fun v N hq => ?_)
  obtain ⟨rfl, rfl⟩ := hq
  refine LV.a2 hC dL_law_493 ?_
  refine LV.arg hC 1 1 rfl (by omega) dL_law_494 dL_law_495 dL_law_496 dL_law_497 dL_law_498 ?_
  refine LV.callV hC [vi (xs (i0 + 1)).toInt] [vi r] (c_X6_need (d := 40) (by decide) h2) okX6_need gw_1075 rfl rfl (by decide) (hcX6 E _) rfl (Nat.le_of_ble_eq_true rfl) (by decide) dL_law_499 (fun v N hq => ?_)
  obtain ⟨rfl, rfl⟩ := hq
  refine LV.eqi hC (r := r) (tgt := 1440) dL_law_502 (by decide) ?_
  exact ih _ h3
set_option maxRecDepth 10000 in
theorem law_11 (hC : LK E p s m meth c b L xs) (hi : i0 + 5 ≤ L) (hR : Rel M) (ih : ∀ M', Rel M' → LV E p e s m below meth c b 1440 (lc E b i0) [] M') : LV E p e s m below meth c b 507 (lc E b i0) [] M := by
  obtain ⟨r, M1, M2, h1, h2, h3⟩ := op_hunger (x := (xs (i0 + 1)).toInt) (rgx _) hR
  refine LV.a1 hC dL_law_507 ?_
  refine LV.arg hC 1 1 rfl (by omega) dL_law_508 dL_law_509 dL_law_510 dL_law_511 dL_law_512 ?_
  refine LV.callV hC [vi (xs (i0 + 1)).toInt] [] (c_X5_hunger (d := 40) (by decide) h1) okX5_hunger gw_550 rfl rfl (by decide) (hcX5 E _) rfl (Nat.le_of_ble_eq_true rfl) (by decide) dL_law_513 (fun v N hq => ?_)
  obtain ⟨rfl, rfl⟩ := hq
  refine LV.a2 hC dL_law_516 ?_
  refine LV.arg hC 1 1 rfl (by omega) dL_law_517 dL_law_518 dL_law_519 dL_law_520 dL_law_521 ?_
  refine LV.callV hC [vi (xs (i0 + 1)).toInt] [vi r] (c_X6_hunger (d := 40) (by decide) h2) okX6_hunger gw_1080 rfl rfl (by decide) (hcX6 E _) rfl (Nat.le_of_ble_eq_true rfl) (by decide) dL_law_522 (fun v N hq => ?_)
  obtain ⟨rfl, rfl⟩ := hq
  refine LV.eqi hC (r := r) (tgt := 1440) dL_law_525 (by decide) ?_
  exact ih _ h3
set_option maxRecDepth 10000 in
theorem law_12 (hC : LK E p s m meth c b L xs) (hi : i0 + 5 ≤ L) (hR : Rel M) (ih : ∀ M', Rel M' → LV E p e s m below meth c b 1440 (lc E b i0) [] M') : LV E p e s m below meth c b 530 (lc E b i0) [] M := by
  obtain ⟨r, M1, M2, h1, h2, h3⟩ := op_cap (x := (xs (i0 + 1)).toInt) (rgx _) hR
  refine LV.a1 hC dL_law_530 ?_
  refine LV.arg hC 1 1 rfl (by omega) dL_law_531 dL_law_532 dL_law_533 dL_law_534 dL_law_535 ?_
  refine LV.callV hC [vi (xs (i0 + 1)).toInt] [] (c_X5_cap (d := 40) (by decide) h1) okX5_cap gw_554 rfl rfl (by decide) (hcX5 E _) rfl (Nat.le_of_ble_eq_true rfl) (by decide) dL_law_536 (fun v N hq => ?_)
  obtain ⟨rfl, rfl⟩ := hq
  refine LV.a2 hC dL_law_539 ?_
  refine LV.arg hC 1 1 rfl (by omega) dL_law_540 dL_law_541 dL_law_542 dL_law_543 dL_law_544 ?_
  refine LV.callV hC [vi (xs (i0 + 1)).toInt] [vi r] (c_X6_cap (d := 40) (by decide) h2) okX6_cap gw_1085 rfl rfl (by decide) (hcX6 E _) rfl (Nat.le_of_ble_eq_true rfl) (by decide) dL_law_545 (fun v N hq => ?_)
  obtain ⟨rfl, rfl⟩ := hq
  refine LV.eqi hC (r := r) (tgt := 1440) dL_law_548 (by decide) ?_
  exact ih _ h3
set_option maxRecDepth 10000 in
theorem law_13 (hC : LK E p s m meth c b L xs) (hi : i0 + 5 ≤ L) (hR : Rel M) (ih : ∀ M', Rel M' → LV E p e s m below meth c b 1440 (lc E b i0) [] M') : LV E p e s m below meth c b 553 (lc E b i0) [] M := by
  obtain ⟨r, M1, M2, h1, h2, h3⟩ := op_rot (x := (xs (i0 + 1)).toInt) (rgx _) hR
  refine LV.a1 hC dL_law_553 ?_
  refine LV.arg hC 1 1 rfl (by omega) dL_law_554 dL_law_555 dL_law_556 dL_law_557 dL_law_558 ?_
  refine LV.callV hC [vi (xs (i0 + 1)).toInt] [] (c_X5_rot (d := 40) (by decide) h1) okX5_rot gw_558 rfl rfl (by decide) (hcX5 E _) rfl (Nat.le_of_ble_eq_true rfl) (by decide) dL_law_559 (fun v N hq => ?_)
  obtain ⟨rfl, rfl⟩ := hq
  refine LV.a2 hC dL_law_562 ?_
  refine LV.arg hC 1 1 rfl (by omega) dL_law_563 dL_law_564 dL_law_565 dL_law_566 dL_law_567 ?_
  refine LV.callV hC [vi (xs (i0 + 1)).toInt] [vi r] (c_X6_rot (d := 40) (by decide) h2) okX6_rot gw_1089 rfl rfl (by decide) (hcX6 E _) rfl (Nat.le_of_ble_eq_true rfl) (by decide) dL_law_568 (fun v N hq => ?_)
  obtain ⟨rfl, rfl⟩ := hq
  refine LV.eqi hC (r := r) (tgt := 1440) dL_law_571 (by decide) ?_
  exact ih _ h3
set_option maxRecDepth 10000 in
theorem law_14 (hC : LK E p s m meth c b L xs) (hi : i0 + 5 ≤ L) (hR : Rel M) (ih : ∀ M', Rel M' → LV E p e s m below meth c b 1440 (lc E b i0) [] M') : LV E p e s m below meth c b 576 (lc E b i0) [] M := by
  obtain ⟨r, M1, M2, h1, h2, h3⟩ := op_fill (x := (xs (i0 + 1)).toInt) (rgx _) hR
  refine LV.a1 hC dL_law_576 ?_
  refine LV.arg hC 1 1 rfl (by omega) dL_law_577 dL_law_578 dL_law_579 dL_law_580 dL_law_581 ?_
  refine LV.callV hC [vi (xs (i0 + 1)).toInt] [] (c_X5_fill (d := 40) (by decide) h1) okX5_fill gw_563 rfl rfl (by decide) (hcX5 E _) rfl (Nat.le_of_ble_eq_true rfl) (by decide) dL_law_582 (fun v N hq => ?_)
  obtain ⟨rfl, rfl⟩ := hq
  refine LV.a2 hC dL_law_585 ?_
  refine LV.arg hC 1 1 rfl (by omega) dL_law_586 dL_law_587 dL_law_588 dL_law_589 dL_law_590 ?_
  refine LV.callV hC [vi (xs (i0 + 1)).toInt] [vi r] (c_X6_fill (d := 40) (by decide) h2) okX6_fill gw_1093 rfl rfl (by decide) (hcX6 E _) rfl (Nat.le_of_ble_eq_true rfl) (by decide) dL_law_591 (fun v N hq => ?_)
  obtain ⟨rfl, rfl⟩ := hq
  refine LV.eqi hC (r := r) (tgt := 1440) dL_law_594 (by decide) ?_
  exact ih _ h3
set_option maxRecDepth 10000 in
theorem law_15 (hC : LK E p s m meth c b L xs) (hi : i0 + 5 ≤ L) (hR : Rel M) (ih : ∀ M', Rel M' → LV E p e s m below meth c b 1440 (lc E b i0) [] M') : LV E p e s m below meth c b 599 (lc E b i0) [] M := by
  obtain ⟨r, M1, M2, h1, h2, h3⟩ := op_price (x := (xs (i0 + 1)).toInt) (y := (xs (i0 + 2)).toInt) (rgx _) (rgx _) hR
  refine LV.a1 hC dL_law_599 ?_
  refine LV.arg hC 1 1 rfl (by omega) dL_law_600 dL_law_601 dL_law_602 dL_law_603 dL_law_604 ?_
  refine LV.arg hC 2 2 rfl (by omega) dL_law_605 dL_law_606 dL_law_607 dL_law_608 dL_law_609 ?_
  refine LV.callV hC [vi (xs (i0 + 1)).toInt, vi (xs (i0 + 2)).toInt] [] (c_X5_price (d := 40) (by decide) h1) okX5_price gw_567 rfl rfl (by decide) (hcX5 E _) rfl (Nat.le_of_ble_eq_true rfl) (by decide) dL_law_610 (fun v N hq => ?_)
  obtain ⟨rfl, rfl⟩ := hq
  refine LV.a2 hC dL_law_613 ?_
  refine LV.arg hC 1 1 rfl (by omega) dL_law_614 dL_law_615 dL_law_616 dL_law_617 dL_law_618 ?_
  refine LV.arg hC 2 2 rfl (by omega) dL_law_619 dL_law_620 dL_law_621 dL_law_622 dL_law_623 ?_
  refine LV.callV hC [vi (xs (i0 + 1)).toInt, vi (xs (i0 + 2)).toInt] [vi r] (c_X6_price (d := 40) (by decide) h2) okX6_price gw_1097 rfl rfl (by decide) (hcX6 E _) rfl (Nat.le_of_ble_eq_true rfl) (by decide) dL_law_624 (fun v N hq => ?_)
  obtain ⟨rfl, rfl⟩ := hq
  refine LV.eqi hC (r := r) (tgt := 1440) dL_law_627 (by decide) ?_
  exact ih _ h3
set_option maxRecDepth 10000 in
theorem law_16 (hC : LK E p s m meth c b L xs) (hi : i0 + 5 ≤ L) (hR : Rel M) (ih : ∀ M', Rel M' → LV E p e s m below meth c b 1440 (lc E b i0) [] M') : LV E p e s m below meth c b 632 (lc E b i0) [] M := by
  obtain ⟨r, M1, M2, h1, h2, h3⟩ := op_steward (x := (xs (i0 + 1)).toInt) (y := (xs (i0 + 2)).toInt) (rgx _) (rgx _) hR
  refine LV.a1 hC dL_law_632 ?_
  refine LV.arg hC 1 1 rfl (by omega) dL_law_633 dL_law_634 dL_law_635 dL_law_636 dL_law_637 ?_
  refine LV.arg hC 2 2 rfl (by omega) dL_law_638 dL_law_639 dL_law_640 dL_law_641 dL_law_642 ?_
  refine LV.callV hC [vi (xs (i0 + 1)).toInt, vi (xs (i0 + 2)).toInt] [] (c_X5_steward (d := 40) (by decide) h1) okX5_steward gw_575 rfl rfl (by decide) (hcX5 E _) rfl (Nat.le_of_ble_eq_true rfl) (by decide) dL_law_643 (fun v N hq => ?_)
  obtain ⟨rfl, rfl⟩ := hq
  refine LV.a2 hC dL_law_646 ?_
  refine LV.arg hC 1 1 rfl (by omega) dL_law_647 dL_law_648 dL_law_649 dL_law_650 dL_law_651 ?_
  refine LV.arg hC 2 2 rfl (by omega) dL_law_652 dL_law_653 dL_law_654 dL_law_655 dL_law_656 ?_
  refine LV.callV hC [vi (xs (i0 + 1)).toInt, vi (xs (i0 + 2)).toInt] [vi r] (c_X6_steward (d := 40) (by decide) h2) okX6_steward gw_1101 rfl rfl (by decide) (hcX6 E _) rfl (Nat.le_of_ble_eq_true rfl) (by decide) dL_law_657 (fun v N hq => ?_)
  obtain ⟨rfl, rfl⟩ := hq
  refine LV.eqi hC (r := r) (tgt := 1440) dL_law_660 (by decide) ?_
  exact ih _ h3
set_option maxRecDepth 10000 in
theorem law_17 (hC : LK E p s m meth c b L xs) (hi : i0 + 5 ≤ L) (hR : Rel M) (ih : ∀ M', Rel M' → LV E p e s m below meth c b 1440 (lc E b i0) [] M') : LV E p e s m below meth c b 665 (lc E b i0) [] M := by
  obtain ⟨r, M1, M2, h1, h2, h3⟩ := op_go (n := 1000) (x := (xs (i0 + 1)).toInt) (y := (xs (i0 + 2)).toInt) (Nat.le_refl _) (rgx _) (rgx _) hR
  refine LV.a1 hC dL_law_665 ?_
  refine LV.arg hC 1 1 rfl (by omega) dL_law_666 dL_law_667 dL_law_668 dL_law_669 dL_law_670 ?_
  refine LV.arg hC 2 2 rfl (by omega) dL_law_671 dL_law_672 dL_law_673 dL_law_674 dL_law_675 ?_
  refine LV.callV hC [vi (xs (i0 + 1)).toInt, vi (xs (i0 + 2)).toInt] [] (c_X5_go (d := 40) (by decide) h1) okX5_go gw_580 rfl rfl (by decide) (hcX5 E _) rfl (Nat.le_of_ble_eq_true rfl) (by decide) dL_law_676 (fun v N hq => ?_)
  obtain ⟨rfl, rfl⟩ := hq
  refine LV.a2 hC dL_law_679 ?_
  refine LV.arg hC 1 1 rfl (by omega) dL_law_680 dL_law_681 dL_law_682 dL_law_683 dL_law_684 ?_
  refine LV.arg hC 2 2 rfl (by omega) dL_law_685 dL_law_686 dL_law_687 dL_law_688 dL_law_689 ?_
  refine LV.callV hC [vi (xs (i0 + 1)).toInt, vi (xs (i0 + 2)).toInt] [vi r] (c_X6_go (d := 40) (by decide) h2) okX6_go gw_1106 rfl rfl (by decide) (hcX6 E _) rfl (Nat.le_of_ble_eq_true rfl) (by decide) dL_law_690 (fun v N hq => ?_)
  obtain ⟨rfl, rfl⟩ := hq
  refine LV.eqi hC (r := r) (tgt := 1440) dL_law_693 (by decide) ?_
  exact ih _ h3
set_option maxRecDepth 10000 in
theorem law_18 (hC : LK E p s m meth c b L xs) (hi : i0 + 5 ≤ L) (hR : Rel M) (ih : ∀ M', Rel M' → LV E p e s m below meth c b 1440 (lc E b i0) [] M') : LV E p e s m below meth c b 698 (lc E b i0) [] M := by
  obtain ⟨r, M1, M2, h1, h2, h3⟩ := op_year (n := 1000) (x := (xs (i0 + 1)).toInt) (Nat.le_refl _) (rgx _) hR
  refine LV.a1 hC dL_law_698 ?_
  refine LV.arg hC 1 1 rfl (by omega) dL_law_699 dL_law_700 dL_law_701 dL_law_702 dL_law_703 ?_
  refine LV.callV hC [vi (xs (i0 + 1)).toInt] [] (c_X5_year (d := 40) (by decide) h1) okX5_year gw_622 rfl rfl (by decide) (hcX5 E _) rfl (Nat.le_of_ble_eq_true rfl) (by decide) dL_law_704 (fun v N hq => ?_)
  obtain ⟨rfl, rfl⟩ := hq
  refine LV.a2 hC dL_law_707 ?_
  refine LV.arg hC 1 1 rfl (by omega) dL_law_708 dL_law_709 dL_law_710 dL_law_711 dL_law_712 ?_
  refine LV.callV hC [vi (xs (i0 + 1)).toInt] [vi r] (c_X6_year (d := 40) (by decide) h2) okX6_year gw_1125 rfl rfl (by decide) (hcX6 E _) rfl (Nat.le_of_ble_eq_true rfl) (by decide) dL_law_713 (fun v N hq => ?_)
  obtain ⟨rfl, rfl⟩ := hq
  refine LV.eqi hC (r := r) (tgt := 1440) dL_law_716 (by decide) ?_
  exact ih _ h3
set_option maxRecDepth 10000 in
theorem law_19 (hC : LK E p s m meth c b L xs) (hi : i0 + 5 ≤ L) (hR : Rel M) (ih : ∀ M', Rel M' → LV E p e s m below meth c b 1440 (lc E b i0) [] M') : LV E p e s m below meth c b 721 (lc E b i0) [] M := by
  obtain ⟨r, h1, h2⟩ := op_keeps (x := (xs (i0 + 1)).toInt) (rgx _) hR
  refine LV.a1 hC dL_law_721 ?_
  refine LV.arg hC 1 1 rfl (by omega) dL_law_722 dL_law_723 dL_law_724 dL_law_725 dL_law_726 ?_
  refine LV.callV hC [vi (xs (i0 + 1)).toInt] [] (c_X5_keeps (d := 40) (by decide) h1) okX5_keeps gw_639 rfl rfl (by decide) (hcX5 E _) rfl (Nat.le_of_ble_eq_true rfl) (by decide) dL_law_727 (fun v N hq => ?_)
  obtain ⟨rfl, rfl⟩ := hq
  refine LV.a2 hC dL_law_730 ?_
  refine LV.arg hC 1 1 rfl (by omega) dL_law_731 dL_law_732 dL_law_733 dL_law_734 dL_law_735 ?_
  refine LV.callV hC [vi (xs (i0 + 1)).toInt] [vi r] (c_X6_keeps (d := 40) (by decide) h2) okX6_keeps gw_1133 rfl rfl (by decide) (hcX6 E _) rfl (Nat.le_of_ble_eq_true rfl) (by decide) dL_law_736 (fun v N hq => ?_)
  obtain ⟨rfl, rfl⟩ := hq
  refine LV.eqi hC (r := r) (tgt := 1440) dL_law_739 (by decide) ?_
  exact ih _ hR
set_option maxRecDepth 10000 in
theorem law_20 (hC : LK E p s m meth c b L xs) (hi : i0 + 5 ≤ L) (hR : Rel M) (ih : ∀ M', Rel M' → LV E p e s m below meth c b 1440 (lc E b i0) [] M') : LV E p e s m below meth c b 744 (lc E b i0) [] M := by
  obtain ⟨r, M1, M2, h1, h2, h3⟩ := op_ahead (n := 1000) (x := (xs (i0 + 1)).toInt) (y := (xs (i0 + 2)).toInt) (z := (xs (i0 + 3)).toInt) (Nat.le_refl _) (rgx _) (rgx _) (rgx _) hR
  refine LV.a1 hC dL_law_744 ?_
  refine LV.arg hC 1 1 rfl (by omega) dL_law_745 dL_law_746 dL_law_747 dL_law_748 dL_law_749 ?_
  refine LV.arg hC 2 2 rfl (by omega) dL_law_750 dL_law_751 dL_law_752 dL_law_753 dL_law_754 ?_
  refine LV.arg hC 3 3 rfl (by omega) dL_law_755 dL_law_756 dL_law_757 dL_law_758 dL_law_759 ?_
  refine LV.callV hC [vi (xs (i0 + 1)).toInt, vi (xs (i0 + 2)).toInt, vi (xs (i0 + 3)).toInt] [] (c_X5_ahead (d := 40) (by decide) h1) okX5_ahead gw_644 rfl rfl (by decide) (hcX5 E _) rfl (Nat.le_of_ble_eq_true rfl) (by decide) dL_law_760 (fun v N hq => ?_)
  obtain ⟨rfl, rfl⟩ := hq
  refine LV.a2 hC dL_law_763 ?_
  refine LV.arg hC 1 1 rfl (by omega) dL_law_764 dL_law_765 dL_law_766 dL_law_767 dL_law_768 ?_
  refine LV.arg hC 2 2 rfl (by omega) dL_law_769 dL_law_770 dL_law_771 dL_law_772 dL_law_773 ?_
  refine LV.arg hC 3 3 rfl (by omega) dL_law_774 dL_law_775 dL_law_776 dL_law_777 dL_law_778 ?_
  refine LV.callV hC [vi (xs (i0 + 1)).toInt, vi (xs (i0 + 2)).toInt, vi (xs (i0 + 3)).toInt] [vi r] (c_X6_ahead (d := 40) (by decide) h2) okX6_ahead gw_1138 rfl rfl (by decide) (hcX6 E _) rfl (Nat.le_of_ble_eq_true rfl) (by decide) dL_law_779 (fun v N hq => ?_)
  obtain ⟨rfl, rfl⟩ := hq
  refine LV.eqi hC (r := r) (tgt := 1440) dL_law_782 (by decide) ?_
  exact ih _ h3
set_option maxRecDepth 10000 in
theorem law_21 (hC : LK E p s m meth c b L xs) (hi : i0 + 5 ≤ L) (hR : Rel M) (ih : ∀ M', Rel M' → LV E p e s m below meth c b 1440 (lc E b i0) [] M') : LV E p e s m below meth c b 787 (lc E b i0) [] M := by
  obtain ⟨r, M1, M2, h1, h2, h3⟩ := op_when (n := 1000) (x := (xs (i0 + 1)).toInt) (Nat.le_refl _) (rgx _) hR
  refine LV.a1 hC dL_law_787 ?_
  refine LV.arg hC 1 1 rfl (by omega) dL_law_788 dL_law_789 dL_law_790 dL_law_791 dL_law_792 ?_
  refine LV.callV hC [vi (xs (i0 + 1)).toInt] [] (c_X5_when (d := 40) (by decide) h1) okX5_when gw_654 rfl rfl (by decide) (hcX5 E _) rfl (Nat.le_of_ble_eq_true rfl) (by decide) dL_law_793 (fun v N hq => ?_)
  obtain ⟨rfl, rfl⟩ := hq
  refine LV.a2 hC dL_law_796 ?_
  refine LV.arg hC 1 1 rfl (by omega) dL_law_797 dL_law_798 dL_law_799 dL_law_800 dL_law_801 ?_
  refine LV.callV hC [vi (xs (i0 + 1)).toInt] [vi r] (c_X6_when (d := 40) (by decide) h2) okX6_when gw_1152 rfl rfl (by decide) (hcX6 E _) rfl (Nat.le_of_ble_eq_true rfl) (by decide) dL_law_802 (fun v N hq => ?_)
  obtain ⟨rfl, rfl⟩ := hq
  refine LV.eqi hC (r := r) (tgt := 1440) dL_law_805 (by decide) ?_
  exact ih _ h3
set_option maxRecDepth 10000 in
theorem law_22 (hC : LK E p s m meth c b L xs) (hi : i0 + 5 ≤ L) (hR : Rel M) (ih : ∀ M', Rel M' → LV E p e s m below meth c b 1440 (lc E b i0) [] M') : LV E p e s m below meth c b 810 (lc E b i0) [] M := by
  obtain ⟨r, h1, h2⟩ := op_can (n := 1000)  (Nat.le_refl _)  hR
  refine LV.a1 hC dL_law_810 ?_
  refine LV.callV hC [] [] (c_X5_can (d := 40) (by decide) h1) okX5_can gw_662 rfl rfl (by decide) (hcX5 E _) rfl (Nat.le_of_ble_eq_true rfl) (by decide) dL_law_811 (fun v N hq => ?_)
  obtain ⟨rfl, rfl⟩ := hq
  refine LV.a2 hC dL_law_814 ?_
  refine LV.callV hC [] [vi r] (c_X6_can (d := 40) (by decide) h2) okX6_can gw_1160 rfl rfl (by decide) (hcX6 E _) rfl (Nat.le_of_ble_eq_true rfl) (by decide) dL_law_815 (fun v N hq => ?_)
  obtain ⟨rfl, rfl⟩ := hq
  refine LV.eqi hC (r := r) (tgt := 1440) dL_law_818 (by decide) ?_
  exact ih _ hR
set_option maxRecDepth 10000 in
theorem law_23 (hC : LK E p s m meth c b L xs) (hi : i0 + 5 ≤ L) (hR : Rel M) (ih : ∀ M', Rel M' → LV E p e s m below meth c b 1440 (lc E b i0) [] M') : LV E p e s m below meth c b 823 (lc E b i0) [] M := by
  obtain ⟨r, h1, h2⟩ := op_fat (n := 1000) (x := (xs (i0 + 1)).toInt) (y := (xs (i0 + 2)).toInt) (Nat.le_refl _) (rgx _) (rgx _) hR
  refine LV.a1 hC dL_law_823 ?_
  refine LV.arg hC 1 1 rfl (by omega) dL_law_824 dL_law_825 dL_law_826 dL_law_827 dL_law_828 ?_
  refine LV.arg hC 2 2 rfl (by omega) dL_law_829 dL_law_830 dL_law_831 dL_law_832 dL_law_833 ?_
  refine LV.callV hC [vi (xs (i0 + 1)).toInt, vi (xs (i0 + 2)).toInt] [] (c_X5_fat (d := 40) (by decide) h1) okX5_fat gw_671 rfl rfl (by decide) (hcX5 E _) rfl (Nat.le_of_ble_eq_true rfl) (by decide) dL_law_834 (fun v N hq => ?_)
  obtain ⟨rfl, rfl⟩ := hq
  refine LV.a2 hC dL_law_837 ?_
  refine LV.arg hC 1 1 rfl (by omega) dL_law_838 dL_law_839 dL_law_840 dL_law_841 dL_law_842 ?_
  refine LV.arg hC 2 2 rfl (by omega) dL_law_843 dL_law_844 dL_law_845 dL_law_846 dL_law_847 ?_
  refine LV.callV hC [vi (xs (i0 + 1)).toInt, vi (xs (i0 + 2)).toInt] [vl r] (c_X6_fat (d := 40) (by decide) h2) okX6_fat gw_1168 rfl rfl (by decide) (hcX6 E _) rfl (Nat.le_of_ble_eq_true rfl) (by decide) dL_law_848 (fun v N hq => ?_)
  obtain ⟨rfl, rfl⟩ := hq
  refine LV.eql hC (r := r) (tgt := 1440) dL_law_851 dL_law_852 (by decide) ?_
  exact ih _ hR
set_option maxRecDepth 10000 in
theorem law_24 (hC : LK E p s m meth c b L xs) (hi : i0 + 5 ≤ L) (hR : Rel M) (ih : ∀ M', Rel M' → LV E p e s m below meth c b 1440 (lc E b i0) [] M') : LV E p e s m below meth c b 857 (lc E b i0) [] M := by
  obtain ⟨r, M1, M2, h1, h2, h3⟩ := op_best (n := 1000) (x := (xs (i0 + 1)).toInt) (y := (xs (i0 + 2)).toInt) (Nat.le_refl _) (rgx _) (rgx _) hR
  refine LV.a1 hC dL_law_857 ?_
  refine LV.arg hC 1 1 rfl (by omega) dL_law_858 dL_law_859 dL_law_860 dL_law_861 dL_law_862 ?_
  refine LV.arg hC 2 2 rfl (by omega) dL_law_863 dL_law_864 dL_law_865 dL_law_866 dL_law_867 ?_
  refine LV.callV hC [vi (xs (i0 + 1)).toInt, vi (xs (i0 + 2)).toInt] [] (c_X5_best (d := 40) (by decide) h1) okX5_best gw_695 rfl rfl (by decide) (hcX5 E _) rfl (Nat.le_of_ble_eq_true rfl) (by decide) dL_law_868 (fun v N hq => ?_)
  obtain ⟨rfl, rfl⟩ := hq
  refine LV.a2 hC dL_law_871 ?_
  refine LV.arg hC 1 1 rfl (by omega) dL_law_872 dL_law_873 dL_law_874 dL_law_875 dL_law_876 ?_
  refine LV.arg hC 2 2 rfl (by omega) dL_law_877 dL_law_878 dL_law_879 dL_law_880 dL_law_881 ?_
  refine LV.callV hC [vi (xs (i0 + 1)).toInt, vi (xs (i0 + 2)).toInt] [vl r] (c_X6_best (d := 40) (by decide) h2) okX6_best gw_1186 rfl rfl (by decide) (hcX6 E _) rfl (Nat.le_of_ble_eq_true rfl) (by decide) dL_law_882 (fun v N hq => ?_)
  obtain ⟨rfl, rfl⟩ := hq
  refine LV.eql hC (r := r) (tgt := 1440) dL_law_885 dL_law_886 (by decide) ?_
  exact ih _ h3
set_option maxRecDepth 10000 in
theorem law_25 (hC : LK E p s m meth c b L xs) (hi : i0 + 5 ≤ L) (hR : Rel M) (ih : ∀ M', Rel M' → LV E p e s m below meth c b 1440 (lc E b i0) [] M') : LV E p e s m below meth c b 891 (lc E b i0) [] M := by
  obtain ⟨r, M1, M2, h1, h2, h3⟩ := op_choice (n := 1000) (x := (xs (i0 + 1)).toInt) (y := (xs (i0 + 2)).toInt) (Nat.le_refl _) (rgx _) (rgx _) hR
  refine LV.a1 hC dL_law_891 ?_
  refine LV.arg hC 1 1 rfl (by omega) dL_law_892 dL_law_893 dL_law_894 dL_law_895 dL_law_896 ?_
  refine LV.arg hC 2 2 rfl (by omega) dL_law_897 dL_law_898 dL_law_899 dL_law_900 dL_law_901 ?_
  refine LV.callV hC [vi (xs (i0 + 1)).toInt, vi (xs (i0 + 2)).toInt] [] (c_X5_choice (d := 40) (by decide) h1) okX5_choice gw_733 rfl rfl (by decide) (hcX5 E _) rfl (Nat.le_of_ble_eq_true rfl) (by decide) dL_law_902 (fun v N hq => ?_)
  obtain ⟨rfl, rfl⟩ := hq
  refine LV.a2 hC dL_law_905 ?_
  refine LV.arg hC 1 1 rfl (by omega) dL_law_906 dL_law_907 dL_law_908 dL_law_909 dL_law_910 ?_
  refine LV.arg hC 2 2 rfl (by omega) dL_law_911 dL_law_912 dL_law_913 dL_law_914 dL_law_915 ?_
  refine LV.callV hC [vi (xs (i0 + 1)).toInt, vi (xs (i0 + 2)).toInt] [vi r] (c_X6_choice (d := 40) (by decide) h2) okX6_choice gw_1217 rfl rfl (by decide) (hcX6 E _) rfl (Nat.le_of_ble_eq_true rfl) (by decide) dL_law_916 (fun v N hq => ?_)
  obtain ⟨rfl, rfl⟩ := hq
  refine LV.eqi hC (r := r) (tgt := 1440) dL_law_919 (by decide) ?_
  exact ih _ h3
set_option maxRecDepth 10000 in
theorem law_26 (hC : LK E p s m meth c b L xs) (hi : i0 + 5 ≤ L) (hR : Rel M) (ih : ∀ M', Rel M' → LV E p e s m below meth c b 1440 (lc E b i0) [] M') : LV E p e s m below meth c b 924 (lc E b i0) [] M := by
  obtain ⟨r, M1, M2, h1, h2, h3⟩ := op_knowing (n := 1000) (x := (xs (i0 + 1)).toInt) (y := (xs (i0 + 2)).toInt) (Nat.le_refl _) (rgx _) (rgx _) hR
  refine LV.a1 hC dL_law_924 ?_
  refine LV.arg hC 1 1 rfl (by omega) dL_law_925 dL_law_926 dL_law_927 dL_law_928 dL_law_929 ?_
  refine LV.arg hC 2 2 rfl (by omega) dL_law_930 dL_law_931 dL_law_932 dL_law_933 dL_law_934 ?_
  refine LV.callV hC [vi (xs (i0 + 1)).toInt, vi (xs (i0 + 2)).toInt] [] (c_X5_knowing (d := 40) (by decide) h1) okX5_knowing gw_742 rfl rfl (by decide) (hcX5 E _) rfl (Nat.le_of_ble_eq_true rfl) (by decide) dL_law_935 (fun v N hq => ?_)
  obtain ⟨rfl, rfl⟩ := hq
  refine LV.a2 hC dL_law_938 ?_
  refine LV.arg hC 1 1 rfl (by omega) dL_law_939 dL_law_940 dL_law_941 dL_law_942 dL_law_943 ?_
  refine LV.arg hC 2 2 rfl (by omega) dL_law_944 dL_law_945 dL_law_946 dL_law_947 dL_law_948 ?_
  refine LV.callV hC [vi (xs (i0 + 1)).toInt, vi (xs (i0 + 2)).toInt] [vl r] (c_X6_knowing (d := 40) (by decide) h2) okX6_knowing gw_1221 rfl rfl (by decide) (hcX6 E _) rfl (Nat.le_of_ble_eq_true rfl) (by decide) dL_law_949 (fun v N hq => ?_)
  obtain ⟨rfl, rfl⟩ := hq
  refine LV.eql hC (r := r) (tgt := 1440) dL_law_952 dL_law_953 (by decide) ?_
  exact ih _ h3
set_option maxRecDepth 10000 in
theorem law_27 (hC : LK E p s m meth c b L xs) (hi : i0 + 5 ≤ L) (hR : Rel M) (ih : ∀ M', Rel M' → LV E p e s m below meth c b 1440 (lc E b i0) [] M') : LV E p e s m below meth c b 958 (lc E b i0) [] M := by
  obtain ⟨r, M1, M2, h1, h2, h3⟩ := op_worth (n := 1000) (x := (xs (i0 + 1)).toInt) (y := (xs (i0 + 2)).toInt) (z := (xs (i0 + 3)).toInt) (Nat.le_refl _) (rgx _) (rgx _) (rgx _) hR
  refine LV.a1 hC dL_law_958 ?_
  refine LV.arg hC 1 1 rfl (by omega) dL_law_959 dL_law_960 dL_law_961 dL_law_962 dL_law_963 ?_
  refine LV.arg hC 2 2 rfl (by omega) dL_law_964 dL_law_965 dL_law_966 dL_law_967 dL_law_968 ?_
  refine LV.arg hC 3 3 rfl (by omega) dL_law_969 dL_law_970 dL_law_971 dL_law_972 dL_law_973 ?_
  refine LV.callV hC [vi (xs (i0 + 1)).toInt, vi (xs (i0 + 2)).toInt, vi (xs (i0 + 3)).toInt] [] (c_X5_worth (d := 40) (by decide) h1) okX5_worth gw_747 rfl rfl (by decide) (hcX5 E _) rfl (Nat.le_of_ble_eq_true rfl) (by decide) dL_law_974 (fun v N hq => ?_)
  obtain ⟨rfl, rfl⟩ := hq
  refine LV.a2 hC dL_law_977 ?_
  refine LV.arg hC 1 1 rfl (by omega) dL_law_978 dL_law_979 dL_law_980 dL_law_981 dL_law_982 ?_
  refine LV.arg hC 2 2 rfl (by omega) dL_law_983 dL_law_984 dL_law_985 dL_law_986 dL_law_987 ?_
  refine LV.arg hC 3 3 rfl (by omega) dL_law_988 dL_law_989 dL_law_990 dL_law_991 dL_law_992 ?_
  refine LV.callV hC [vi (xs (i0 + 1)).toInt, vi (xs (i0 + 2)).toInt, vi (xs (i0 + 3)).toInt] [vl r] (c_X6_worth (d := 40) (by decide) h2) okX6_worth gw_1225 rfl rfl (by decide) (hcX6 E _) rfl (Nat.le_of_ble_eq_true rfl) (by decide) dL_law_993 (fun v N hq => ?_)
  obtain ⟨rfl, rfl⟩ := hq
  refine LV.eql hC (r := r) (tgt := 1440) dL_law_996 dL_law_997 (by decide) ?_
  exact ih _ h3
set_option maxRecDepth 10000 in
theorem law_28 (hC : LK E p s m meth c b L xs) (hi : i0 + 5 ≤ L) (hR : Rel M) (ih : ∀ M', Rel M' → LV E p e s m below meth c b 1440 (lc E b i0) [] M') : LV E p e s m below meth c b 1002 (lc E b i0) [] M := by
  obtain ⟨r, M1, M2, h1, h2, h3⟩ := op_safe (n := 1000) (x := (xs (i0 + 1)).toInt) (Nat.le_refl _) (rgx _) hR
  refine LV.a1 hC dL_law_1002 ?_
  refine LV.arg hC 1 1 rfl (by omega) dL_law_1003 dL_law_1004 dL_law_1005 dL_law_1006 dL_law_1007 ?_
  refine LV.callV hC [vi (xs (i0 + 1)).toInt] [] (c_X5_safe (d := 40) (by decide) h1) okX5_safe gw_751 rfl rfl (by decide) (hcX5 E _) rfl (Nat.le_of_ble_eq_true rfl) (by decide) dL_law_1008 (fun v N hq => ?_)
  obtain ⟨rfl, rfl⟩ := hq
  refine LV.a2 hC dL_law_1011 ?_
  refine LV.arg hC 1 1 rfl (by omega) dL_law_1012 dL_law_1013 dL_law_1014 dL_law_1015 dL_law_1016 ?_
  refine LV.callV hC [vi (xs (i0 + 1)).toInt] [vi r] (c_X6_safe (d := 40) (by decide) h2) okX6_safe gw_1229 rfl rfl (by decide) (hcX6 E _) rfl (Nat.le_of_ble_eq_true rfl) (by decide) dL_law_1017 (fun v N hq => ?_)
  obtain ⟨rfl, rfl⟩ := hq
  refine LV.eqi hC (r := r) (tgt := 1440) dL_law_1020 (by decide) ?_
  exact ih _ h3
set_option maxRecDepth 10000 in
theorem law_29 (hC : LK E p s m meth c b L xs) (hi : i0 + 5 ≤ L) (hR : Rel M) (ih : ∀ M', Rel M' → LV E p e s m below meth c b 1440 (lc E b i0) [] M') : LV E p e s m below meth c b 1025 (lc E b i0) [] M := by
  obtain ⟨r, M1, M2, h1, h2, h3⟩ := op_granary (n := 1000)  (Nat.le_refl _)  hR
  refine LV.a1 hC dL_law_1025 ?_
  refine LV.callV hC [] [] (c_X5_granary (d := 40) (by decide) h1) okX5_granary gw_759 rfl rfl (by decide) (hcX5 E _) rfl (Nat.le_of_ble_eq_true rfl) (by decide) dL_law_1026 (fun v N hq => ?_)
  obtain ⟨rfl, rfl⟩ := hq
  refine LV.a2 hC dL_law_1029 ?_
  refine LV.callV hC [] [vi r] (c_X6_granary (d := 40) (by decide) h2) okX6_granary gw_1237 rfl rfl (by decide) (hcX6 E _) rfl (Nat.le_of_ble_eq_true rfl) (by decide) dL_law_1030 (fun v N hq => ?_)
  obtain ⟨rfl, rfl⟩ := hq
  refine LV.eqi hC (r := r) (tgt := 1440) dL_law_1033 (by decide) ?_
  exact ih _ h3
set_option maxRecDepth 10000 in
theorem law_30 (hC : LK E p s m meth c b L xs) (hi : i0 + 5 ≤ L) (hR : Rel M) (ih : ∀ M', Rel M' → LV E p e s m below meth c b 1440 (lc E b i0) [] M') : LV E p e s m below meth c b 1038 (lc E b i0) [] M := by
  obtain ⟨r, M1, M2, h1, h2, h3⟩ := op_least (n := 1000)  (Nat.le_refl _)  hR
  refine LV.a1 hC dL_law_1038 ?_
  refine LV.callV hC [] [] (c_X5_least (d := 40) (by decide) h1) okX5_least gw_763 rfl rfl (by decide) (hcX5 E _) rfl (Nat.le_of_ble_eq_true rfl) (by decide) dL_law_1039 (fun v N hq => ?_)
  obtain ⟨rfl, rfl⟩ := hq
  refine LV.a2 hC dL_law_1042 ?_
  refine LV.callV hC [] [vi r] (c_X6_least (d := 40) (by decide) h2) okX6_least gw_1241 rfl rfl (by decide) (hcX6 E _) rfl (Nat.le_of_ble_eq_true rfl) (by decide) dL_law_1043 (fun v N hq => ?_)
  obtain ⟨rfl, rfl⟩ := hq
  refine LV.eqi hC (r := r) (tgt := 1440) dL_law_1046 (by decide) ?_
  exact ih _ h3
set_option maxRecDepth 10000 in
theorem law_31 (hC : LK E p s m meth c b L xs) (hi : i0 + 5 ≤ L) (hR : Rel M) (ih : ∀ M', Rel M' → LV E p e s m below meth c b 1440 (lc E b i0) [] M') : LV E p e s m below meth c b 1051 (lc E b i0) [] M := by
  obtain ⟨r, M1, M2, h1, h2, h3⟩ := op_see (x := (xs (i0 + 1)).toInt) (y := (xs (i0 + 2)).toInt) (rgx _) (rgx _) hR
  refine LV.a1 hC dL_law_1051 ?_
  refine LV.arg hC 1 1 rfl (by omega) dL_law_1052 dL_law_1053 dL_law_1054 dL_law_1055 dL_law_1056 ?_
  refine LV.arg hC 2 2 rfl (by omega) dL_law_1057 dL_law_1058 dL_law_1059 dL_law_1060 dL_law_1061 ?_
  refine LV.callV hC [vi (xs (i0 + 1)).toInt, vi (xs (i0 + 2)).toInt] [] (c_X5_see (d := 40) (by decide) h1) okX5_see gw_767 rfl rfl (by decide) (hcX5 E _) rfl (Nat.le_of_ble_eq_true rfl) (by decide) dL_law_1062 (fun v N hq => ?_)
  obtain ⟨rfl, rfl⟩ := hq
  refine LV.a2 hC dL_law_1065 ?_
  refine LV.arg hC 1 1 rfl (by omega) dL_law_1066 dL_law_1067 dL_law_1068 dL_law_1069 dL_law_1070 ?_
  refine LV.arg hC 2 2 rfl (by omega) dL_law_1071 dL_law_1072 dL_law_1073 dL_law_1074 dL_law_1075 ?_
  refine LV.callV hC [vi (xs (i0 + 1)).toInt, vi (xs (i0 + 2)).toInt] [vi r] (c_X6_see (d := 40) (by decide) h2) okX6_see gw_1245 rfl rfl (by decide) (hcX6 E _) rfl (Nat.le_of_ble_eq_true rfl) (by decide) dL_law_1076 (fun v N hq => ?_)
  obtain ⟨rfl, rfl⟩ := hq
  refine LV.eqi hC (r := r) (tgt := 1440) dL_law_1079 (by decide) ?_
  exact ih _ h3
set_option maxRecDepth 10000 in
theorem law_32 (hC : LK E p s m meth c b L xs) (hi : i0 + 5 ≤ L) (hR : Rel M) (ih : ∀ M', Rel M' → LV E p e s m below meth c b 1440 (lc E b i0) [] M') : LV E p e s m below meth c b 1084 (lc E b i0) [] M := by
  obtain ⟨r, M1, M2, h1, h2, h3⟩ := op_forget (x := (xs (i0 + 1)).toInt) (rgx _) hR
  refine LV.a1 hC dL_law_1084 ?_
  refine LV.arg hC 1 1 rfl (by omega) dL_law_1085 dL_law_1086 dL_law_1087 dL_law_1088 dL_law_1089 ?_
  refine LV.callV hC [vi (xs (i0 + 1)).toInt] [] (c_X5_forget (d := 40) (by decide) h1) okX5_forget gw_775 rfl rfl (by decide) (hcX5 E _) rfl (Nat.le_of_ble_eq_true rfl) (by decide) dL_law_1090 (fun v N hq => ?_)
  obtain ⟨rfl, rfl⟩ := hq
  refine LV.a2 hC dL_law_1093 ?_
  refine LV.arg hC 1 1 rfl (by omega) dL_law_1094 dL_law_1095 dL_law_1096 dL_law_1097 dL_law_1098 ?_
  refine LV.callV hC [vi (xs (i0 + 1)).toInt] [vi r] (c_X6_forget (d := 40) (by decide) h2) okX6_forget gw_1249 rfl rfl (by decide) (hcX6 E _) rfl (Nat.le_of_ble_eq_true rfl) (by decide) dL_law_1099 (fun v N hq => ?_)
  obtain ⟨rfl, rfl⟩ := hq
  refine LV.eqi hC (r := r) (tgt := 1440) dL_law_1102 (by decide) ?_
  exact ih _ h3
set_option maxRecDepth 10000 in
theorem law_33 (hC : LK E p s m meth c b L xs) (hi : i0 + 5 ≤ L) (hR : Rel M) (ih : ∀ M', Rel M' → LV E p e s m below meth c b 1440 (lc E b i0) [] M') : LV E p e s m below meth c b 1107 (lc E b i0) [] M := by
  obtain ⟨r, M1, M2, h1, h2, h3⟩ := op_stewards (n := 1000) (x := (xs (i0 + 1)).toInt) (y := (xs (i0 + 2)).toInt) (Nat.le_refl _) (rgx _) (rgx _) hR
  refine LV.a1 hC dL_law_1107 ?_
  refine LV.arg hC 1 1 rfl (by omega) dL_law_1108 dL_law_1109 dL_law_1110 dL_law_1111 dL_law_1112 ?_
  refine LV.arg hC 2 2 rfl (by omega) dL_law_1113 dL_law_1114 dL_law_1115 dL_law_1116 dL_law_1117 ?_
  refine LV.callV hC [vi (xs (i0 + 1)).toInt, vi (xs (i0 + 2)).toInt] [] (c_X5_stewards (d := 40) (by decide) h1) okX5_stewards gw_779 rfl rfl (by decide) (hcX5 E _) rfl (Nat.le_of_ble_eq_true rfl) (by decide) dL_law_1118 (fun v N hq => ?_)
  obtain ⟨rfl, rfl⟩ := hq
  refine LV.a2 hC dL_law_1121 ?_
  refine LV.arg hC 1 1 rfl (by omega) dL_law_1122 dL_law_1123 dL_law_1124 dL_law_1125 dL_law_1126 ?_
  refine LV.arg hC 2 2 rfl (by omega) dL_law_1127 dL_law_1128 dL_law_1129 dL_law_1130 dL_law_1131 ?_
  refine LV.callV hC [vi (xs (i0 + 1)).toInt, vi (xs (i0 + 2)).toInt] [vi r] (c_X6_stewards (d := 40) (by decide) h2) okX6_stewards gw_1253 rfl rfl (by decide) (hcX6 E _) rfl (Nat.le_of_ble_eq_true rfl) (by decide) dL_law_1132 (fun v N hq => ?_)
  obtain ⟨rfl, rfl⟩ := hq
  refine LV.eqi hC (r := r) (tgt := 1440) dL_law_1135 (by decide) ?_
  exact ih _ h3
set_option maxRecDepth 10000 in
theorem law_34 (hC : LK E p s m meth c b L xs) (hi : i0 + 5 ≤ L) (hR : Rel M) (ih : ∀ M', Rel M' → LV E p e s m below meth c b 1440 (lc E b i0) [] M') : LV E p e s m below meth c b 1140 (lc E b i0) [] M := by
  obtain ⟨r, M1, M2, h1, h2, h3⟩ := op_hoards (n := 1000) (x := (xs (i0 + 1)).toInt) (Nat.le_refl _) (rgx _) hR
  refine LV.a1 hC dL_law_1140 ?_
  refine LV.arg hC 1 1 rfl (by omega) dL_law_1141 dL_law_1142 dL_law_1143 dL_law_1144 dL_law_1145 ?_
  refine LV.callV hC [vi (xs (i0 + 1)).toInt] [] (c_X5_hoards (d := 40) (by decide) h1) okX5_hoards gw_792 rfl rfl (by decide) (hcX5 E _) rfl (Nat.le_of_ble_eq_true rfl) (by decide) dL_law_1146 (fun v N hq => ?_)
  obtain ⟨rfl, rfl⟩ := hq
  refine LV.a2 hC dL_law_1149 ?_
  refine LV.arg hC 1 1 rfl (by omega) dL_law_1150 dL_law_1151 dL_law_1152 dL_law_1153 dL_law_1154 ?_
  refine LV.callV hC [vi (xs (i0 + 1)).toInt] [vi r] (c_X6_hoards (d := 40) (by decide) h2) okX6_hoards gw_1261 rfl rfl (by decide) (hcX6 E _) rfl (Nat.le_of_ble_eq_true rfl) (by decide) dL_law_1155 (fun v N hq => ?_)
  obtain ⟨rfl, rfl⟩ := hq
  refine LV.eqi hC (r := r) (tgt := 1440) dL_law_1158 (by decide) ?_
  exact ih _ h3
set_option maxRecDepth 10000 in
theorem law_35 (hC : LK E p s m meth c b L xs) (hi : i0 + 5 ≤ L) (hR : Rel M) (ih : ∀ M', Rel M' → LV E p e s m below meth c b 1440 (lc E b i0) [] M') : LV E p e s m below meth c b 1163 (lc E b i0) [] M := by
  obtain ⟨r, M1, M2, h1, h2, h3⟩ := op_fits (n := 1000)  (Nat.le_refl _)  hR
  refine LV.a1 hC dL_law_1163 ?_
  refine LV.callV hC [] [] (c_X5_fits (d := 40) (by decide) h1) okX5_fits gw_796 rfl rfl (by decide) (hcX5 E _) rfl (Nat.le_of_ble_eq_true rfl) (by decide) dL_law_1164 (fun v N hq => ?_)
  obtain ⟨rfl, rfl⟩ := hq
  refine LV.a2 hC dL_law_1167 ?_
  refine LV.callV hC [] [vi r] (c_X6_fits (d := 40) (by decide) h2) okX6_fits gw_1265 rfl rfl (by decide) (hcX6 E _) rfl (Nat.le_of_ble_eq_true rfl) (by decide) dL_law_1168 (fun v N hq => ?_)
  obtain ⟨rfl, rfl⟩ := hq
  refine LV.eqi hC (r := r) (tgt := 1440) dL_law_1171 (by decide) ?_
  exact ih _ h3
set_option maxRecDepth 10000 in
theorem law_36 (hC : LK E p s m meth c b L xs) (hi : i0 + 5 ≤ L) (hR : Rel M) (ih : ∀ M', Rel M' → LV E p e s m below meth c b 1440 (lc E b i0) [] M') : LV E p e s m below meth c b 1176 (lc E b i0) [] M := by
  obtain ⟨r, M1, M2, h1, h2, h3⟩ := op_drift (n := 1000) (x := (xs (i0 + 1)).toInt) (y := (xs (i0 + 2)).toInt) (z := (xs (i0 + 3)).toInt) (Nat.le_refl _) (rgx _) (rgx _) (rgx _) hR
  refine LV.a1 hC dL_law_1176 ?_
  refine LV.arg hC 1 1 rfl (by omega) dL_law_1177 dL_law_1178 dL_law_1179 dL_law_1180 dL_law_1181 ?_
  refine LV.arg hC 2 2 rfl (by omega) dL_law_1182 dL_law_1183 dL_law_1184 dL_law_1185 dL_law_1186 ?_
  refine LV.arg hC 3 3 rfl (by omega) dL_law_1187 dL_law_1188 dL_law_1189 dL_law_1190 dL_law_1191 ?_
  refine LV.callV hC [vi (xs (i0 + 1)).toInt, vi (xs (i0 + 2)).toInt, vi (xs (i0 + 3)).toInt] [] (c_X5_drift (d := 40) (by decide) h1) okX5_drift gw_800 rfl rfl (by decide) (hcX5 E _) rfl (Nat.le_of_ble_eq_true rfl) (by decide) dL_law_1192 (fun v N hq => ?_)
  obtain ⟨rfl, rfl⟩ := hq
  refine LV.a2 hC dL_law_1195 ?_
  refine LV.arg hC 1 1 rfl (by omega) dL_law_1196 dL_law_1197 dL_law_1198 dL_law_1199 dL_law_1200 ?_
  refine LV.arg hC 2 2 rfl (by omega) dL_law_1201 dL_law_1202 dL_law_1203 dL_law_1204 dL_law_1205 ?_
  refine LV.arg hC 3 3 rfl (by omega) dL_law_1206 dL_law_1207 dL_law_1208 dL_law_1209 dL_law_1210 ?_
  refine LV.callV hC [vi (xs (i0 + 1)).toInt, vi (xs (i0 + 2)).toInt, vi (xs (i0 + 3)).toInt] [vi r] (c_X6_drift (d := 40) (by decide) h2) okX6_drift gw_1269 rfl rfl (by decide) (hcX6 E _) rfl (Nat.le_of_ble_eq_true rfl) (by decide) dL_law_1211 (fun v N hq => ?_)
  obtain ⟨rfl, rfl⟩ := hq
  refine LV.eqi hC (r := r) (tgt := 1440) dL_law_1214 (by decide) ?_
  exact ih _ h3
set_option maxRecDepth 10000 in
theorem law_37 (hC : LK E p s m meth c b L xs) (hi : i0 + 5 ≤ L) (hR : Rel M) (ih : ∀ M', Rel M' → LV E p e s m below meth c b 1440 (lc E b i0) [] M') : LV E p e s m below meth c b 1219 (lc E b i0) [] M := by
  obtain ⟨r, M1, M2, h1, h2, h3⟩ := op_keep (n := 1000) (x := (xs (i0 + 1)).toInt) (Nat.le_refl _) (rgx _) hR
  refine LV.a1 hC dL_law_1219 ?_
  refine LV.arg hC 1 1 rfl (by omega) dL_law_1220 dL_law_1221 dL_law_1222 dL_law_1223 dL_law_1224 ?_
  refine LV.callV hC [vi (xs (i0 + 1)).toInt] [] (c_X5_keep (d := 40) (by decide) h1) okX5_keep gw_805 rfl rfl (by decide) (hcX5 E _) rfl (Nat.le_of_ble_eq_true rfl) (by decide) dL_law_1225 (fun v N hq => ?_)
  obtain ⟨rfl, rfl⟩ := hq
  refine LV.a2 hC dL_law_1228 ?_
  refine LV.arg hC 1 1 rfl (by omega) dL_law_1229 dL_law_1230 dL_law_1231 dL_law_1232 dL_law_1233 ?_
  refine LV.callV hC [vi (xs (i0 + 1)).toInt] [vi r] (c_X6_keep (d := 40) (by decide) h2) okX6_keep gw_1274 rfl rfl (by decide) (hcX6 E _) rfl (Nat.le_of_ble_eq_true rfl) (by decide) dL_law_1234 (fun v N hq => ?_)
  obtain ⟨rfl, rfl⟩ := hq
  refine LV.eqi hC (r := r) (tgt := 1440) dL_law_1237 (by decide) ?_
  exact ih _ h3
set_option maxRecDepth 10000 in
theorem law_38 (hC : LK E p s m meth c b L xs) (hi : i0 + 5 ≤ L) (hR : Rel M) (ih : ∀ M', Rel M' → LV E p e s m below meth c b 1440 (lc E b i0) [] M') : LV E p e s m below meth c b 1242 (lc E b i0) [] M := by
  obtain ⟨r, M1, M2, h1, h2, h3⟩ := op_back (n := 1000) (x := (xs (i0 + 1)).toInt) (Nat.le_refl _) (rgx _) hR
  refine LV.a1 hC dL_law_1242 ?_
  refine LV.arg hC 1 1 rfl (by omega) dL_law_1243 dL_law_1244 dL_law_1245 dL_law_1246 dL_law_1247 ?_
  refine LV.callV hC [vi (xs (i0 + 1)).toInt] [] (c_X5_back (d := 40) (by decide) h1) okX5_back gw_809 rfl rfl (by decide) (hcX5 E _) rfl (Nat.le_of_ble_eq_true rfl) (by decide) dL_law_1248 (fun v N hq => ?_)
  obtain ⟨rfl, rfl⟩ := hq
  refine LV.a2 hC dL_law_1251 ?_
  refine LV.arg hC 1 1 rfl (by omega) dL_law_1252 dL_law_1253 dL_law_1254 dL_law_1255 dL_law_1256 ?_
  refine LV.callV hC [vi (xs (i0 + 1)).toInt] [vi r] (c_X6_back (d := 40) (by decide) h2) okX6_back gw_1278 rfl rfl (by decide) (hcX6 E _) rfl (Nat.le_of_ble_eq_true rfl) (by decide) dL_law_1257 (fun v N hq => ?_)
  obtain ⟨rfl, rfl⟩ := hq
  refine LV.eqi hC (r := r) (tgt := 1440) dL_law_1260 (by decide) ?_
  exact ih _ h3
set_option maxRecDepth 10000 in
theorem law_39 (hC : LK E p s m meth c b L xs) (hi : i0 + 5 ≤ L) (hR : Rel M) (ih : ∀ M', Rel M' → LV E p e s m below meth c b 1440 (lc E b i0) [] M') : LV E p e s m below meth c b 1265 (lc E b i0) [] M := by
  obtain ⟨r, M1, M2, h1, h2, h3⟩ := op_sheet (n := 1000) (x := (xs (i0 + 1)).toInt) (y := (xs (i0 + 2)).toInt) (z := (xs (i0 + 3)).toInt) (Nat.le_refl _) (rgx _) (rgx _) (rgx _) hR
  refine LV.a1 hC dL_law_1265 ?_
  refine LV.arg hC 1 1 rfl (by omega) dL_law_1266 dL_law_1267 dL_law_1268 dL_law_1269 dL_law_1270 ?_
  refine LV.arg hC 2 2 rfl (by omega) dL_law_1271 dL_law_1272 dL_law_1273 dL_law_1274 dL_law_1275 ?_
  refine LV.arg hC 3 3 rfl (by omega) dL_law_1276 dL_law_1277 dL_law_1278 dL_law_1279 dL_law_1280 ?_
  refine LV.callV hC [vi (xs (i0 + 1)).toInt, vi (xs (i0 + 2)).toInt, vi (xs (i0 + 3)).toInt] [] (c_X5_sheet (d := 40) (by decide) h1) okX5_sheet gw_813 rfl rfl (by decide) (hcX5 E _) rfl (Nat.le_of_ble_eq_true rfl) (by decide) dL_law_1281 (fun v N hq => ?_)
  obtain ⟨rfl, rfl⟩ := hq
  refine LV.a2 hC dL_law_1284 ?_
  refine LV.arg hC 1 1 rfl (by omega) dL_law_1285 dL_law_1286 dL_law_1287 dL_law_1288 dL_law_1289 ?_
  refine LV.arg hC 2 2 rfl (by omega) dL_law_1290 dL_law_1291 dL_law_1292 dL_law_1293 dL_law_1294 ?_
  refine LV.arg hC 3 3 rfl (by omega) dL_law_1295 dL_law_1296 dL_law_1297 dL_law_1298 dL_law_1299 ?_
  refine LV.callV hC [vi (xs (i0 + 1)).toInt, vi (xs (i0 + 2)).toInt, vi (xs (i0 + 3)).toInt] [vi r] (c_X6_sheet (d := 40) (by decide) h2) okX6_sheet gw_1282 rfl rfl (by decide) (hcX6 E _) rfl (Nat.le_of_ble_eq_true rfl) (by decide) dL_law_1300 (fun v N hq => ?_)
  obtain ⟨rfl, rfl⟩ := hq
  refine LV.eqi hC (r := r) (tgt := 1440) dL_law_1303 (by decide) ?_
  exact ih _ h3
set_option maxRecDepth 10000 in
theorem law_40 (hC : LK E p s m meth c b L xs) (hi : i0 + 5 ≤ L) (hR : Rel M) (ih : ∀ M', Rel M' → LV E p e s m below meth c b 1440 (lc E b i0) [] M') : LV E p e s m below meth c b 1308 (lc E b i0) [] M := by
  obtain ⟨r, M1, M2, h1, h2, h3⟩ := op_lay (x := (xs (i0 + 1)).toInt) (y := (xs (i0 + 2)).toInt) (z := (xs (i0 + 3)).toInt) (rgx _) (rgx _) (rgx _) hR
  refine LV.a1 hC dL_law_1308 ?_
  refine LV.arg hC 1 1 rfl (by omega) dL_law_1309 dL_law_1310 dL_law_1311 dL_law_1312 dL_law_1313 ?_
  refine LV.arg hC 2 2 rfl (by omega) dL_law_1314 dL_law_1315 dL_law_1316 dL_law_1317 dL_law_1318 ?_
  refine LV.arg hC 3 3 rfl (by omega) dL_law_1319 dL_law_1320 dL_law_1321 dL_law_1322 dL_law_1323 ?_
  refine LV.callV hC [vi (xs (i0 + 1)).toInt, vi (xs (i0 + 2)).toInt, vi (xs (i0 + 3)).toInt] [] (c_X5_lay (d := 40) (by decide) h1) okX5_lay gw_828 rfl rfl (by decide) (hcX5 E _) rfl (Nat.le_of_ble_eq_true rfl) (by decide) dL_law_1324 (fun v N hq => ?_)
  obtain ⟨rfl, rfl⟩ := hq
  refine LV.a2 hC dL_law_1327 ?_
  refine LV.arg hC 1 1 rfl (by omega) dL_law_1328 dL_law_1329 dL_law_1330 dL_law_1331 dL_law_1332 ?_
  refine LV.arg hC 2 2 rfl (by omega) dL_law_1333 dL_law_1334 dL_law_1335 dL_law_1336 dL_law_1337 ?_
  refine LV.arg hC 3 3 rfl (by omega) dL_law_1338 dL_law_1339 dL_law_1340 dL_law_1341 dL_law_1342 ?_
  refine LV.callV hC [vi (xs (i0 + 1)).toInt, vi (xs (i0 + 2)).toInt, vi (xs (i0 + 3)).toInt] [vi r] (c_X6_lay (d := 40) (by decide) h2) okX6_lay gw_1287 rfl rfl (by decide) (hcX6 E _) rfl (Nat.le_of_ble_eq_true rfl) (by decide) dL_law_1343 (fun v N hq => ?_)
  obtain ⟨rfl, rfl⟩ := hq
  refine LV.eqi hC (r := r) (tgt := 1440) dL_law_1346 (by decide) ?_
  exact ih _ h3
set_option maxRecDepth 10000 in
theorem law_41 (hC : LK E p s m meth c b L xs) (hi : i0 + 5 ≤ L) (hR : Rel M) (ih : ∀ M', Rel M' → LV E p e s m below meth c b 1440 (lc E b i0) [] M') : LV E p e s m below meth c b 1351 (lc E b i0) [] M := by
  obtain ⟨r, M1, M2, h1, h2, h3⟩ := op_read (n := 1000) (x := (xs (i0 + 1)).toInt) (y := (xs (i0 + 2)).toInt) (z := (xs (i0 + 3)).toInt) (w := (xs (i0 + 4)).toInt) (Nat.le_refl _) (rgx _) (rgx _) (rgx _) (rgx _) hR
  refine LV.a1 hC dL_law_1351 ?_
  refine LV.arg hC 1 1 rfl (by omega) dL_law_1352 dL_law_1353 dL_law_1354 dL_law_1355 dL_law_1356 ?_
  refine LV.arg hC 2 2 rfl (by omega) dL_law_1357 dL_law_1358 dL_law_1359 dL_law_1360 dL_law_1361 ?_
  refine LV.arg hC 3 3 rfl (by omega) dL_law_1362 dL_law_1363 dL_law_1364 dL_law_1365 dL_law_1366 ?_
  refine LV.arg hC 4 4 rfl (by omega) dL_law_1367 dL_law_1368 dL_law_1369 dL_law_1370 dL_law_1371 ?_
  refine LV.callV hC [vi (xs (i0 + 1)).toInt, vi (xs (i0 + 2)).toInt, vi (xs (i0 + 3)).toInt, vi (xs (i0 + 4)).toInt] [] (c_X5_read (d := 40) (by decide) h1) okX5_read gw_845 rfl rfl (by decide) (hcX5 E _) rfl (Nat.le_of_ble_eq_true rfl) (by decide) dL_law_1372 (fun v N hq => ?_)
  obtain ⟨rfl, rfl⟩ := hq
  refine LV.a2 hC dL_law_1375 ?_
  refine LV.arg hC 1 1 rfl (by omega) dL_law_1376 dL_law_1377 dL_law_1378 dL_law_1379 dL_law_1380 ?_
  refine LV.arg hC 2 2 rfl (by omega) dL_law_1381 dL_law_1382 dL_law_1383 dL_law_1384 dL_law_1385 ?_
  refine LV.arg hC 3 3 rfl (by omega) dL_law_1386 dL_law_1387 dL_law_1388 dL_law_1389 dL_law_1390 ?_
  refine LV.arg hC 4 4 rfl (by omega) dL_law_1391 dL_law_1392 dL_law_1393 dL_law_1394 dL_law_1395 ?_
  refine LV.callV hC [vi (xs (i0 + 1)).toInt, vi (xs (i0 + 2)).toInt, vi (xs (i0 + 3)).toInt, vi (xs (i0 + 4)).toInt] [vi r] (c_X6_read (d := 40) (by decide) h2) okX6_read gw_1291 rfl rfl (by decide) (hcX6 E _) rfl (Nat.le_of_ble_eq_true rfl) (by decide) dL_law_1396 (fun v N hq => ?_)
  obtain ⟨rfl, rfl⟩ := hq
  refine LV.eqi hC (r := r) (tgt := 1440) dL_law_1399 (by decide) ?_
  exact ih _ h3
set_option maxRecDepth 10000 in
theorem law_42 (hC : LK E p s m meth c b L xs) (hi : i0 + 5 ≤ L) (hR : Rel M) (ih : ∀ M', Rel M' → LV E p e s m below meth c b 1440 (lc E b i0) [] M') : LV E p e s m below meth c b 1404 (lc E b i0) [] M := by
  obtain ⟨r, h1, h2⟩ := op_torn   hR
  refine LV.a1 hC dL_law_1404 ?_
  refine LV.callV hC [] [] (c_X5_torn (d := 40) (by decide) h1) okX5_torn gw_854 rfl rfl (by decide) (hcX5 E _) rfl (Nat.le_of_ble_eq_true rfl) (by decide) dL_law_1405 (fun v N hq => ?_)
  obtain ⟨rfl, rfl⟩ := hq
  refine LV.a2 hC dL_law_1408 ?_
  refine LV.callV hC [] [vi r] (c_X6_torn (d := 40) (by decide) h2) okX6_torn gw_1295 rfl rfl (by decide) (hcX6 E _) rfl (Nat.le_of_ble_eq_true rfl) (by decide) dL_law_1409 (fun v N hq => ?_)
  obtain ⟨rfl, rfl⟩ := hq
  refine LV.eqi hC (r := r) (tgt := 1440) dL_law_1412 (by decide) ?_
  exact ih _ hR
set_option maxRecDepth 10000 in
theorem law_43 (hC : LK E p s m meth c b L xs) (hi : i0 + 5 ≤ L) (hR : Rel M) (ih : ∀ M', Rel M' → LV E p e s m below meth c b 1440 (lc E b i0) [] M') : LV E p e s m below meth c b 1417 (lc E b i0) [] M := by
  obtain ⟨r, h1, h2⟩ := op_count (n := 1000) (x := (xs (i0 + 1)).toInt) (Nat.le_refl _) (rgx _) hR
  refine LV.a1 hC dL_law_1417 ?_
  refine LV.arg hC 1 1 rfl (by omega) dL_law_1418 dL_law_1419 dL_law_1420 dL_law_1421 dL_law_1422 ?_
  refine LV.callV hC [vi (xs (i0 + 1)).toInt] [] (c_X5_count (d := 40) (by decide) h1) okX5_count gw_858 rfl rfl (by decide) (hcX5 E _) rfl (Nat.le_of_ble_eq_true rfl) (by decide) dL_law_1423 (fun v N hq => ?_)
  obtain ⟨rfl, rfl⟩ := hq
  refine LV.a2 hC dL_law_1426 ?_
  refine LV.arg hC 1 1 rfl (by omega) dL_law_1427 dL_law_1428 dL_law_1429 dL_law_1430 dL_law_1431 ?_
  refine LV.callV hC [vi (xs (i0 + 1)).toInt] [vi r] (c_X6_count (d := 40) (by decide) h2) okX6_count gw_1299 rfl rfl (by decide) (hcX6 E _) rfl (Nat.le_of_ble_eq_true rfl) (by decide) dL_law_1432 (fun v N hq => ?_)
  obtain ⟨rfl, rfl⟩ := hq
  refine LV.eqi hC (r := r) (tgt := 1440) dL_law_1435 (by decide) ?_
  exact ih _ hR
theorem law_sw (hC : LK E p s m meth c b L xs) (hi : i0 + 5 ≤ L) (hR : Rel M) (ih : ∀ M', Rel M' → LV E p e s m below meth c b 1440 (lc E b i0) [] M') : LV E p e s m below meth c b 32 (lc E b i0) [.int (xs i0 &&& 63)] M := by
  have h0 := law_m63 (xs i0)
  generalize hv : (xs i0 &&& 63) = v at h0 ⊢
  intro H locs ls hP hT hl
  have hcase : v.toInt = 0 ∨ v.toInt = 1 ∨ v.toInt = 2 ∨ v.toInt = 3 ∨ v.toInt = 4 ∨ v.toInt = 5 ∨ v.toInt = 6 ∨ v.toInt = 7 ∨ v.toInt = 8 ∨ v.toInt = 9 ∨ v.toInt = 10 ∨ v.toInt = 11 ∨ v.toInt = 12 ∨ v.toInt = 13 ∨ v.toInt = 14 ∨ v.toInt = 15 ∨ v.toInt = 16 ∨ v.toInt = 17 ∨ v.toInt = 18 ∨ v.toInt = 19 ∨ v.toInt = 20 ∨ v.toInt = 21 ∨ v.toInt = 22 ∨ v.toInt = 23 ∨ v.toInt = 24 ∨ v.toInt = 25 ∨ v.toInt = 26 ∨ v.toInt = 27 ∨ v.toInt = 28 ∨ v.toInt = 29 ∨ v.toInt = 30 ∨ v.toInt = 31 ∨ v.toInt = 32 ∨ v.toInt = 33 ∨ v.toInt = 34 ∨ v.toInt = 35 ∨ v.toInt = 36 ∨ v.toInt = 37 ∨ v.toInt = 38 ∨ v.toInt = 39 ∨ v.toInt = 40 ∨ v.toInt = 41 ∨ v.toInt = 42 ∨ v.toInt = 43 ∨ 44 ≤ v.toInt := by omega
  rcases hcase with hz | hz | hz | hz | hz | hz | hz | hz | hz | hz | hz | hz | hz | hz | hz | hz | hz | hz | hz | hz | hz | hz | hz | hz | hz | hz | hz | hz | hz | hz | hz | hz | hz | hz | hz | hz | hz | hz | hz | hz | hz | hz | hz | hz | hz
  · exact lv_tableIn (off := 192) (tgt := 224) hC.1.1 hC.1.2.1 dL_law_32 (by rw [hz]; decide) (by rw [hz]; decide) (by rw [hz]; rfl) (by decide) (law_0 hC hi hR ih H locs ls hP hT hl)
  · exact lv_tableIn (off := 215) (tgt := 247) hC.1.1 hC.1.2.1 dL_law_32 (by rw [hz]; decide) (by rw [hz]; decide) (by rw [hz]; rfl) (by decide) (law_1 hC hi hR ih H locs ls hP hT hl)
  · exact lv_tableIn (off := 238) (tgt := 270) hC.1.1 hC.1.2.1 dL_law_32 (by rw [hz]; decide) (by rw [hz]; decide) (by rw [hz]; rfl) (by decide) (law_2 hC hi hR ih H locs ls hP hT hl)
  · exact lv_tableIn (off := 251) (tgt := 283) hC.1.1 hC.1.2.1 dL_law_32 (by rw [hz]; decide) (by rw [hz]; decide) (by rw [hz]; rfl) (by decide) (law_3 hC hi hR ih H locs ls hP hT hl)
  · exact lv_tableIn (off := 264) (tgt := 296) hC.1.1 hC.1.2.1 dL_law_32 (by rw [hz]; decide) (by rw [hz]; decide) (by rw [hz]; rfl) (by decide) (law_4 hC hi hR ih H locs ls hP hT hl)
  · exact lv_tableIn (off := 287) (tgt := 319) hC.1.1 hC.1.2.1 dL_law_32 (by rw [hz]; decide) (by rw [hz]; decide) (by rw [hz]; rfl) (by decide) (law_5 hC hi hR ih H locs ls hP hT hl)
  · exact lv_tableIn (off := 320) (tgt := 352) hC.1.1 hC.1.2.1 dL_law_32 (by rw [hz]; decide) (by rw [hz]; decide) (by rw [hz]; rfl) (by decide) (law_6 hC hi hR ih H locs ls hP hT hl)
  · exact lv_tableIn (off := 353) (tgt := 385) hC.1.1 hC.1.2.1 dL_law_32 (by rw [hz]; decide) (by rw [hz]; decide) (by rw [hz]; rfl) (by decide) (law_7 hC hi hR ih H locs ls hP hT hl)
  · exact lv_tableIn (off := 376) (tgt := 408) hC.1.1 hC.1.2.1 dL_law_32 (by rw [hz]; decide) (by rw [hz]; decide) (by rw [hz]; rfl) (by decide) (law_8 hC hi hR ih H locs ls hP hT hl)
  · exact lv_tableIn (off := 419) (tgt := 451) hC.1.1 hC.1.2.1 dL_law_32 (by rw [hz]; decide) (by rw [hz]; decide) (by rw [hz]; rfl) (by decide) (law_9 hC hi hR ih H locs ls hP hT hl)
  · exact lv_tableIn (off := 452) (tgt := 484) hC.1.1 hC.1.2.1 dL_law_32 (by rw [hz]; decide) (by rw [hz]; decide) (by rw [hz]; rfl) (by decide) (law_10 hC hi hR ih H locs ls hP hT hl)
  · exact lv_tableIn (off := 475) (tgt := 507) hC.1.1 hC.1.2.1 dL_law_32 (by rw [hz]; decide) (by rw [hz]; decide) (by rw [hz]; rfl) (by decide) (law_11 hC hi hR ih H locs ls hP hT hl)
  · exact lv_tableIn (off := 498) (tgt := 530) hC.1.1 hC.1.2.1 dL_law_32 (by rw [hz]; decide) (by rw [hz]; decide) (by rw [hz]; rfl) (by decide) (law_12 hC hi hR ih H locs ls hP hT hl)
  · exact lv_tableIn (off := 521) (tgt := 553) hC.1.1 hC.1.2.1 dL_law_32 (by rw [hz]; decide) (by rw [hz]; decide) (by rw [hz]; rfl) (by decide) (law_13 hC hi hR ih H locs ls hP hT hl)
  · exact lv_tableIn (off := 544) (tgt := 576) hC.1.1 hC.1.2.1 dL_law_32 (by rw [hz]; decide) (by rw [hz]; decide) (by rw [hz]; rfl) (by decide) (law_14 hC hi hR ih H locs ls hP hT hl)
  · exact lv_tableIn (off := 567) (tgt := 599) hC.1.1 hC.1.2.1 dL_law_32 (by rw [hz]; decide) (by rw [hz]; decide) (by rw [hz]; rfl) (by decide) (law_15 hC hi hR ih H locs ls hP hT hl)
  · exact lv_tableIn (off := 600) (tgt := 632) hC.1.1 hC.1.2.1 dL_law_32 (by rw [hz]; decide) (by rw [hz]; decide) (by rw [hz]; rfl) (by decide) (law_16 hC hi hR ih H locs ls hP hT hl)
  · exact lv_tableIn (off := 633) (tgt := 665) hC.1.1 hC.1.2.1 dL_law_32 (by rw [hz]; decide) (by rw [hz]; decide) (by rw [hz]; rfl) (by decide) (law_17 hC hi hR ih H locs ls hP hT hl)
  · exact lv_tableIn (off := 666) (tgt := 698) hC.1.1 hC.1.2.1 dL_law_32 (by rw [hz]; decide) (by rw [hz]; decide) (by rw [hz]; rfl) (by decide) (law_18 hC hi hR ih H locs ls hP hT hl)
  · exact lv_tableIn (off := 689) (tgt := 721) hC.1.1 hC.1.2.1 dL_law_32 (by rw [hz]; decide) (by rw [hz]; decide) (by rw [hz]; rfl) (by decide) (law_19 hC hi hR ih H locs ls hP hT hl)
  · exact lv_tableIn (off := 712) (tgt := 744) hC.1.1 hC.1.2.1 dL_law_32 (by rw [hz]; decide) (by rw [hz]; decide) (by rw [hz]; rfl) (by decide) (law_20 hC hi hR ih H locs ls hP hT hl)
  · exact lv_tableIn (off := 755) (tgt := 787) hC.1.1 hC.1.2.1 dL_law_32 (by rw [hz]; decide) (by rw [hz]; decide) (by rw [hz]; rfl) (by decide) (law_21 hC hi hR ih H locs ls hP hT hl)
  · exact lv_tableIn (off := 778) (tgt := 810) hC.1.1 hC.1.2.1 dL_law_32 (by rw [hz]; decide) (by rw [hz]; decide) (by rw [hz]; rfl) (by decide) (law_22 hC hi hR ih H locs ls hP hT hl)
  · exact lv_tableIn (off := 791) (tgt := 823) hC.1.1 hC.1.2.1 dL_law_32 (by rw [hz]; decide) (by rw [hz]; decide) (by rw [hz]; rfl) (by decide) (law_23 hC hi hR ih H locs ls hP hT hl)
  · exact lv_tableIn (off := 825) (tgt := 857) hC.1.1 hC.1.2.1 dL_law_32 (by rw [hz]; decide) (by rw [hz]; decide) (by rw [hz]; rfl) (by decide) (law_24 hC hi hR ih H locs ls hP hT hl)
  · exact lv_tableIn (off := 859) (tgt := 891) hC.1.1 hC.1.2.1 dL_law_32 (by rw [hz]; decide) (by rw [hz]; decide) (by rw [hz]; rfl) (by decide) (law_25 hC hi hR ih H locs ls hP hT hl)
  · exact lv_tableIn (off := 892) (tgt := 924) hC.1.1 hC.1.2.1 dL_law_32 (by rw [hz]; decide) (by rw [hz]; decide) (by rw [hz]; rfl) (by decide) (law_26 hC hi hR ih H locs ls hP hT hl)
  · exact lv_tableIn (off := 926) (tgt := 958) hC.1.1 hC.1.2.1 dL_law_32 (by rw [hz]; decide) (by rw [hz]; decide) (by rw [hz]; rfl) (by decide) (law_27 hC hi hR ih H locs ls hP hT hl)
  · exact lv_tableIn (off := 970) (tgt := 1002) hC.1.1 hC.1.2.1 dL_law_32 (by rw [hz]; decide) (by rw [hz]; decide) (by rw [hz]; rfl) (by decide) (law_28 hC hi hR ih H locs ls hP hT hl)
  · exact lv_tableIn (off := 993) (tgt := 1025) hC.1.1 hC.1.2.1 dL_law_32 (by rw [hz]; decide) (by rw [hz]; decide) (by rw [hz]; rfl) (by decide) (law_29 hC hi hR ih H locs ls hP hT hl)
  · exact lv_tableIn (off := 1006) (tgt := 1038) hC.1.1 hC.1.2.1 dL_law_32 (by rw [hz]; decide) (by rw [hz]; decide) (by rw [hz]; rfl) (by decide) (law_30 hC hi hR ih H locs ls hP hT hl)
  · exact lv_tableIn (off := 1019) (tgt := 1051) hC.1.1 hC.1.2.1 dL_law_32 (by rw [hz]; decide) (by rw [hz]; decide) (by rw [hz]; rfl) (by decide) (law_31 hC hi hR ih H locs ls hP hT hl)
  · exact lv_tableIn (off := 1052) (tgt := 1084) hC.1.1 hC.1.2.1 dL_law_32 (by rw [hz]; decide) (by rw [hz]; decide) (by rw [hz]; rfl) (by decide) (law_32 hC hi hR ih H locs ls hP hT hl)
  · exact lv_tableIn (off := 1075) (tgt := 1107) hC.1.1 hC.1.2.1 dL_law_32 (by rw [hz]; decide) (by rw [hz]; decide) (by rw [hz]; rfl) (by decide) (law_33 hC hi hR ih H locs ls hP hT hl)
  · exact lv_tableIn (off := 1108) (tgt := 1140) hC.1.1 hC.1.2.1 dL_law_32 (by rw [hz]; decide) (by rw [hz]; decide) (by rw [hz]; rfl) (by decide) (law_34 hC hi hR ih H locs ls hP hT hl)
  · exact lv_tableIn (off := 1131) (tgt := 1163) hC.1.1 hC.1.2.1 dL_law_32 (by rw [hz]; decide) (by rw [hz]; decide) (by rw [hz]; rfl) (by decide) (law_35 hC hi hR ih H locs ls hP hT hl)
  · exact lv_tableIn (off := 1144) (tgt := 1176) hC.1.1 hC.1.2.1 dL_law_32 (by rw [hz]; decide) (by rw [hz]; decide) (by rw [hz]; rfl) (by decide) (law_36 hC hi hR ih H locs ls hP hT hl)
  · exact lv_tableIn (off := 1187) (tgt := 1219) hC.1.1 hC.1.2.1 dL_law_32 (by rw [hz]; decide) (by rw [hz]; decide) (by rw [hz]; rfl) (by decide) (law_37 hC hi hR ih H locs ls hP hT hl)
  · exact lv_tableIn (off := 1210) (tgt := 1242) hC.1.1 hC.1.2.1 dL_law_32 (by rw [hz]; decide) (by rw [hz]; decide) (by rw [hz]; rfl) (by decide) (law_38 hC hi hR ih H locs ls hP hT hl)
  · exact lv_tableIn (off := 1233) (tgt := 1265) hC.1.1 hC.1.2.1 dL_law_32 (by rw [hz]; decide) (by rw [hz]; decide) (by rw [hz]; rfl) (by decide) (law_39 hC hi hR ih H locs ls hP hT hl)
  · exact lv_tableIn (off := 1276) (tgt := 1308) hC.1.1 hC.1.2.1 dL_law_32 (by rw [hz]; decide) (by rw [hz]; decide) (by rw [hz]; rfl) (by decide) (law_40 hC hi hR ih H locs ls hP hT hl)
  · exact lv_tableIn (off := 1319) (tgt := 1351) hC.1.1 hC.1.2.1 dL_law_32 (by rw [hz]; decide) (by rw [hz]; decide) (by rw [hz]; rfl) (by decide) (law_41 hC hi hR ih H locs ls hP hT hl)
  · exact lv_tableIn (off := 1372) (tgt := 1404) hC.1.1 hC.1.2.1 dL_law_32 (by rw [hz]; decide) (by rw [hz]; decide) (by rw [hz]; rfl) (by decide) (law_42 hC hi hR ih H locs ls hP hT hl)
  · exact lv_tableIn (off := 1385) (tgt := 1417) hC.1.1 hC.1.2.1 dL_law_32 (by rw [hz]; decide) (by rw [hz]; decide) (by rw [hz]; rfl) (by decide) (law_43 hC hi hR ih H locs ls hP hT hl)
  · exact lv_tableOut (tgt := 1440) hC.1.1 hC.1.2.1 dL_law_32 (Or.inr (by omega)) (by decide) (ih M hR H locs ls hP hT hl)
end LCASES
