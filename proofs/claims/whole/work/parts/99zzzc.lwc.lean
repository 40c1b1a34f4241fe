/-! THE LAW: the 52 calls -/
section
variable {L I B : Nat} {xs : Nat → Int32} {M N : ev_Mem}
theorem lw_c0 (hI : I + 7 ≤ L) (hL : L ≤ 3584) (hB : B < 2 ^ 27) (h : RX B M N) (kk : ∀ M2 N2 : ev_Mem, RX (B + 2000) M2 N2 → Lw L xs 1563 (nI I) [] M2 N2) : Lw L xs 256 (nI I) [] M N := by
  obtain ⟨v, hv, QX, QM, h1, h2, h3⟩ := op_feed h (xs (I + 1)) (xs (I + 2)) (xs (I + 3)) (xs (I + 4)) (xs (I + 5))
  obtain ⟨w, rfl⟩ := hv.i (by decide)
  refine lw_aload_1 d_law_256 ?_
  refine lw_arg (k := 1) d_law_257 d_law_258 d_law_259 d_law_260 d_law_261 (by decide) hI hL (by decide) ?_
  refine lw_arg (k := 2) d_law_262 d_law_263 d_law_264 d_law_265 d_law_266 (by decide) hI hL (by decide) ?_
  refine lw_arg (k := 3) d_law_267 d_law_268 d_law_269 d_law_270 d_law_271 (by decide) hI hL (by decide) ?_
  refine lw_arg (k := 4) d_law_272 d_law_273 d_law_274 d_law_275 d_law_276 (by decide) hI hL (by decide) ?_
  refine lw_arg (k := 5) d_law_277 d_law_278 d_law_279 d_law_280 d_law_281 (by decide) hI hL (by decide) ?_
  refine lw_callX [.int (xs (I + 1)), .int (xs (I + 2)), .int (xs (I + 3)), .int (xs (I + 4)), .int (xs (I + 5))] d_law_282 ml_law_13 rfl rfl (fun _ _ => rfl) (by decide) h1 (fun r M2 q1 => ?_)
  obtain ⟨rfl, q1⟩ := q1
  refine ⟨fun _ _ => rfl, Lw.sk (st2 := [.int w]) rfl ?_⟩
  refine lw_aload_2 d_law_285 ?_
  refine lw_arg (k := 1) d_law_286 d_law_287 d_law_288 d_law_289 d_law_290 (by decide) hI hL (by decide) ?_
  refine lw_arg (k := 2) d_law_291 d_law_292 d_law_293 d_law_294 d_law_295 (by decide) hI hL (by decide) ?_
  refine lw_arg (k := 3) d_law_296 d_law_297 d_law_298 d_law_299 d_law_300 (by decide) hI hL (by decide) ?_
  refine lw_arg (k := 4) d_law_301 d_law_302 d_law_303 d_law_304 d_law_305 (by decide) hI hL (by decide) ?_
  refine lw_arg (k := 5) d_law_306 d_law_307 d_law_308 d_law_309 d_law_310 (by decide) hI hL (by decide) ?_
  refine lw_callM [.int (xs (I + 1)), .int (xs (I + 2)), .int (xs (I + 3)), .int (xs (I + 4)), .int (xs (I + 5))] d_law_311 ml_law_17 rfl rfl (fun _ _ => rfl) (Nat.le_of_ble_eq_true rfl) h2 (fun r N2 q2 => ?_)
  obtain ⟨rfl, q2⟩ := q2
  refine ⟨fun _ _ => rfl, Lw.sk (st2 := [.int w, .int w]) rfl ?_⟩
  exact lw_eqi d_law_314 (by decide) (kk M2 N2 (h3 M2 N2 q1 q2))
theorem lw_c1 (hI : I + 7 ≤ L) (hL : L ≤ 3584) (hB : B < 2 ^ 27) (h : RX B M N) (kk : ∀ M2 N2 : ev_Mem, RX (B + 2000) M2 N2 → Lw L xs 1563 (nI I) [] M2 N2) : Lw L xs 319 (nI I) [] M N := by
  obtain ⟨v, hv, QX, QM, h1, h2, h3⟩ := (op_end h (xs (I + 1))).oq
  obtain ⟨w, rfl⟩ := hv.i (by decide)
  refine lw_aload_1 d_law_319 ?_
  refine lw_arg (k := 1) d_law_320 d_law_321 d_law_322 d_law_323 d_law_324 (by decide) hI hL (by decide) ?_
  refine lw_callX [.int (xs (I + 1))] d_law_325 ml_law_18 rfl rfl (fun _ _ => rfl) (by decide) h1 (fun r M2 q1 => ?_)
  obtain ⟨rfl, q1⟩ := q1
  refine ⟨fun _ _ => rfl, Lw.sk (st2 := [.int w]) rfl ?_⟩
  refine lw_aload_2 d_law_328 ?_
  refine lw_arg (k := 1) d_law_329 d_law_330 d_law_331 d_law_332 d_law_333 (by decide) hI hL (by decide) ?_
  refine lw_callM [.int (xs (I + 1))] d_law_334 ml_law_22 rfl rfl (fun _ _ => rfl) (Nat.le_of_ble_eq_true rfl) h2 (fun r N2 q2 => ?_)
  obtain ⟨rfl, q2⟩ := q2
  refine ⟨fun _ _ => rfl, Lw.sk (st2 := [.int w, .int w]) rfl ?_⟩
  exact lw_eqi d_law_337 (by decide) (kk M2 N2 (h3 M2 N2 q1 q2))
theorem lw_c2 (hI : I + 7 ≤ L) (hL : L ≤ 3584) (hB : B < 2 ^ 27) (h : RX B M N) (kk : ∀ M2 N2 : ev_Mem, RX (B + 2000) M2 N2 → Lw L xs 1563 (nI I) [] M2 N2) : Lw L xs 342 (nI I) [] M N := by
  obtain ⟨v, hv, QX, QM, h1, h2, h3⟩ := op_text h
  obtain ⟨w, rfl⟩ := hv.i (by decide)
  refine lw_aload_1 d_law_342 ?_
  refine lw_callX [] d_law_343 ml_law_23 rfl rfl (fun _ _ => rfl) (by decide) h1 (fun r M2 q1 => ?_)
  obtain ⟨rfl, q1⟩ := q1
  refine ⟨fun _ _ => rfl, Lw.sk (st2 := [.int w]) rfl ?_⟩
  refine lw_aload_2 d_law_346 ?_
  refine lw_callM [] d_law_347 ml_law_27 rfl rfl (fun _ _ => rfl) (Nat.le_of_ble_eq_true rfl) h2 (fun r N2 q2 => ?_)
  obtain ⟨rfl, q2⟩ := q2
  refine ⟨fun _ _ => rfl, Lw.sk (st2 := [.int w, .int w]) rfl ?_⟩
  exact lw_eqi d_law_350 (by decide) (kk M2 N2 (h3 M2 N2 q1 q2))
theorem lw_c3 (hI : I + 7 ≤ L) (hL : L ≤ 3584) (hB : B < 2 ^ 27) (h : RX B M N) (kk : ∀ M2 N2 : ev_Mem, RX (B + 2000) M2 N2 → Lw L xs 1563 (nI I) [] M2 N2) : Lw L xs 355 (nI I) [] M N := by
  obtain ⟨v, hv, QX, QM, h1, h2, h3⟩ := (op_fault h (xs (I + 1))).oq
  obtain ⟨w, rfl⟩ := hv.i (by decide)
  refine lw_aload_1 d_law_355 ?_
  refine lw_arg (k := 1) d_law_356 d_law_357 d_law_358 d_law_359 d_law_360 (by decide) hI hL (by decide) ?_
  refine lw_callX [.int (xs (I + 1))] d_law_361 ml_law_28 rfl rfl (fun _ _ => rfl) (by decide) h1 (fun r M2 q1 => ?_)
  obtain ⟨rfl, q1⟩ := q1
  refine ⟨fun _ _ => rfl, Lw.sk (st2 := [.int w]) rfl ?_⟩
  refine lw_aload_2 d_law_364 ?_
  refine lw_arg (k := 1) d_law_365 d_law_366 d_law_367 d_law_368 d_law_369 (by decide) hI hL (by decide) ?_
  refine lw_callM [.int (xs (I + 1))] d_law_370 ml_law_31 rfl rfl (fun _ _ => rfl) (Nat.le_of_ble_eq_true rfl) h2 (fun r N2 q2 => ?_)
  obtain ⟨rfl, q2⟩ := q2
  refine ⟨fun _ _ => rfl, Lw.sk (st2 := [.int w, .int w]) rfl ?_⟩
  exact lw_eqi d_law_373 (by decide) (kk M2 N2 (h3 M2 N2 q1 q2))
theorem lw_c4 (hI : I + 7 ≤ L) (hL : L ≤ 3584) (hB : B < 2 ^ 27) (h : RX B M N) (kk : ∀ M2 N2 : ev_Mem, RX (B + 2000) M2 N2 → Lw L xs 1563 (nI I) [] M2 N2) : Lw L xs 378 (nI I) [] M N := by
  obtain ⟨v, hv, QX, QM, h1, h2, h3⟩ := (op_by h (xs (I + 1))).oq
  obtain ⟨w, rfl⟩ := hv.i (by decide)
  refine lw_aload_1 d_law_378 ?_
  refine lw_arg (k := 1) d_law_379 d_law_380 d_law_381 d_law_382 d_law_383 (by decide) hI hL (by decide) ?_
  refine lw_callX [.int (xs (I + 1))] d_law_384 ml_law_32 rfl rfl (fun _ _ => rfl) (by decide) h1 (fun r M2 q1 => ?_)
  obtain ⟨rfl, q1⟩ := q1
  refine ⟨fun _ _ => rfl, Lw.sk (st2 := [.int w]) rfl ?_⟩
  refine lw_aload_2 d_law_387 ?_
  refine lw_arg (k := 1) d_law_388 d_law_389 d_law_390 d_law_391 d_law_392 (by decide) hI hL (by decide) ?_
  refine lw_callM [.int (xs (I + 1))] d_law_393 ml_law_36 rfl rfl (fun _ _ => rfl) (Nat.le_of_ble_eq_true rfl) h2 (fun r N2 q2 => ?_)
  obtain ⟨rfl, q2⟩ := q2
  refine ⟨fun _ _ => rfl, Lw.sk (st2 := [.int w, .int w]) rfl ?_⟩
  exact lw_eqi d_law_396 (by decide) (kk M2 N2 (h3 M2 N2 q1 q2))
theorem lw_c5 (hI : I + 7 ≤ L) (hL : L ≤ 3584) (hB : B < 2 ^ 27) (h : RX B M N) (kk : ∀ M2 N2 : ev_Mem, RX (B + 2000) M2 N2 → Lw L xs 1563 (nI I) [] M2 N2) : Lw L xs 401 (nI I) [] M N := by
  obtain ⟨v, hv, QX, QM, h1, h2, h3⟩ := (op_played (show B < 2 ^ 27 by omega) h (xs (I + 1))).oq
  obtain ⟨w, rfl⟩ := hv.i (by decide)
  refine lw_aload_1 d_law_401 ?_
  refine lw_arg (k := 1) d_law_402 d_law_403 d_law_404 d_law_405 d_law_406 (by decide) hI hL (by decide) ?_
  refine lw_callX [.int (xs (I + 1))] d_law_407 ml_law_37 rfl rfl (fun _ _ => rfl) (by decide) h1 (fun r M2 q1 => ?_)
  obtain ⟨rfl, q1⟩ := q1
  refine ⟨fun _ _ => rfl, Lw.sk (st2 := [.int w]) rfl ?_⟩
  refine lw_aload_2 d_law_410 ?_
  refine lw_arg (k := 1) d_law_411 d_law_412 d_law_413 d_law_414 d_law_415 (by decide) hI hL (by decide) ?_
  refine lw_callM [.int (xs (I + 1))] d_law_416 ml_law_40 rfl rfl (fun _ _ => rfl) (Nat.le_of_ble_eq_true rfl) h2 (fun r N2 q2 => ?_)
  obtain ⟨rfl, q2⟩ := q2
  refine ⟨fun _ _ => rfl, Lw.sk (st2 := [.int w, .int w]) rfl ?_⟩
  exact lw_eqi d_law_419 (by decide) (kk M2 N2 (h3 M2 N2 q1 q2))
theorem lw_c6 (hI : I + 7 ≤ L) (hL : L ≤ 3584) (hB : B < 2 ^ 27) (h : RX B M N) (kk : ∀ M2 N2 : ev_Mem, RX (B + 2000) M2 N2 → Lw L xs 1563 (nI I) [] M2 N2) : Lw L xs 424 (nI I) [] M N := by
  obtain ⟨v, hv, QX, QM, h1, h2, h3⟩ := op_word h (xs (I + 1)) (xs (I + 2)) (xs (I + 3))
  obtain ⟨w, rfl⟩ := hv.i (by decide)
  refine lw_aload_1 d_law_424 ?_
  refine lw_arg (k := 1) d_law_425 d_law_426 d_law_427 d_law_428 d_law_429 (by decide) hI hL (by decide) ?_
  refine lw_arg (k := 2) d_law_430 d_law_431 d_law_432 d_law_433 d_law_434 (by decide) hI hL (by decide) ?_
  refine lw_arg (k := 3) d_law_435 d_law_436 d_law_437 d_law_438 d_law_439 (by decide) hI hL (by decide) ?_
  refine lw_callX [.int (xs (I + 1)), .int (xs (I + 2)), .int (xs (I + 3))] d_law_440 ml_law_41 rfl rfl (fun _ _ => rfl) (by decide) h1 (fun r M2 q1 => ?_)
  obtain ⟨rfl, q1⟩ := q1
  refine ⟨fun _ _ => rfl, Lw.sk (st2 := [.int w]) rfl ?_⟩
  refine lw_aload_2 d_law_443 ?_
  refine lw_arg (k := 1) d_law_444 d_law_445 d_law_446 d_law_447 d_law_448 (by decide) hI hL (by decide) ?_
  refine lw_arg (k := 2) d_law_449 d_law_450 d_law_451 d_law_452 d_law_453 (by decide) hI hL (by decide) ?_
  refine lw_arg (k := 3) d_law_454 d_law_455 d_law_456 d_law_457 d_law_458 (by decide) hI hL (by decide) ?_
  refine lw_callM [.int (xs (I + 1)), .int (xs (I + 2)), .int (xs (I + 3))] d_law_459 ml_law_45 rfl rfl (fun _ _ => rfl) (Nat.le_of_ble_eq_true rfl) h2 (fun r N2 q2 => ?_)
  obtain ⟨rfl, q2⟩ := q2
  refine ⟨fun _ _ => rfl, Lw.sk (st2 := [.int w, .int w]) rfl ?_⟩
  exact lw_eqi d_law_462 (by decide) (kk M2 N2 (h3 M2 N2 q1 q2))
theorem lw_c7 (hI : I + 7 ≤ L) (hL : L ≤ 3584) (hB : B < 2 ^ 27) (h : RX B M N) (kk : ∀ M2 N2 : ev_Mem, RX (B + 2000) M2 N2 → Lw L xs 1563 (nI I) [] M2 N2) : Lw L xs 467 (nI I) [] M N := by
  obtain ⟨v, hv, QX, QM, h1, h2, h3⟩ := op_turn h (xs (I + 1))
  obtain ⟨w, rfl⟩ := hv.i (by decide)
  refine lw_aload_1 d_law_467 ?_
  refine lw_arg (k := 1) d_law_468 d_law_469 d_law_470 d_law_471 d_law_472 (by decide) hI hL (by decide) ?_
  refine lw_callX [.int (xs (I + 1))] d_law_473 ml_law_46 rfl rfl (fun _ _ => rfl) (by decide) h1 (fun r M2 q1 => ?_)
  obtain ⟨rfl, q1⟩ := q1
  refine ⟨fun _ _ => rfl, Lw.sk (st2 := [.int w]) rfl ?_⟩
  refine lw_aload_2 d_law_476 ?_
  refine lw_arg (k := 1) d_law_477 d_law_478 d_law_479 d_law_480 d_law_481 (by decide) hI hL (by decide) ?_
  refine lw_callM [.int (xs (I + 1))] d_law_482 ml_law_49 rfl rfl (fun _ _ => rfl) (Nat.le_of_ble_eq_true rfl) h2 (fun r N2 q2 => ?_)
  obtain ⟨rfl, q2⟩ := q2
  refine ⟨fun _ _ => rfl, Lw.sk (st2 := [.int w, .int w]) rfl ?_⟩
  exact lw_eqi d_law_485 (by decide) (kk M2 N2 (h3 M2 N2 q1 q2))
theorem lw_c8 (hI : I + 7 ≤ L) (hL : L ≤ 3584) (hB : B < 2 ^ 27) (h : RX B M N) (kk : ∀ M2 N2 : ev_Mem, RX (B + 2000) M2 N2 → Lw L xs 1563 (nI I) [] M2 N2) : Lw L xs 490 (nI I) [] M N := by
  obtain ⟨v, hv, QX, QM, h1, h2, h3⟩ := op_sense h (xs (I + 1)) (xs (I + 2)) (xs (I + 3)) (xs (I + 4)) (xs (I + 5)) (xs (I + 6))
  obtain ⟨w, rfl⟩ := hv.i (by decide)
  refine lw_aload_1 d_law_490 ?_
  refine lw_arg (k := 1) d_law_491 d_law_492 d_law_493 d_law_494 d_law_495 (by decide) hI hL (by decide) ?_
  refine lw_arg (k := 2) d_law_496 d_law_497 d_law_498 d_law_499 d_law_500 (by decide) hI hL (by decide) ?_
  refine lw_arg (k := 3) d_law_501 d_law_502 d_law_503 d_law_504 d_law_505 (by decide) hI hL (by decide) ?_
  refine lw_arg (k := 4) d_law_506 d_law_507 d_law_508 d_law_509 d_law_510 (by decide) hI hL (by decide) ?_
  refine lw_arg (k := 5) d_law_511 d_law_512 d_law_513 d_law_514 d_law_515 (by decide) hI hL (by decide) ?_
  refine lw_argb (k := 6) d_law_516 d_law_517 d_law_518 d_law_520 d_law_521 (by decide) hI hL (by decide) ?_
  refine lw_callX [.int (xs (I + 1)), .int (xs (I + 2)), .int (xs (I + 3)), .int (xs (I + 4)), .int (xs (I + 5)), .int (xs (I + 6))] d_law_522 ml_law_50 rfl rfl (fun _ _ => rfl) (by decide) h1 (fun r M2 q1 => ?_)
  obtain ⟨rfl, q1⟩ := q1
  refine ⟨fun _ _ => rfl, Lw.sk (st2 := [.int w]) rfl ?_⟩
  refine lw_aload_2 d_law_525 ?_
  refine lw_arg (k := 1) d_law_526 d_law_527 d_law_528 d_law_529 d_law_530 (by decide) hI hL (by decide) ?_
  refine lw_arg (k := 2) d_law_531 d_law_532 d_law_533 d_law_534 d_law_535 (by decide) hI hL (by decide) ?_
  refine lw_arg (k := 3) d_law_536 d_law_537 d_law_538 d_law_539 d_law_540 (by decide) hI hL (by decide) ?_
  refine lw_arg (k := 4) d_law_541 d_law_542 d_law_543 d_law_544 d_law_545 (by decide) hI hL (by decide) ?_
  refine lw_arg (k := 5) d_law_546 d_law_547 d_law_548 d_law_549 d_law_550 (by decide) hI hL (by decide) ?_
  refine lw_argb (k := 6) d_law_551 d_law_552 d_law_553 d_law_555 d_law_556 (by decide) hI hL (by decide) ?_
  refine lw_callM [.int (xs (I + 1)), .int (xs (I + 2)), .int (xs (I + 3)), .int (xs (I + 4)), .int (xs (I + 5)), .int (xs (I + 6))] d_law_557 ml_law_54 rfl rfl (fun _ _ => rfl) (Nat.le_of_ble_eq_true rfl) h2 (fun r N2 q2 => ?_)
  obtain ⟨rfl, q2⟩ := q2
  refine ⟨fun _ _ => rfl, Lw.sk (st2 := [.int w, .int w]) rfl ?_⟩
  exact lw_eqi d_law_560 (by decide) (kk M2 N2 (h3 M2 N2 q1 q2))
theorem lw_c9 (hI : I + 7 ≤ L) (hL : L ≤ 3584) (hB : B < 2 ^ 27) (h : RX B M N) (kk : ∀ M2 N2 : ev_Mem, RX (B + 2000) M2 N2 → Lw L xs 1563 (nI I) [] M2 N2) : Lw L xs 565 (nI I) [] M N := by
  obtain ⟨v, hv, QX, QM, h1, h2, h3⟩ := (op_made h (xs (I + 1)) (xs (I + 2)) (xs (I + 3))).oq
  obtain ⟨w, rfl⟩ := hv.i (by decide)
  refine lw_aload_1 d_law_565 ?_
  refine lw_arg (k := 1) d_law_566 d_law_567 d_law_568 d_law_569 d_law_570 (by decide) hI hL (by decide) ?_
  refine lw_arg (k := 2) d_law_571 d_law_572 d_law_573 d_law_574 d_law_575 (by decide) hI hL (by decide) ?_
  refine lw_arg (k := 3) d_law_576 d_law_577 d_law_578 d_law_579 d_law_580 (by decide) hI hL (by decide) ?_
  refine lw_callX [.int (xs (I + 1)), .int (xs (I + 2)), .int (xs (I + 3))] d_law_581 ml_law_55 rfl rfl (fun _ _ => rfl) (by decide) h1 (fun r M2 q1 => ?_)
  obtain ⟨rfl, q1⟩ := q1
  refine ⟨fun _ _ => rfl, Lw.sk (st2 := [.int w]) rfl ?_⟩
  refine lw_aload_2 d_law_584 ?_
  refine lw_arg (k := 1) d_law_585 d_law_586 d_law_587 d_law_588 d_law_589 (by decide) hI hL (by decide) ?_
  refine lw_arg (k := 2) d_law_590 d_law_591 d_law_592 d_law_593 d_law_594 (by decide) hI hL (by decide) ?_
  refine lw_arg (k := 3) d_law_595 d_law_596 d_law_597 d_law_598 d_law_599 (by decide) hI hL (by decide) ?_
  refine lw_callM [.int (xs (I + 1)), .int (xs (I + 2)), .int (xs (I + 3))] d_law_600 ml_law_59 rfl rfl (fun _ _ => rfl) (Nat.le_of_ble_eq_true rfl) h2 (fun r N2 q2 => ?_)
  obtain ⟨rfl, q2⟩ := q2
  refine ⟨fun _ _ => rfl, Lw.sk (st2 := [.int w, .int w]) rfl ?_⟩
  exact lw_eqi d_law_603 (by decide) (kk M2 N2 (h3 M2 N2 q1 q2))
theorem lw_c10 (hI : I + 7 ≤ L) (hL : L ≤ 3584) (hB : B < 2 ^ 27) (h : RX B M N) (kk : ∀ M2 N2 : ev_Mem, RX (B + 2000) M2 N2 → Lw L xs 1563 (nI I) [] M2 N2) : Lw L xs 608 (nI I) [] M N := by
  obtain ⟨v, hv, QX, QM, h1, h2, h3⟩ := (op_key (show B < 2 ^ 28 by omega) h (xs (I + 1))).oq
  obtain ⟨w, rfl⟩ := hv.i (by decide)
  refine lw_aload_1 d_law_608 ?_
  refine lw_arg (k := 1) d_law_609 d_law_610 d_law_611 d_law_612 d_law_613 (by decide) hI hL (by decide) ?_
  refine lw_callX [.int (xs (I + 1))] d_law_614 ml_law_60 rfl rfl (fun _ _ => rfl) (by decide) h1 (fun r M2 q1 => ?_)
  obtain ⟨rfl, q1⟩ := q1
  refine ⟨fun _ _ => rfl, Lw.sk (st2 := [.int w]) rfl ?_⟩
  refine lw_aload_2 d_law_617 ?_
  refine lw_arg (k := 1) d_law_618 d_law_619 d_law_620 d_law_621 d_law_622 (by decide) hI hL (by decide) ?_
  refine lw_callM [.int (xs (I + 1))] d_law_623 ml_law_63 rfl rfl (fun _ _ => rfl) (Nat.le_of_ble_eq_true rfl) h2 (fun r N2 q2 => ?_)
  obtain ⟨rfl, q2⟩ := q2
  refine ⟨fun _ _ => rfl, Lw.sk (st2 := [.int w, .int w]) rfl ?_⟩
  exact lw_eqi d_law_626 (by decide) (kk M2 N2 (h3 M2 N2 q1 q2))
theorem lw_c11 (hI : I + 7 ≤ L) (hL : L ≤ 3584) (hB : B < 2 ^ 27) (h : RX B M N) (kk : ∀ M2 N2 : ev_Mem, RX (B + 2000) M2 N2 → Lw L xs 1563 (nI I) [] M2 N2) : Lw L xs 631 (nI I) [] M N := by
  obtain ⟨v, hv, QX, QM, h1, h2, h3⟩ := (op_write (show B < 2 ^ 28 by omega) h (xs (I + 1))).oq
  obtain ⟨w, rfl⟩ := hv.i (by decide)
  refine lw_aload_1 d_law_631 ?_
  refine lw_arg (k := 1) d_law_632 d_law_633 d_law_634 d_law_635 d_law_636 (by decide) hI hL (by decide) ?_
  refine lw_callX [.int (xs (I + 1))] d_law_637 ml_law_64 rfl rfl (fun _ _ => rfl) (by decide) h1 (fun r M2 q1 => ?_)
  obtain ⟨rfl, q1⟩ := q1
  refine ⟨fun _ _ => rfl, Lw.sk (st2 := [.int w]) rfl ?_⟩
  refine lw_aload_2 d_law_640 ?_
  refine lw_arg (k := 1) d_law_641 d_law_642 d_law_643 d_law_644 d_law_645 (by decide) hI hL (by decide) ?_
  refine lw_callM [.int (xs (I + 1))] d_law_646 ml_law_67 rfl rfl (fun _ _ => rfl) (Nat.le_of_ble_eq_true rfl) h2 (fun r N2 q2 => ?_)
  obtain ⟨rfl, q2⟩ := q2
  refine ⟨fun _ _ => rfl, Lw.sk (st2 := [.int w, .int w]) rfl ?_⟩
  exact lw_eqi d_law_649 (by decide) (kk M2 N2 (h3 M2 N2 q1 q2))
theorem lw_c12 (hI : I + 7 ≤ L) (hL : L ≤ 3584) (hB : B < 2 ^ 27) (h : RX B M N) (kk : ∀ M2 N2 : ev_Mem, RX (B + 2000) M2 N2 → Lw L xs 1563 (nI I) [] M2 N2) : Lw L xs 654 (nI I) [] M N := by
  obtain ⟨v, hv, QX, QM, h1, h2, h3⟩ := (op_week (show B < 2 ^ 28 by omega) h (xs (I + 1))).oq
  obtain ⟨w, rfl⟩ := hv.i (by decide)
  refine lw_aload_1 d_law_654 ?_
  refine lw_arg (k := 1) d_law_655 d_law_656 d_law_657 d_law_658 d_law_659 (by decide) hI hL (by decide) ?_
  refine lw_callX [.int (xs (I + 1))] d_law_660 ml_law_68 rfl rfl (fun _ _ => rfl) (by decide) h1 (fun r M2 q1 => ?_)
  obtain ⟨rfl, q1⟩ := q1
  refine ⟨fun _ _ => rfl, Lw.sk (st2 := [.int w]) rfl ?_⟩
  refine lw_aload_2 d_law_663 ?_
  refine lw_arg (k := 1) d_law_664 d_law_665 d_law_666 d_law_667 d_law_668 (by decide) hI hL (by decide) ?_
  refine lw_callM [.int (xs (I + 1))] d_law_669 ml_law_71 rfl rfl (fun _ _ => rfl) (Nat.le_of_ble_eq_true rfl) h2 (fun r N2 q2 => ?_)
  obtain ⟨rfl, q2⟩ := q2
  refine ⟨fun _ _ => rfl, Lw.sk (st2 := [.int w, .int w]) rfl ?_⟩
  exact lw_eqi d_law_672 (by decide) (kk M2 N2 (h3 M2 N2 q1 q2))
theorem lw_c13 (hI : I + 7 ≤ L) (hL : L ≤ 3584) (hB : B < 2 ^ 27) (h : RX B M N) (kk : ∀ M2 N2 : ev_Mem, RX (B + 2000) M2 N2 → Lw L xs 1563 (nI I) [] M2 N2) : Lw L xs 677 (nI I) [] M N := by
  obtain ⟨v, hv, QX, QM, h1, h2, h3⟩ := (op_undo h).oq
  obtain ⟨w, rfl⟩ := hv.i (by decide)
  refine lw_aload_1 d_law_677 ?_
  refine lw_callX [] d_law_678 ml_law_72 rfl rfl (fun _ _ => rfl) (by decide) h1 (fun r M2 q1 => ?_)
  obtain ⟨rfl, q1⟩ := q1
  refine ⟨fun _ _ => rfl, Lw.sk (st2 := [.int w]) rfl ?_⟩
  refine lw_aload_2 d_law_681 ?_
  refine lw_callM [] d_law_682 ml_law_75 rfl rfl (fun _ _ => rfl) (Nat.le_of_ble_eq_true rfl) h2 (fun r N2 q2 => ?_)
  obtain ⟨rfl, q2⟩ := q2
  refine ⟨fun _ _ => rfl, Lw.sk (st2 := [.int w, .int w]) rfl ?_⟩
  exact lw_eqi d_law_685 (by decide) (kk M2 N2 (h3 M2 N2 q1 q2))
theorem lw_c14 (hI : I + 7 ≤ L) (hL : L ≤ 3584) (hB : B < 2 ^ 27) (h : RX B M N) (kk : ∀ M2 N2 : ev_Mem, RX (B + 2000) M2 N2 → Lw L xs 1563 (nI I) [] M2 N2) : Lw L xs 690 (nI I) [] M N := by
  obtain ⟨v, hv, QX, QM, h1, h2, h3⟩ := (op_told h (xs (I + 1)) (xs (I + 2))).oq
  obtain ⟨w, rfl⟩ := hv.i (by decide)
  refine lw_aload_1 d_law_690 ?_
  refine lw_arg (k := 1) d_law_691 d_law_692 d_law_693 d_law_694 d_law_695 (by decide) hI hL (by decide) ?_
  refine lw_arg (k := 2) d_law_696 d_law_697 d_law_698 d_law_699 d_law_700 (by decide) hI hL (by decide) ?_
  refine lw_callX [.int (xs (I + 1)), .int (xs (I + 2))] d_law_701 ml_law_76 rfl rfl (fun _ _ => rfl) (by decide) h1 (fun r M2 q1 => ?_)
  obtain ⟨rfl, q1⟩ := q1
  refine ⟨fun _ _ => rfl, Lw.sk (st2 := [.int w]) rfl ?_⟩
  refine lw_aload_2 d_law_704 ?_
  refine lw_arg (k := 1) d_law_705 d_law_706 d_law_707 d_law_708 d_law_709 (by decide) hI hL (by decide) ?_
  refine lw_arg (k := 2) d_law_710 d_law_711 d_law_712 d_law_713 d_law_714 (by decide) hI hL (by decide) ?_
  refine lw_callM [.int (xs (I + 1)), .int (xs (I + 2))] d_law_715 ml_law_80 rfl rfl (fun _ _ => rfl) (Nat.le_of_ble_eq_true rfl) h2 (fun r N2 q2 => ?_)
  obtain ⟨rfl, q2⟩ := q2
  refine ⟨fun _ _ => rfl, Lw.sk (st2 := [.int w, .int w]) rfl ?_⟩
  exact lw_eqi d_law_718 (by decide) (kk M2 N2 (h3 M2 N2 q1 q2))
theorem lw_c15 (hI : I + 7 ≤ L) (hL : L ≤ 3584) (hB : B < 2 ^ 27) (h : RX B M N) (kk : ∀ M2 N2 : ev_Mem, RX (B + 2000) M2 N2 → Lw L xs 1563 (nI I) [] M2 N2) : Lw L xs 723 (nI I) [] M N := by
  obtain ⟨v, hv, QX, QM, h1, h2, h3⟩ := (op_stiff h (xs (I + 1))).oq
  obtain ⟨w, rfl⟩ := hv.i (by decide)
  refine lw_aload_1 d_law_723 ?_
  refine lw_arg (k := 1) d_law_724 d_law_725 d_law_726 d_law_727 d_law_728 (by decide) hI hL (by decide) ?_
  refine lw_callX [.int (xs (I + 1))] d_law_729 ml_law_81 rfl rfl (fun _ _ => rfl) (by decide) h1 (fun r M2 q1 => ?_)
  obtain ⟨rfl, q1⟩ := q1
  refine ⟨fun _ _ => rfl, Lw.sk (st2 := [.int w]) rfl ?_⟩
  refine lw_aload_2 d_law_732 ?_
  refine lw_arg (k := 1) d_law_733 d_law_734 d_law_735 d_law_736 d_law_737 (by decide) hI hL (by decide) ?_
  refine lw_callM [.int (xs (I + 1))] d_law_738 ml_law_84 rfl rfl (fun _ _ => rfl) (Nat.le_of_ble_eq_true rfl) h2 (fun r N2 q2 => ?_)
  obtain ⟨rfl, q2⟩ := q2
  refine ⟨fun _ _ => rfl, Lw.sk (st2 := [.int w, .int w]) rfl ?_⟩
  exact lw_eqi d_law_741 (by decide) (kk M2 N2 (h3 M2 N2 q1 q2))
theorem lw_c16 (hI : I + 7 ≤ L) (hL : L ≤ 3584) (hB : B < 2 ^ 27) (h : RX B M N) (kk : ∀ M2 N2 : ev_Mem, RX (B + 2000) M2 N2 → Lw L xs 1563 (nI I) [] M2 N2) : Lw L xs 746 (nI I) [] M N := by
  obtain ⟨v, hv, QX, QM, h1, h2, h3⟩ := (op_least h (xs (I + 1)) (xs (I + 2))).oq
  obtain ⟨w, rfl⟩ := hv.i (by decide)
  refine lw_aload_1 d_law_746 ?_
  refine lw_arg (k := 1) d_law_747 d_law_748 d_law_749 d_law_750 d_law_751 (by decide) hI hL (by decide) ?_
  refine lw_arg (k := 2) d_law_752 d_law_753 d_law_754 d_law_755 d_law_756 (by decide) hI hL (by decide) ?_
  refine lw_callX [.int (xs (I + 1)), .int (xs (I + 2))] d_law_757 ml_law_85 rfl rfl (fun _ _ => rfl) (by decide) h1 (fun r M2 q1 => ?_)
  obtain ⟨rfl, q1⟩ := q1
  refine ⟨fun _ _ => rfl, Lw.sk (st2 := [.int w]) rfl ?_⟩
  refine lw_aload_2 d_law_760 ?_
  refine lw_arg (k := 1) d_law_761 d_law_762 d_law_763 d_law_764 d_law_765 (by decide) hI hL (by decide) ?_
  refine lw_arg (k := 2) d_law_766 d_law_767 d_law_768 d_law_769 d_law_770 (by decide) hI hL (by decide) ?_
  refine lw_callM [.int (xs (I + 1)), .int (xs (I + 2))] d_law_771 ml_law_88 rfl rfl (fun _ _ => rfl) (Nat.le_of_ble_eq_true rfl) h2 (fun r N2 q2 => ?_)
  obtain ⟨rfl, q2⟩ := q2
  refine ⟨fun _ _ => rfl, Lw.sk (st2 := [.int w, .int w]) rfl ?_⟩
  exact lw_eqi d_law_774 (by decide) (kk M2 N2 (h3 M2 N2 q1 q2))
theorem lw_c17 (hI : I + 7 ≤ L) (hL : L ≤ 3584) (hB : B < 2 ^ 27) (h : RX B M N) (kk : ∀ M2 N2 : ev_Mem, RX (B + 2000) M2 N2 → Lw L xs 1563 (nI I) [] M2 N2) : Lw L xs 779 (nI I) [] M N := by
  obtain ⟨v, hv, QX, QM, h1, h2, h3⟩ := (op_sentence h (xs (I + 1)) (xs (I + 2))).oq
  obtain ⟨w, rfl⟩ := hv.i (by decide)
  refine lw_aload_1 d_law_779 ?_
  refine lw_arg (k := 1) d_law_780 d_law_781 d_law_782 d_law_783 d_law_784 (by decide) hI hL (by decide) ?_
  refine lw_arg (k := 2) d_law_785 d_law_786 d_law_787 d_law_788 d_law_789 (by decide) hI hL (by decide) ?_
  refine lw_callX [.int (xs (I + 1)), .int (xs (I + 2))] d_law_790 ml_law_89 rfl rfl (fun _ _ => rfl) (by decide) h1 (fun r M2 q1 => ?_)
  obtain ⟨rfl, q1⟩ := q1
  refine ⟨fun _ _ => rfl, Lw.sk (st2 := [.int w]) rfl ?_⟩
  refine lw_aload_2 d_law_793 ?_
  refine lw_arg (k := 1) d_law_794 d_law_795 d_law_796 d_law_797 d_law_798 (by decide) hI hL (by decide) ?_
  refine lw_arg (k := 2) d_law_799 d_law_800 d_law_801 d_law_802 d_law_803 (by decide) hI hL (by decide) ?_
  refine lw_callM [.int (xs (I + 1)), .int (xs (I + 2))] d_law_804 ml_law_92 rfl rfl (fun _ _ => rfl) (Nat.le_of_ble_eq_true rfl) h2 (fun r N2 q2 => ?_)
  obtain ⟨rfl, q2⟩ := q2
  refine ⟨fun _ _ => rfl, Lw.sk (st2 := [.int w, .int w]) rfl ?_⟩
  exact lw_eqi d_law_807 (by decide) (kk M2 N2 (h3 M2 N2 q1 q2))
theorem lw_c18 (hI : I + 7 ≤ L) (hL : L ≤ 3584) (hB : B < 2 ^ 27) (h : RX B M N) (kk : ∀ M2 N2 : ev_Mem, RX (B + 2000) M2 N2 → Lw L xs 1563 (nI I) [] M2 N2) : Lw L xs 812 (nI I) [] M N := by
  obtain ⟨v, hv, QX, QM, h1, h2, h3⟩ := (op_states h (xs (I + 1)) (xs (I + 2)) (xs (I + 3))).oq
  obtain ⟨w, rfl⟩ := hv.i (by decide)
  refine lw_aload_1 d_law_812 ?_
  refine lw_arg (k := 1) d_law_813 d_law_814 d_law_815 d_law_816 d_law_817 (by decide) hI hL (by decide) ?_
  refine lw_arg (k := 2) d_law_818 d_law_819 d_law_820 d_law_821 d_law_822 (by decide) hI hL (by decide) ?_
  refine lw_arg (k := 3) d_law_823 d_law_824 d_law_825 d_law_826 d_law_827 (by decide) hI hL (by decide) ?_
  refine lw_callX [.int (xs (I + 1)), .int (xs (I + 2)), .int (xs (I + 3))] d_law_828 ml_law_93 rfl rfl (fun _ _ => rfl) (by decide) h1 (fun r M2 q1 => ?_)
  obtain ⟨rfl, q1⟩ := q1
  refine ⟨fun _ _ => rfl, Lw.sk (st2 := [.int w]) rfl ?_⟩
  refine lw_aload_2 d_law_831 ?_
  refine lw_arg (k := 1) d_law_832 d_law_833 d_law_834 d_law_835 d_law_836 (by decide) hI hL (by decide) ?_
  refine lw_arg (k := 2) d_law_837 d_law_838 d_law_839 d_law_840 d_law_841 (by decide) hI hL (by decide) ?_
  refine lw_arg (k := 3) d_law_842 d_law_843 d_law_844 d_law_845 d_law_846 (by decide) hI hL (by decide) ?_
  refine lw_callM [.int (xs (I + 1)), .int (xs (I + 2)), .int (xs (I + 3))] d_law_847 ml_law_96 rfl rfl (fun _ _ => rfl) (Nat.le_of_ble_eq_true rfl) h2 (fun r N2 q2 => ?_)
  obtain ⟨rfl, q2⟩ := q2
  refine ⟨fun _ _ => rfl, Lw.sk (st2 := [.int w, .int w]) rfl ?_⟩
  exact lw_eqi d_law_850 (by decide) (kk M2 N2 (h3 M2 N2 q1 q2))
theorem lw_c19 (hI : I + 7 ≤ L) (hL : L ≤ 3584) (hB : B < 2 ^ 27) (h : RX B M N) (kk : ∀ M2 N2 : ev_Mem, RX (B + 2000) M2 N2 → Lw L xs 1563 (nI I) [] M2 N2) : Lw L xs 855 (nI I) [] M N := by
  obtain ⟨v, hv, QX, QM, h1, h2, h3⟩ := (op_none h).oq
  obtain ⟨w, rfl⟩ := hv.i (by decide)
  refine lw_aload_1 d_law_855 ?_
  refine lw_callX [] d_law_856 ml_law_97 rfl rfl (fun _ _ => rfl) (by decide) h1 (fun r M2 q1 => ?_)
  obtain ⟨rfl, q1⟩ := q1
  refine ⟨fun _ _ => rfl, Lw.sk (st2 := [.int w]) rfl ?_⟩
  refine lw_aload_2 d_law_859 ?_
  refine lw_callM [] d_law_860 ml_law_100 rfl rfl (fun _ _ => rfl) (Nat.le_of_ble_eq_true rfl) h2 (fun r N2 q2 => ?_)
  obtain ⟨rfl, q2⟩ := q2
  refine ⟨fun _ _ => rfl, Lw.sk (st2 := [.int w, .int w]) rfl ?_⟩
  exact lw_eqi d_law_863 (by decide) (kk M2 N2 (h3 M2 N2 q1 q2))
theorem lw_c20 (hI : I + 7 ≤ L) (hL : L ≤ 3584) (hB : B < 2 ^ 27) (h : RX B M N) (kk : ∀ M2 N2 : ev_Mem, RX (B + 2000) M2 N2 → Lw L xs 1563 (nI I) [] M2 N2) : Lw L xs 868 (nI I) [] M N := by
  obtain ⟨v, hv, QX, QM, h1, h2, h3⟩ := (op_worst h).oq
  obtain ⟨w, rfl⟩ := hv.i (by decide)
  refine lw_aload_1 d_law_868 ?_
  refine lw_callX [] d_law_869 ml_law_101 rfl rfl (fun _ _ => rfl) (by decide) h1 (fun r M2 q1 => ?_)
  obtain ⟨rfl, q1⟩ := q1
  refine ⟨fun _ _ => rfl, Lw.sk (st2 := [.int w]) rfl ?_⟩
  refine lw_aload_2 d_law_872 ?_
  refine lw_callM [] d_law_873 ml_law_104 rfl rfl (fun _ _ => rfl) (Nat.le_of_ble_eq_true rfl) h2 (fun r N2 q2 => ?_)
  obtain ⟨rfl, q2⟩ := q2
  refine ⟨fun _ _ => rfl, Lw.sk (st2 := [.int w, .int w]) rfl ?_⟩
  exact lw_eqi d_law_876 (by decide) (kk M2 N2 (h3 M2 N2 q1 q2))
theorem lw_c21 (hI : I + 7 ≤ L) (hL : L ≤ 3584) (hB : B < 2 ^ 27) (h : RX B M N) (kk : ∀ M2 N2 : ev_Mem, RX (B + 2000) M2 N2 → Lw L xs 1563 (nI I) [] M2 N2) : Lw L xs 881 (nI I) [] M N := by
  obtain ⟨v, hv, QX, QM, h1, h2, h3⟩ := (op_few h ((if xs (I + 1) = 0 then 0 else 1))).oq
  obtain ⟨w, rfl⟩ := hv.i (by decide)
  refine lw_aload_1 d_law_881 ?_
  refine lw_arg (k := 1) d_law_882 d_law_883 d_law_884 d_law_885 d_law_886 (by decide) hI hL (by decide) ?_
  refine lw_bool d_law_887 d_law_890 d_law_891 d_law_894 (by decide) (by decide) ?_
  refine lw_callX [.int ((if xs (I + 1) = 0 then 0 else 1))] d_law_895 ml_law_105 rfl rfl (fun _ _ => rfl) (by decide) h1 (fun r M2 q1 => ?_)
  obtain ⟨rfl, q1⟩ := q1
  refine ⟨fun _ _ => rfl, Lw.sk (st2 := [.int w]) rfl ?_⟩
  refine lw_aload_2 d_law_898 ?_
  refine lw_arg (k := 1) d_law_899 d_law_900 d_law_901 d_law_902 d_law_903 (by decide) hI hL (by decide) ?_
  refine lw_bool d_law_904 d_law_907 d_law_908 d_law_911 (by decide) (by decide) ?_
  refine lw_callM [.int ((if xs (I + 1) = 0 then 0 else 1))] d_law_912 ml_law_109 rfl rfl (fun _ _ => rfl) (Nat.le_of_ble_eq_true rfl) h2 (fun r N2 q2 => ?_)
  obtain ⟨rfl, q2⟩ := q2
  refine ⟨fun _ _ => rfl, Lw.sk (st2 := [.int w, .int w]) rfl ?_⟩
  exact lw_eqi d_law_915 (by decide) (kk M2 N2 (h3 M2 N2 q1 q2))
theorem lw_c22 (hI : I + 7 ≤ L) (hL : L ≤ 3584) (hB : B < 2 ^ 27) (h : RX B M N) (kk : ∀ M2 N2 : ev_Mem, RX (B + 2000) M2 N2 → Lw L xs 1563 (nI I) [] M2 N2) : Lw L xs 920 (nI I) [] M N := by
  obtain ⟨v, hv, QX, QM, h1, h2, h3⟩ := (op_spare h).oq
  obtain ⟨w, rfl⟩ := hv.i (by decide)
  refine lw_aload_1 d_law_920 ?_
  refine lw_callX [] d_law_921 ml_law_110 rfl rfl (fun _ _ => rfl) (by decide) h1 (fun r M2 q1 => ?_)
  obtain ⟨rfl, q1⟩ := q1
  refine ⟨fun _ _ => rfl, Lw.sk (st2 := [.int w]) rfl ?_⟩
  refine lw_aload_2 d_law_924 ?_
  refine lw_callM [] d_law_925 ml_law_113 rfl rfl (fun _ _ => rfl) (Nat.le_of_ble_eq_true rfl) h2 (fun r N2 q2 => ?_)
  obtain ⟨rfl, q2⟩ := q2
  refine ⟨fun _ _ => rfl, Lw.sk (st2 := [.int w, .int w]) rfl ?_⟩
  exact lw_eqi d_law_928 (by decide) (kk M2 N2 (h3 M2 N2 q1 q2))
theorem lw_c23 (hI : I + 7 ≤ L) (hL : L ≤ 3584) (hB : B < 2 ^ 27) (h : RX B M N) (kk : ∀ M2 N2 : ev_Mem, RX (B + 2000) M2 N2 → Lw L xs 1563 (nI I) [] M2 N2) : Lw L xs 933 (nI I) [] M N := by
  obtain ⟨v, hv, QX, QM, h1, h2, h3⟩ := (op_now h (xs (I + 1))).oq
  obtain ⟨w, rfl⟩ := hv.i (by decide)
  refine lw_aload_1 d_law_933 ?_
  refine lw_arg (k := 1) d_law_934 d_law_935 d_law_936 d_law_937 d_law_938 (by decide) hI hL (by decide) ?_
  refine lw_callX [.int (xs (I + 1))] d_law_939 ml_law_114 rfl rfl (fun _ _ => rfl) (by decide) h1 (fun r M2 q1 => ?_)
  obtain ⟨rfl, q1⟩ := q1
  refine ⟨fun _ _ => rfl, Lw.sk (st2 := [.int w]) rfl ?_⟩
  refine lw_aload_2 d_law_942 ?_
  refine lw_arg (k := 1) d_law_943 d_law_944 d_law_945 d_law_946 d_law_947 (by decide) hI hL (by decide) ?_
  refine lw_callM [.int (xs (I + 1))] d_law_948 ml_law_117 rfl rfl (fun _ _ => rfl) (Nat.le_of_ble_eq_true rfl) h2 (fun r N2 q2 => ?_)
  obtain ⟨rfl, q2⟩ := q2
  refine ⟨fun _ _ => rfl, Lw.sk (st2 := [.int w, .int w]) rfl ?_⟩
  exact lw_eqi d_law_951 (by decide) (kk M2 N2 (h3 M2 N2 q1 q2))
theorem lw_c24 (hI : I + 7 ≤ L) (hL : L ≤ 3584) (hB : B < 2 ^ 27) (h : RX B M N) (kk : ∀ M2 N2 : ev_Mem, RX (B + 2000) M2 N2 → Lw L xs 1563 (nI I) [] M2 N2) : Lw L xs 956 (nI I) [] M N := by
  obtain ⟨v, hv, QX, QM, h1, h2, h3⟩ := (op_exact h (xs (I + 1))).oq
  obtain ⟨w, rfl⟩ := hv.i (by decide)
  refine lw_aload_1 d_law_956 ?_
  refine lw_arg (k := 1) d_law_957 d_law_958 d_law_959 d_law_960 d_law_961 (by decide) hI hL (by decide) ?_
  refine lw_callX [.int (xs (I + 1))] d_law_962 ml_law_118 rfl rfl (fun _ _ => rfl) (by decide) h1 (fun r M2 q1 => ?_)
  obtain ⟨rfl, q1⟩ := q1
  refine ⟨fun _ _ => rfl, Lw.sk (st2 := [.int w]) rfl ?_⟩
  refine lw_aload_2 d_law_965 ?_
  refine lw_arg (k := 1) d_law_966 d_law_967 d_law_968 d_law_969 d_law_970 (by decide) hI hL (by decide) ?_
  refine lw_callM [.int (xs (I + 1))] d_law_971 ml_law_121 rfl rfl (fun _ _ => rfl) (Nat.le_of_ble_eq_true rfl) h2 (fun r N2 q2 => ?_)
  obtain ⟨rfl, q2⟩ := q2
  refine ⟨fun _ _ => rfl, Lw.sk (st2 := [.int w, .int w]) rfl ?_⟩
  exact lw_eqi d_law_974 (by decide) (kk M2 N2 (h3 M2 N2 q1 q2))
theorem lw_c25 (hI : I + 7 ≤ L) (hL : L ≤ 3584) (hB : B < 2 ^ 27) (h : RX B M N) (kk : ∀ M2 N2 : ev_Mem, RX (B + 2000) M2 N2 → Lw L xs 1563 (nI I) [] M2 N2) : Lw L xs 979 (nI I) [] M N := by
  obtain ⟨v, hv, QX, QM, h1, h2, h3⟩ := (op_longer h).oq
  obtain ⟨w, rfl⟩ := hv.i (by decide)
  refine lw_aload_1 d_law_979 ?_
  refine lw_callX [] d_law_980 ml_law_122 rfl rfl (fun _ _ => rfl) (by decide) h1 (fun r M2 q1 => ?_)
  obtain ⟨rfl, q1⟩ := q1
  refine ⟨fun _ _ => rfl, Lw.sk (st2 := [.int w]) rfl ?_⟩
  refine lw_aload_2 d_law_983 ?_
  refine lw_callM [] d_law_984 ml_law_125 rfl rfl (fun _ _ => rfl) (Nat.le_of_ble_eq_true rfl) h2 (fun r N2 q2 => ?_)
  obtain ⟨rfl, q2⟩ := q2
  refine ⟨fun _ _ => rfl, Lw.sk (st2 := [.int w, .int w]) rfl ?_⟩
  exact lw_eqi d_law_987 (by decide) (kk M2 N2 (h3 M2 N2 q1 q2))
theorem lw_c26 (hI : I + 7 ≤ L) (hL : L ≤ 3584) (hB : B < 2 ^ 27) (h : RX B M N) (kk : ∀ M2 N2 : ev_Mem, RX (B + 2000) M2 N2 → Lw L xs 1563 (nI I) [] M2 N2) : Lw L xs 992 (nI I) [] M N := by
  obtain ⟨v, hv, QX, QM, h1, h2, h3⟩ := (op_law h).oq
  obtain ⟨w, rfl⟩ := hv.i (by decide)
  refine lw_aload_1 d_law_992 ?_
  refine lw_callX [] d_law_993 ml_law_126 rfl rfl (fun _ _ => rfl) (by decide) h1 (fun r M2 q1 => ?_)
  obtain ⟨rfl, q1⟩ := q1
  refine ⟨fun _ _ => rfl, Lw.sk (st2 := [.int w]) rfl ?_⟩
  refine lw_aload_2 d_law_996 ?_
  refine lw_callM [] d_law_997 ml_law_129 rfl rfl (fun _ _ => rfl) (Nat.le_of_ble_eq_true rfl) h2 (fun r N2 q2 => ?_)
  obtain ⟨rfl, q2⟩ := q2
  refine ⟨fun _ _ => rfl, Lw.sk (st2 := [.int w, .int w]) rfl ?_⟩
  exact lw_eqi d_law_1000 (by decide) (kk M2 N2 (h3 M2 N2 q1 q2))
theorem lw_c27 (hI : I + 7 ≤ L) (hL : L ≤ 3584) (hB : B < 2 ^ 27) (h : RX B M N) (kk : ∀ M2 N2 : ev_Mem, RX (B + 2000) M2 N2 → Lw L xs 1563 (nI I) [] M2 N2) : Lw L xs 1005 (nI I) [] M N := by
  obtain ⟨v, hv, QX, QM, h1, h2, h3⟩ := (op_stiffs h (xs (I + 1)) (xs (I + 2))).oq
  obtain ⟨w, rfl⟩ := hv.i (by decide)
  refine lw_aload_1 d_law_1005 ?_
  refine lw_arg (k := 1) d_law_1006 d_law_1007 d_law_1008 d_law_1009 d_law_1010 (by decide) hI hL (by decide) ?_
  refine lw_arg (k := 2) d_law_1011 d_law_1012 d_law_1013 d_law_1014 d_law_1015 (by decide) hI hL (by decide) ?_
  refine lw_callX [.int (xs (I + 1)), .int (xs (I + 2))] d_law_1016 ml_law_130 rfl rfl (fun _ _ => rfl) (by decide) h1 (fun r M2 q1 => ?_)
  obtain ⟨rfl, q1⟩ := q1
  refine ⟨fun _ _ => rfl, Lw.sk (st2 := [.int w]) rfl ?_⟩
  refine lw_aload_2 d_law_1019 ?_
  refine lw_arg (k := 1) d_law_1020 d_law_1021 d_law_1022 d_law_1023 d_law_1024 (by decide) hI hL (by decide) ?_
  refine lw_arg (k := 2) d_law_1025 d_law_1026 d_law_1027 d_law_1028 d_law_1029 (by decide) hI hL (by decide) ?_
  refine lw_callM [.int (xs (I + 1)), .int (xs (I + 2))] d_law_1030 ml_law_133 rfl rfl (fun _ _ => rfl) (Nat.le_of_ble_eq_true rfl) h2 (fun r N2 q2 => ?_)
  obtain ⟨rfl, q2⟩ := q2
  refine ⟨fun _ _ => rfl, Lw.sk (st2 := [.int w, .int w]) rfl ?_⟩
  exact lw_eqi d_law_1033 (by decide) (kk M2 N2 (h3 M2 N2 q1 q2))
theorem lw_c28 (hI : I + 7 ≤ L) (hL : L ≤ 3584) (hB : B < 2 ^ 27) (h : RX B M N) (kk : ∀ M2 N2 : ev_Mem, RX (B + 2000) M2 N2 → Lw L xs 1563 (nI I) [] M2 N2) : Lw L xs 1038 (nI I) [] M N := by
  obtain ⟨v, hv, QX, QM, h1, h2, h3⟩ := (op_notices h (xs (I + 1)) ((if xs (I + 2) = 0 then 0 else 1))).oq
  obtain ⟨w, rfl⟩ := hv.j (by decide)
  refine lw_aload_1 d_law_1038 ?_
  refine lw_arg (k := 1) d_law_1039 d_law_1040 d_law_1041 d_law_1042 d_law_1043 (by decide) hI hL (by decide) ?_
  refine lw_arg (k := 2) d_law_1044 d_law_1045 d_law_1046 d_law_1047 d_law_1048 (by decide) hI hL (by decide) ?_
  refine lw_bool d_law_1049 d_law_1052 d_law_1053 d_law_1056 (by decide) (by decide) ?_
  refine lw_callX [.int (xs (I + 1)), .int ((if xs (I + 2) = 0 then 0 else 1))] d_law_1057 ml_law_134 rfl rfl (fun _ _ => rfl) (by decide) h1 (fun r M2 q1 => ?_)
  obtain ⟨rfl, q1⟩ := q1
  refine ⟨fun _ _ => rfl, Lw.sk (st2 := [.long w]) rfl ?_⟩
  refine lw_aload_2 d_law_1060 ?_
  refine lw_arg (k := 1) d_law_1061 d_law_1062 d_law_1063 d_law_1064 d_law_1065 (by decide) hI hL (by decide) ?_
  refine lw_arg (k := 2) d_law_1066 d_law_1067 d_law_1068 d_law_1069 d_law_1070 (by decide) hI hL (by decide) ?_
  refine lw_bool d_law_1071 d_law_1074 d_law_1075 d_law_1078 (by decide) (by decide) ?_
  refine lw_callM [.int (xs (I + 1)), .int ((if xs (I + 2) = 0 then 0 else 1))] d_law_1079 ml_law_138 rfl rfl (fun _ _ => rfl) (Nat.le_of_ble_eq_true rfl) h2 (fun r N2 q2 => ?_)
  obtain ⟨rfl, q2⟩ := q2
  refine ⟨fun _ _ => rfl, Lw.sk (st2 := [.long w, .long w]) rfl ?_⟩
  exact lw_eql d_law_1082 d_law_1083 (by decide) (kk M2 N2 (h3 M2 N2 q1 q2))
theorem lw_c29 (hI : I + 7 ≤ L) (hL : L ≤ 3584) (hB : B < 2 ^ 27) (h : RX B M N) (kk : ∀ M2 N2 : ev_Mem, RX (B + 2000) M2 N2 → Lw L xs 1563 (nI I) [] M2 N2) : Lw L xs 1088 (nI I) [] M N := by
  obtain ⟨v, hv, QX, QM, h1, h2, h3⟩ := (op_lines h (xs (I + 1))).oq
  obtain ⟨w, rfl⟩ := hv.i (by decide)
  refine lw_aload_1 d_law_1088 ?_
  refine lw_arg (k := 1) d_law_1089 d_law_1090 d_law_1091 d_law_1092 d_law_1093 (by decide) hI hL (by decide) ?_
  refine lw_callX [.int (xs (I + 1))] d_law_1094 ml_law_139 rfl rfl (fun _ _ => rfl) (by decide) h1 (fun r M2 q1 => ?_)
  obtain ⟨rfl, q1⟩ := q1
  refine ⟨fun _ _ => rfl, Lw.sk (st2 := [.int w]) rfl ?_⟩
  refine lw_aload_2 d_law_1097 ?_
  refine lw_arg (k := 1) d_law_1098 d_law_1099 d_law_1100 d_law_1101 d_law_1102 (by decide) hI hL (by decide) ?_
  refine lw_callM [.int (xs (I + 1))] d_law_1103 ml_law_142 rfl rfl (fun _ _ => rfl) (Nat.le_of_ble_eq_true rfl) h2 (fun r N2 q2 => ?_)
  obtain ⟨rfl, q2⟩ := q2
  refine ⟨fun _ _ => rfl, Lw.sk (st2 := [.int w, .int w]) rfl ?_⟩
  exact lw_eqi d_law_1106 (by decide) (kk M2 N2 (h3 M2 N2 q1 q2))
theorem lw_c30 (hI : I + 7 ≤ L) (hL : L ≤ 3584) (hB : B < 2 ^ 27) (h : RX B M N) (kk : ∀ M2 N2 : ev_Mem, RX (B + 2000) M2 N2 → Lw L xs 1563 (nI I) [] M2 N2) : Lw L xs 1111 (nI I) [] M N := by
  obtain ⟨v, hv, QX, QM, h1, h2, h3⟩ := (op_held h).oq
  obtain ⟨w, rfl⟩ := hv.i (by decide)
  refine lw_aload_1 d_law_1111 ?_
  refine lw_callX [] d_law_1112 ml_law_143 rfl rfl (fun _ _ => rfl) (by decide) h1 (fun r M2 q1 => ?_)
  obtain ⟨rfl, q1⟩ := q1
  refine ⟨fun _ _ => rfl, Lw.sk (st2 := [.int w]) rfl ?_⟩
  refine lw_aload_2 d_law_1115 ?_
  refine lw_callM [] d_law_1116 ml_law_146 rfl rfl (fun _ _ => rfl) (Nat.le_of_ble_eq_true rfl) h2 (fun r N2 q2 => ?_)
  obtain ⟨rfl, q2⟩ := q2
  refine ⟨fun _ _ => rfl, Lw.sk (st2 := [.int w, .int w]) rfl ?_⟩
  exact lw_eqi d_law_1119 (by decide) (kk M2 N2 (h3 M2 N2 q1 q2))
theorem lw_c31 (hI : I + 7 ≤ L) (hL : L ≤ 3584) (hB : B < 2 ^ 27) (h : RX B M N) (kk : ∀ M2 N2 : ev_Mem, RX (B + 2000) M2 N2 → Lw L xs 1563 (nI I) [] M2 N2) : Lw L xs 1124 (nI I) [] M N := by
  obtain ⟨v, hv, QX, QM, h1, h2, h3⟩ := (op_page h (xs (I + 1))).oq
  obtain ⟨w, rfl⟩ := hv.i (by decide)
  refine lw_aload_1 d_law_1124 ?_
  refine lw_arg (k := 1) d_law_1125 d_law_1126 d_law_1127 d_law_1128 d_law_1129 (by decide) hI hL (by decide) ?_
  refine lw_callX [.int (xs (I + 1))] d_law_1130 ml_law_147 rfl rfl (fun _ _ => rfl) (by decide) h1 (fun r M2 q1 => ?_)
  obtain ⟨rfl, q1⟩ := q1
  refine ⟨fun _ _ => rfl, Lw.sk (st2 := [.int w]) rfl ?_⟩
  refine lw_aload_2 d_law_1133 ?_
  refine lw_arg (k := 1) d_law_1134 d_law_1135 d_law_1136 d_law_1137 d_law_1138 (by decide) hI hL (by decide) ?_
  refine lw_callM [.int (xs (I + 1))] d_law_1139 ml_law_150 rfl rfl (fun _ _ => rfl) (Nat.le_of_ble_eq_true rfl) h2 (fun r N2 q2 => ?_)
  obtain ⟨rfl, q2⟩ := q2
  refine ⟨fun _ _ => rfl, Lw.sk (st2 := [.int w, .int w]) rfl ?_⟩
  exact lw_eqi d_law_1142 (by decide) (kk M2 N2 (h3 M2 N2 q1 q2))
theorem lw_c32 (hI : I + 7 ≤ L) (hL : L ≤ 3584) (hB : B < 2 ^ 27) (h : RX B M N) (kk : ∀ M2 N2 : ev_Mem, RX (B + 2000) M2 N2 → Lw L xs 1563 (nI I) [] M2 N2) : Lw L xs 1147 (nI I) [] M N := by
  obtain ⟨v, hv, QX, QM, h1, h2, h3⟩ := (op_wrote h (xs (I + 1))).oq
  obtain ⟨w, rfl⟩ := hv.i (by decide)
  refine lw_aload_1 d_law_1147 ?_
  refine lw_arg (k := 1) d_law_1148 d_law_1149 d_law_1150 d_law_1151 d_law_1152 (by decide) hI hL (by decide) ?_
  refine lw_callX [.int (xs (I + 1))] d_law_1153 ml_law_151 rfl rfl (fun _ _ => rfl) (by decide) h1 (fun r M2 q1 => ?_)
  obtain ⟨rfl, q1⟩ := q1
  refine ⟨fun _ _ => rfl, Lw.sk (st2 := [.int w]) rfl ?_⟩
  refine lw_aload_2 d_law_1156 ?_
  refine lw_arg (k := 1) d_law_1157 d_law_1158 d_law_1159 d_law_1160 d_law_1161 (by decide) hI hL (by decide) ?_
  refine lw_callM [.int (xs (I + 1))] d_law_1162 ml_law_154 rfl rfl (fun _ _ => rfl) (Nat.le_of_ble_eq_true rfl) h2 (fun r N2 q2 => ?_)
  obtain ⟨rfl, q2⟩ := q2
  refine ⟨fun _ _ => rfl, Lw.sk (st2 := [.int w, .int w]) rfl ?_⟩
  exact lw_eqi d_law_1165 (by decide) (kk M2 N2 (h3 M2 N2 q1 q2))
theorem lw_c33 (hI : I + 7 ≤ L) (hL : L ≤ 3584) (hB : B < 2 ^ 27) (h : RX B M N) (kk : ∀ M2 N2 : ev_Mem, RX (B + 2000) M2 N2 → Lw L xs 1563 (nI I) [] M2 N2) : Lw L xs 1170 (nI I) [] M N := by
  obtain ⟨v, hv, QX, QM, h1, h2, h3⟩ := (op_fewest h).oq
  obtain ⟨w, rfl⟩ := hv.i (by decide)
  refine lw_aload_1 d_law_1170 ?_
  refine lw_callX [] d_law_1171 ml_law_155 rfl rfl (fun _ _ => rfl) (by decide) h1 (fun r M2 q1 => ?_)
  obtain ⟨rfl, q1⟩ := q1
  refine ⟨fun _ _ => rfl, Lw.sk (st2 := [.int w]) rfl ?_⟩
  refine lw_aload_2 d_law_1174 ?_
  refine lw_callM [] d_law_1175 ml_law_158 rfl rfl (fun _ _ => rfl) (Nat.le_of_ble_eq_true rfl) h2 (fun r N2 q2 => ?_)
  obtain ⟨rfl, q2⟩ := q2
  refine ⟨fun _ _ => rfl, Lw.sk (st2 := [.int w, .int w]) rfl ?_⟩
  exact lw_eqi d_law_1178 (by decide) (kk M2 N2 (h3 M2 N2 q1 q2))
theorem lw_c34 (hI : I + 7 ≤ L) (hL : L ≤ 3584) (hB : B < 2 ^ 27) (h : RX B M N) (kk : ∀ M2 N2 : ev_Mem, RX (B + 2000) M2 N2 → Lw L xs 1563 (nI I) [] M2 N2) : Lw L xs 1183 (nI I) [] M N := by
  obtain ⟨v, hv, QX, QM, h1, h2, h3⟩ := (op_letters h (xs (I + 1))).oq
  obtain ⟨w, rfl⟩ := hv.i (by decide)
  refine lw_aload_1 d_law_1183 ?_
  refine lw_arg (k := 1) d_law_1184 d_law_1185 d_law_1186 d_law_1187 d_law_1188 (by decide) hI hL (by decide) ?_
  refine lw_callX [.int (xs (I + 1))] d_law_1189 ml_law_159 rfl rfl (fun _ _ => rfl) (by decide) h1 (fun r M2 q1 => ?_)
  obtain ⟨rfl, q1⟩ := q1
  refine ⟨fun _ _ => rfl, Lw.sk (st2 := [.int w]) rfl ?_⟩
  refine lw_aload_2 d_law_1192 ?_
  refine lw_arg (k := 1) d_law_1193 d_law_1194 d_law_1195 d_law_1196 d_law_1197 (by decide) hI hL (by decide) ?_
  refine lw_callM [.int (xs (I + 1))] d_law_1198 ml_law_162 rfl rfl (fun _ _ => rfl) (Nat.le_of_ble_eq_true rfl) h2 (fun r N2 q2 => ?_)
  obtain ⟨rfl, q2⟩ := q2
  refine ⟨fun _ _ => rfl, Lw.sk (st2 := [.int w, .int w]) rfl ?_⟩
  exact lw_eqi d_law_1201 (by decide) (kk M2 N2 (h3 M2 N2 q1 q2))
theorem lw_c35 (hI : I + 7 ≤ L) (hL : L ≤ 3584) (hB : B < 2 ^ 27) (h : RX B M N) (kk : ∀ M2 N2 : ev_Mem, RX (B + 2000) M2 N2 → Lw L xs 1563 (nI I) [] M2 N2) : Lw L xs 1206 (nI I) [] M N := by
  obtain ⟨v, hv, QX, QM, h1, h2, h3⟩ := (op_lot h (xs (I + 1))).oq
  obtain ⟨w, rfl⟩ := hv.i (by decide)
  refine lw_aload_1 d_law_1206 ?_
  refine lw_arg (k := 1) d_law_1207 d_law_1208 d_law_1209 d_law_1210 d_law_1211 (by decide) hI hL (by decide) ?_
  refine lw_callX [.int (xs (I + 1))] d_law_1212 ml_law_163 rfl rfl (fun _ _ => rfl) (by decide) h1 (fun r M2 q1 => ?_)
  obtain ⟨rfl, q1⟩ := q1
  refine ⟨fun _ _ => rfl, Lw.sk (st2 := [.int w]) rfl ?_⟩
  refine lw_aload_2 d_law_1215 ?_
  refine lw_arg (k := 1) d_law_1216 d_law_1217 d_law_1218 d_law_1219 d_law_1220 (by decide) hI hL (by decide) ?_
  refine lw_callM [.int (xs (I + 1))] d_law_1221 ml_law_166 rfl rfl (fun _ _ => rfl) (Nat.le_of_ble_eq_true rfl) h2 (fun r N2 q2 => ?_)
  obtain ⟨rfl, q2⟩ := q2
  refine ⟨fun _ _ => rfl, Lw.sk (st2 := [.int w, .int w]) rfl ?_⟩
  exact lw_eqi d_law_1224 (by decide) (kk M2 N2 (h3 M2 N2 q1 q2))
theorem lw_c36 (hI : I + 7 ≤ L) (hL : L ≤ 3584) (hB : B < 2 ^ 27) (h : RX B M N) (kk : ∀ M2 N2 : ev_Mem, RX (B + 2000) M2 N2 → Lw L xs 1563 (nI I) [] M2 N2) : Lw L xs 1229 (nI I) [] M N := by
  obtain ⟨v, hv, QX, QM, h1, h2, h3⟩ := (op_wire h (xs (I + 1))).oq
  obtain ⟨w, rfl⟩ := hv.i (by decide)
  refine lw_aload_1 d_law_1229 ?_
  refine lw_arg (k := 1) d_law_1230 d_law_1231 d_law_1232 d_law_1233 d_law_1234 (by decide) hI hL (by decide) ?_
  refine lw_callX [.int (xs (I + 1))] d_law_1235 ml_law_167 rfl rfl (fun _ _ => rfl) (by decide) h1 (fun r M2 q1 => ?_)
  obtain ⟨rfl, q1⟩ := q1
  refine ⟨fun _ _ => rfl, Lw.sk (st2 := [.int w]) rfl ?_⟩
  refine lw_aload_2 d_law_1238 ?_
  refine lw_arg (k := 1) d_law_1239 d_law_1240 d_law_1241 d_law_1242 d_law_1243 (by decide) hI hL (by decide) ?_
  refine lw_callM [.int (xs (I + 1))] d_law_1244 ml_law_170 rfl rfl (fun _ _ => rfl) (Nat.le_of_ble_eq_true rfl) h2 (fun r N2 q2 => ?_)
  obtain ⟨rfl, q2⟩ := q2
  refine ⟨fun _ _ => rfl, Lw.sk (st2 := [.int w, .int w]) rfl ?_⟩
  exact lw_eqi d_law_1247 (by decide) (kk M2 N2 (h3 M2 N2 q1 q2))
theorem lw_c37 (hI : I + 7 ≤ L) (hL : L ≤ 3584) (hB : B < 2 ^ 27) (h : RX B M N) (kk : ∀ M2 N2 : ev_Mem, RX (B + 2000) M2 N2 → Lw L xs 1563 (nI I) [] M2 N2) : Lw L xs 1252 (nI I) [] M N := by
  obtain ⟨v, hv, QX, QM, h1, h2, h3⟩ := (op_worth h (xs (I + 1))).oq
  obtain ⟨w, rfl⟩ := hv.i (by decide)
  refine lw_aload_1 d_law_1252 ?_
  refine lw_arg (k := 1) d_law_1253 d_law_1254 d_law_1255 d_law_1256 d_law_1257 (by decide) hI hL (by decide) ?_
  refine lw_callX [.int (xs (I + 1))] d_law_1258 ml_law_171 rfl rfl (fun _ _ => rfl) (by decide) h1 (fun r M2 q1 => ?_)
  obtain ⟨rfl, q1⟩ := q1
  refine ⟨fun _ _ => rfl, Lw.sk (st2 := [.int w]) rfl ?_⟩
  refine lw_aload_2 d_law_1261 ?_
  refine lw_arg (k := 1) d_law_1262 d_law_1263 d_law_1264 d_law_1265 d_law_1266 (by decide) hI hL (by decide) ?_
  refine lw_callM [.int (xs (I + 1))] d_law_1267 ml_law_174 rfl rfl (fun _ _ => rfl) (Nat.le_of_ble_eq_true rfl) h2 (fun r N2 q2 => ?_)
  obtain ⟨rfl, q2⟩ := q2
  refine ⟨fun _ _ => rfl, Lw.sk (st2 := [.int w, .int w]) rfl ?_⟩
  exact lw_eqi d_law_1270 (by decide) (kk M2 N2 (h3 M2 N2 q1 q2))
theorem lw_c38 (hI : I + 7 ≤ L) (hL : L ≤ 3584) (hB : B < 2 ^ 27) (h : RX B M N) (kk : ∀ M2 N2 : ev_Mem, RX (B + 2000) M2 N2 → Lw L xs 1563 (nI I) [] M2 N2) : Lw L xs 1275 (nI I) [] M N := by
  obtain ⟨v, hv, QX, QM, h1, h2, h3⟩ := (op_line h (xs (I + 1)) ((if xs (I + 2) = 0 then 0 else 1))).oq
  obtain ⟨w, rfl⟩ := hv.i (by decide)
  refine lw_aload_1 d_law_1275 ?_
  refine lw_arg (k := 1) d_law_1276 d_law_1277 d_law_1278 d_law_1279 d_law_1280 (by decide) hI hL (by decide) ?_
  refine lw_arg (k := 2) d_law_1281 d_law_1282 d_law_1283 d_law_1284 d_law_1285 (by decide) hI hL (by decide) ?_
  refine lw_bool d_law_1286 d_law_1289 d_law_1290 d_law_1293 (by decide) (by decide) ?_
  refine lw_callX [.int (xs (I + 1)), .int ((if xs (I + 2) = 0 then 0 else 1))] d_law_1294 ml_law_175 rfl rfl (fun _ _ => rfl) (by decide) h1 (fun r M2 q1 => ?_)
  obtain ⟨rfl, q1⟩ := q1
  refine ⟨fun _ _ => rfl, Lw.sk (st2 := [.int w]) rfl ?_⟩
  refine lw_aload_2 d_law_1297 ?_
  refine lw_arg (k := 1) d_law_1298 d_law_1299 d_law_1300 d_law_1301 d_law_1302 (by decide) hI hL (by decide) ?_
  refine lw_arg (k := 2) d_law_1303 d_law_1304 d_law_1305 d_law_1306 d_law_1307 (by decide) hI hL (by decide) ?_
  refine lw_bool d_law_1308 d_law_1311 d_law_1312 d_law_1315 (by decide) (by decide) ?_
  refine lw_callM [.int (xs (I + 1)), .int ((if xs (I + 2) = 0 then 0 else 1))] d_law_1316 ml_law_179 rfl rfl (fun _ _ => rfl) (Nat.le_of_ble_eq_true rfl) h2 (fun r N2 q2 => ?_)
  obtain ⟨rfl, q2⟩ := q2
  refine ⟨fun _ _ => rfl, Lw.sk (st2 := [.int w, .int w]) rfl ?_⟩
  exact lw_eqi d_law_1319 (by decide) (kk M2 N2 (h3 M2 N2 q1 q2))
theorem lw_c39 (hI : I + 7 ≤ L) (hL : L ≤ 3584) (hB : B < 2 ^ 27) (h : RX B M N) (kk : ∀ M2 N2 : ev_Mem, RX (B + 2000) M2 N2 → Lw L xs 1563 (nI I) [] M2 N2) : Lw L xs 1324 (nI I) [] M N := by
  obtain ⟨v, hv, QX, QM, h1, h2, h3⟩ := (op_all h).oq
  obtain ⟨w, rfl⟩ := hv.i (by decide)
  refine lw_aload_1 d_law_1324 ?_
  refine lw_callX [] d_law_1325 ml_law_180 rfl rfl (fun _ _ => rfl) (by decide) h1 (fun r M2 q1 => ?_)
  obtain ⟨rfl, q1⟩ := q1
  refine ⟨fun _ _ => rfl, Lw.sk (st2 := [.int w]) rfl ?_⟩
  refine lw_aload_2 d_law_1328 ?_
  refine lw_callM [] d_law_1329 ml_law_183 rfl rfl (fun _ _ => rfl) (Nat.le_of_ble_eq_true rfl) h2 (fun r N2 q2 => ?_)
  obtain ⟨rfl, q2⟩ := q2
  refine ⟨fun _ _ => rfl, Lw.sk (st2 := [.int w, .int w]) rfl ?_⟩
  exact lw_eqi d_law_1332 (by decide) (kk M2 N2 (h3 M2 N2 q1 q2))
theorem lw_c40 (hI : I + 7 ≤ L) (hL : L ≤ 3584) (hB : B < 2 ^ 27) (h : RX B M N) (kk : ∀ M2 N2 : ev_Mem, RX (B + 2000) M2 N2 → Lw L xs 1563 (nI I) [] M2 N2) : Lw L xs 1337 (nI I) [] M N := by
  obtain ⟨v, hv, QX, QM, h1, h2, h3⟩ := (op_senses h).oq
  obtain ⟨w, rfl⟩ := hv.i (by decide)
  refine lw_aload_1 d_law_1337 ?_
  refine lw_callX [] d_law_1338 ml_law_184 rfl rfl (fun _ _ => rfl) (by decide) h1 (fun r M2 q1 => ?_)
  obtain ⟨rfl, q1⟩ := q1
  refine ⟨fun _ _ => rfl, Lw.sk (st2 := [.int w]) rfl ?_⟩
  refine lw_aload_2 d_law_1341 ?_
  refine lw_callM [] d_law_1342 ml_law_187 rfl rfl (fun _ _ => rfl) (Nat.le_of_ble_eq_true rfl) h2 (fun r N2 q2 => ?_)
  obtain ⟨rfl, q2⟩ := q2
  refine ⟨fun _ _ => rfl, Lw.sk (st2 := [.int w, .int w]) rfl ?_⟩
  exact lw_eqi d_law_1345 (by decide) (kk M2 N2 (h3 M2 N2 q1 q2))
theorem lw_c41 (hI : I + 7 ≤ L) (hL : L ≤ 3584) (hB : B < 2 ^ 27) (h : RX B M N) (kk : ∀ M2 N2 : ev_Mem, RX (B + 2000) M2 N2 → Lw L xs 1563 (nI I) [] M2 N2) : Lw L xs 1350 (nI I) [] M N := by
  obtain ⟨v, hv, QX, QM, h1, h2, h3⟩ := op_report h
  obtain ⟨w, rfl⟩ := hv.i (by decide)
  refine lw_aload_1 d_law_1350 ?_
  refine lw_callX [] d_law_1351 ml_law_188 rfl rfl (fun _ _ => rfl) (by decide) h1 (fun r M2 q1 => ?_)
  obtain ⟨rfl, q1⟩ := q1
  refine ⟨fun _ _ => rfl, Lw.sk (st2 := [.int w]) rfl ?_⟩
  refine lw_aload_2 d_law_1354 ?_
  refine lw_callM [] d_law_1355 ml_law_191 rfl rfl (fun _ _ => rfl) (Nat.le_of_ble_eq_true rfl) h2 (fun r N2 q2 => ?_)
  obtain ⟨rfl, q2⟩ := q2
  refine ⟨fun _ _ => rfl, Lw.sk (st2 := [.int w, .int w]) rfl ?_⟩
  exact lw_eqi d_law_1358 (by decide) (kk M2 N2 (h3 M2 N2 q1 q2))
theorem lw_c42 (hI : I + 7 ≤ L) (hL : L ≤ 3584) (hB : B < 2 ^ 27) (h : RX B M N) (kk : ∀ M2 N2 : ev_Mem, RX (B + 2000) M2 N2 → Lw L xs 1563 (nI I) [] M2 N2) : Lw L xs 1363 (nI I) [] M N := by
  obtain ⟨v, hv, QX, QM, h1, h2, h3⟩ := (op_clear h).oq
  obtain ⟨w, rfl⟩ := hv.i (by decide)
  refine lw_aload_1 d_law_1363 ?_
  refine lw_callX [] d_law_1364 ml_law_192 rfl rfl (fun _ _ => rfl) (by decide) h1 (fun r M2 q1 => ?_)
  obtain ⟨rfl, q1⟩ := q1
  refine ⟨fun _ _ => rfl, Lw.sk (st2 := [.int w]) rfl ?_⟩
  refine lw_aload_2 d_law_1367 ?_
  refine lw_callM [] d_law_1368 ml_law_195 rfl rfl (fun _ _ => rfl) (Nat.le_of_ble_eq_true rfl) h2 (fun r N2 q2 => ?_)
  obtain ⟨rfl, q2⟩ := q2
  refine ⟨fun _ _ => rfl, Lw.sk (st2 := [.int w, .int w]) rfl ?_⟩
  exact lw_eqi d_law_1371 (by decide) (kk M2 N2 (h3 M2 N2 q1 q2))
theorem lw_c43 (hI : I + 7 ≤ L) (hL : L ≤ 3584) (hB : B < 2 ^ 27) (h : RX B M N) (kk : ∀ M2 N2 : ev_Mem, RX (B + 2000) M2 N2 → Lw L xs 1563 (nI I) [] M2 N2) : Lw L xs 1376 (nI I) [] M N := by
  obtain ⟨v, hv, QX, QM, h1, h2, h3⟩ := (op_meant h (xs (I + 1))).oq
  obtain ⟨w, rfl⟩ := hv.i (by decide)
  refine lw_aload_1 d_law_1376 ?_
  refine lw_arg (k := 1) d_law_1377 d_law_1378 d_law_1379 d_law_1380 d_law_1381 (by decide) hI hL (by decide) ?_
  refine lw_callX [.int (xs (I + 1))] d_law_1382 ml_law_196 rfl rfl (fun _ _ => rfl) (by decide) h1 (fun r M2 q1 => ?_)
  obtain ⟨rfl, q1⟩ := q1
  refine ⟨fun _ _ => rfl, Lw.sk (st2 := [.int w]) rfl ?_⟩
  refine lw_aload_2 d_law_1385 ?_
  refine lw_arg (k := 1) d_law_1386 d_law_1387 d_law_1388 d_law_1389 d_law_1390 (by decide) hI hL (by decide) ?_
  refine lw_callM [.int (xs (I + 1))] d_law_1391 ml_law_199 rfl rfl (fun _ _ => rfl) (Nat.le_of_ble_eq_true rfl) h2 (fun r N2 q2 => ?_)
  obtain ⟨rfl, q2⟩ := q2
  refine ⟨fun _ _ => rfl, Lw.sk (st2 := [.int w, .int w]) rfl ?_⟩
  exact lw_eqi d_law_1394 (by decide) (kk M2 N2 (h3 M2 N2 q1 q2))
theorem lw_c44 (hI : I + 7 ≤ L) (hL : L ≤ 3584) (hB : B < 2 ^ 27) (h : RX B M N) (kk : ∀ M2 N2 : ev_Mem, RX (B + 2000) M2 N2 → Lw L xs 1563 (nI I) [] M2 N2) : Lw L xs 1399 (nI I) [] M N := by
  obtain ⟨v, hv, QX, QM, h1, h2, h3⟩ := (op_fits h).oq
  obtain ⟨w, rfl⟩ := hv.i (by decide)
  refine lw_aload_1 d_law_1399 ?_
  refine lw_callX [] d_law_1400 ml_law_200 rfl rfl (fun _ _ => rfl) (by decide) h1 (fun r M2 q1 => ?_)
  obtain ⟨rfl, q1⟩ := q1
  refine ⟨fun _ _ => rfl, Lw.sk (st2 := [.int w]) rfl ?_⟩
  refine lw_aload_2 d_law_1403 ?_
  refine lw_callM [] d_law_1404 ml_law_203 rfl rfl (fun _ _ => rfl) (Nat.le_of_ble_eq_true rfl) h2 (fun r N2 q2 => ?_)
  obtain ⟨rfl, q2⟩ := q2
  refine ⟨fun _ _ => rfl, Lw.sk (st2 := [.int w, .int w]) rfl ?_⟩
  exact lw_eqi d_law_1407 (by decide) (kk M2 N2 (h3 M2 N2 q1 q2))
theorem lw_c45 (hI : I + 7 ≤ L) (hL : L ≤ 3584) (hB : B < 2 ^ 27) (h : RX B M N) (kk : ∀ M2 N2 : ev_Mem, RX (B + 2000) M2 N2 → Lw L xs 1563 (nI I) [] M2 N2) : Lw L xs 1412 (nI I) [] M N := by
  obtain ⟨v, hv, QX, QM, h1, h2, h3⟩ := (op_is h (xs (I + 1))).oq
  obtain ⟨w, rfl⟩ := hv.i (by decide)
  refine lw_aload_1 d_law_1412 ?_
  refine lw_arg (k := 1) d_law_1413 d_law_1414 d_law_1415 d_law_1416 d_law_1417 (by decide) hI hL (by decide) ?_
  refine lw_callX [.int (xs (I + 1))] d_law_1418 ml_law_204 rfl rfl (fun _ _ => rfl) (by decide) h1 (fun r M2 q1 => ?_)
  obtain ⟨rfl, q1⟩ := q1
  refine ⟨fun _ _ => rfl, Lw.sk (st2 := [.int w]) rfl ?_⟩
  refine lw_aload_2 d_law_1421 ?_
  refine lw_arg (k := 1) d_law_1422 d_law_1423 d_law_1424 d_law_1425 d_law_1426 (by decide) hI hL (by decide) ?_
  refine lw_callM [.int (xs (I + 1))] d_law_1427 ml_law_207 rfl rfl (fun _ _ => rfl) (Nat.le_of_ble_eq_true rfl) h2 (fun r N2 q2 => ?_)
  obtain ⟨rfl, q2⟩ := q2
  refine ⟨fun _ _ => rfl, Lw.sk (st2 := [.int w, .int w]) rfl ?_⟩
  exact lw_eqi d_law_1430 (by decide) (kk M2 N2 (h3 M2 N2 q1 q2))
theorem lw_c46 (hI : I + 7 ≤ L) (hL : L ≤ 3584) (hB : B < 2 ^ 27) (h : RX B M N) (kk : ∀ M2 N2 : ev_Mem, RX (B + 2000) M2 N2 → Lw L xs 1563 (nI I) [] M2 N2) : Lw L xs 1435 (nI I) [] M N := by
  obtain ⟨v, hv, QX, QM, h1, h2, h3⟩ := (op_use h (xs (I + 1))).oq
  obtain ⟨w, rfl⟩ := hv.i (by decide)
  refine lw_aload_1 d_law_1435 ?_
  refine lw_arg (k := 1) d_law_1436 d_law_1437 d_law_1438 d_law_1439 d_law_1440 (by decide) hI hL (by decide) ?_
  refine lw_callX [.int (xs (I + 1))] d_law_1441 ml_law_208 rfl rfl (fun _ _ => rfl) (by decide) h1 (fun r M2 q1 => ?_)
  obtain ⟨rfl, q1⟩ := q1
  refine ⟨fun _ _ => rfl, Lw.sk (st2 := [.int w]) rfl ?_⟩
  refine lw_aload_2 d_law_1444 ?_
  refine lw_arg (k := 1) d_law_1445 d_law_1446 d_law_1447 d_law_1448 d_law_1449 (by decide) hI hL (by decide) ?_
  refine lw_callM [.int (xs (I + 1))] d_law_1450 ml_law_211 rfl rfl (fun _ _ => rfl) (Nat.le_of_ble_eq_true rfl) h2 (fun r N2 q2 => ?_)
  obtain ⟨rfl, q2⟩ := q2
  refine ⟨fun _ _ => rfl, Lw.sk (st2 := [.int w, .int w]) rfl ?_⟩
  exact lw_eqi d_law_1453 (by decide) (kk M2 N2 (h3 M2 N2 q1 q2))
theorem lw_c47 (hI : I + 7 ≤ L) (hL : L ≤ 3584) (hB : B < 2 ^ 27) (h : RX B M N) (kk : ∀ M2 N2 : ev_Mem, RX (B + 2000) M2 N2 → Lw L xs 1563 (nI I) [] M2 N2) : Lw L xs 1458 (nI I) [] M N := by
  obtain ⟨v, hv, QX, QM, h1, h2, h3⟩ := (op_book (show B < 2 ^ 30 by omega) h (xs (I + 1)) (xs (I + 2))).oq
  obtain ⟨w, rfl⟩ := hv.i (by decide)
  refine lw_aload_1 d_law_1458 ?_
  refine lw_arg (k := 1) d_law_1459 d_law_1460 d_law_1461 d_law_1462 d_law_1463 (by decide) hI hL (by decide) ?_
  refine lw_arg (k := 2) d_law_1464 d_law_1465 d_law_1466 d_law_1467 d_law_1468 (by decide) hI hL (by decide) ?_
  refine lw_callX [.int (xs (I + 1)), .int (xs (I + 2))] d_law_1469 ml_law_212 rfl rfl (fun _ _ => rfl) (by decide) h1 (fun r M2 q1 => ?_)
  obtain ⟨rfl, q1⟩ := q1
  refine ⟨fun _ _ => rfl, Lw.sk (st2 := [.int w]) rfl ?_⟩
  refine lw_aload_2 d_law_1472 ?_
  refine lw_arg (k := 1) d_law_1473 d_law_1474 d_law_1475 d_law_1476 d_law_1477 (by decide) hI hL (by decide) ?_
  refine lw_arg (k := 2) d_law_1478 d_law_1479 d_law_1480 d_law_1481 d_law_1482 (by decide) hI hL (by decide) ?_
  refine lw_callM [.int (xs (I + 1)), .int (xs (I + 2))] d_law_1483 ml_law_215 rfl rfl (fun _ _ => rfl) (Nat.le_of_ble_eq_true rfl) h2 (fun r N2 q2 => ?_)
  obtain ⟨rfl, q2⟩ := q2
  refine ⟨fun _ _ => rfl, Lw.sk (st2 := [.int w, .int w]) rfl ?_⟩
  exact lw_eqi d_law_1486 (by decide) (kk M2 N2 (h3 M2 N2 q1 q2))
theorem lw_c48 (hI : I + 7 ≤ L) (hL : L ≤ 3584) (hB : B < 2 ^ 27) (h : RX B M N) (kk : ∀ M2 N2 : ev_Mem, RX (B + 2000) M2 N2 → Lw L xs 1563 (nI I) [] M2 N2) : Lw L xs 1491 (nI I) [] M N := by
  obtain ⟨v, hv, QX, QM, h1, h2, h3⟩ := (op_image h).oq
  obtain ⟨w, rfl⟩ := hv.i (by decide)
  refine lw_aload_1 d_law_1491 ?_
  refine lw_callX [] d_law_1492 ml_law_216 rfl rfl (fun _ _ => rfl) (by decide) h1 (fun r M2 q1 => ?_)
  obtain ⟨rfl, q1⟩ := q1
  refine ⟨fun _ _ => rfl, Lw.sk (st2 := [.int w]) rfl ?_⟩
  refine lw_aload_2 d_law_1495 ?_
  refine lw_callM [] d_law_1496 ml_law_219 rfl rfl (fun _ _ => rfl) (Nat.le_of_ble_eq_true rfl) h2 (fun r N2 q2 => ?_)
  obtain ⟨rfl, q2⟩ := q2
  refine ⟨fun _ _ => rfl, Lw.sk (st2 := [.int w, .int w]) rfl ?_⟩
  exact lw_eqi d_law_1499 (by decide) (kk M2 N2 (h3 M2 N2 q1 q2))
theorem lw_c49 (hI : I + 7 ≤ L) (hL : L ≤ 3584) (hB : B < 2 ^ 27) (h : RX B M N) (kk : ∀ M2 N2 : ev_Mem, RX (B + 2000) M2 N2 → Lw L xs 1563 (nI I) [] M2 N2) : Lw L xs 1504 (nI I) [] M N := by
  obtain ⟨v, hv, QX, QM, h1, h2, h3⟩ := (op_restore h).oq
  obtain ⟨w, rfl⟩ := hv.i (by decide)
  refine lw_aload_1 d_law_1504 ?_
  refine lw_callX [] d_law_1505 ml_law_220 rfl rfl (fun _ _ => rfl) (by decide) h1 (fun r M2 q1 => ?_)
  obtain ⟨rfl, q1⟩ := q1
  refine ⟨fun _ _ => rfl, Lw.sk (st2 := [.int w]) rfl ?_⟩
  refine lw_aload_2 d_law_1508 ?_
  refine lw_callM [] d_law_1509 ml_law_223 rfl rfl (fun _ _ => rfl) (Nat.le_of_ble_eq_true rfl) h2 (fun r N2 q2 => ?_)
  obtain ⟨rfl, q2⟩ := q2
  refine ⟨fun _ _ => rfl, Lw.sk (st2 := [.int w, .int w]) rfl ?_⟩
  exact lw_eqi d_law_1512 (by decide) (kk M2 N2 (h3 M2 N2 q1 q2))
theorem lw_c50 (hI : I + 7 ≤ L) (hL : L ≤ 3584) (hB : B < 2 ^ 27) (h : RX B M N) (kk : ∀ M2 N2 : ev_Mem, RX (B + 2000) M2 N2 → Lw L xs 1563 (nI I) [] M2 N2) : Lw L xs 1517 (nI I) [] M N := by
  obtain ⟨v, hv, QX, QM, h1, h2, h3⟩ := (op_status h (xs (I + 1))).oq
  obtain ⟨w, rfl⟩ := hv.i (by decide)
  refine lw_aload_1 d_law_1517 ?_
  refine lw_arg (k := 1) d_law_1518 d_law_1519 d_law_1520 d_law_1521 d_law_1522 (by decide) hI hL (by decide) ?_
  refine lw_callX [.int (xs (I + 1))] d_law_1523 ml_law_224 rfl rfl (fun _ _ => rfl) (by decide) h1 (fun r M2 q1 => ?_)
  obtain ⟨rfl, q1⟩ := q1
  refine ⟨fun _ _ => rfl, Lw.sk (st2 := [.int w]) rfl ?_⟩
  refine lw_aload_2 d_law_1526 ?_
  refine lw_arg (k := 1) d_law_1527 d_law_1528 d_law_1529 d_law_1530 d_law_1531 (by decide) hI hL (by decide) ?_
  refine lw_callM [.int (xs (I + 1))] d_law_1532 ml_law_227 rfl rfl (fun _ _ => rfl) (Nat.le_of_ble_eq_true rfl) h2 (fun r N2 q2 => ?_)
  obtain ⟨rfl, q2⟩ := q2
  refine ⟨fun _ _ => rfl, Lw.sk (st2 := [.int w, .int w]) rfl ?_⟩
  exact lw_eqi d_law_1535 (by decide) (kk M2 N2 (h3 M2 N2 q1 q2))
theorem lw_c51 (hI : I + 7 ≤ L) (hL : L ≤ 3584) (hB : B < 2 ^ 27) (h : RX B M N) (kk : ∀ M2 N2 : ev_Mem, RX (B + 2000) M2 N2 → Lw L xs 1563 (nI I) [] M2 N2) : Lw L xs 1540 (nI I) [] M N := by
  obtain ⟨v, hv, QX, QM, h1, h2, h3⟩ := (op_about h (xs (I + 1))).oq
  obtain ⟨w, rfl⟩ := hv.i (by decide)
  refine lw_aload_1 d_law_1540 ?_
  refine lw_arg (k := 1) d_law_1541 d_law_1542 d_law_1543 d_law_1544 d_law_1545 (by decide) hI hL (by decide) ?_
  refine lw_callX [.int (xs (I + 1))] d_law_1546 ml_law_228 rfl rfl (fun _ _ => rfl) (by decide) h1 (fun r M2 q1 => ?_)
  obtain ⟨rfl, q1⟩ := q1
  refine ⟨fun _ _ => rfl, Lw.sk (st2 := [.int w]) rfl ?_⟩
  refine lw_aload_2 d_law_1549 ?_
  refine lw_arg (k := 1) d_law_1550 d_law_1551 d_law_1552 d_law_1553 d_law_1554 (by decide) hI hL (by decide) ?_
  refine lw_callM [.int (xs (I + 1))] d_law_1555 ml_law_231 rfl rfl (fun _ _ => rfl) (Nat.le_of_ble_eq_true rfl) h2 (fun r N2 q2 => ?_)
  obtain ⟨rfl, q2⟩ := q2
  refine ⟨fun _ _ => rfl, Lw.sk (st2 := [.int w, .int w]) rfl ?_⟩
  exact lw_eqi d_law_1558 (by decide) (kk M2 N2 (h3 M2 N2 q1 q2))
end
section
variable {L : Nat} {xs : Nat → Int32}
theorem lw_case {I B : Nat} {M N : ev_Mem} {q : Nat} (hq : q < 64) (hI : I + 7 ≤ L) (hL : L ≤ 3584) (hB : B < 2 ^ 27) (h : RX B M N) (k0 : Lw L xs 1563 (nI I) [] M N) (kk : ∀ M2 N2 : ev_Mem, RX (B + 2000) M2 N2 → Lw L xs 1563 (nI I) [] M2 N2) : Lw L xs 33 (nI I) [.int (nI q)] M N := by
  match q, hq with
  | 0, _ => exact lw_tin (q := 0) (tgt := 256) d_law_33 (by decide) (by decide) rfl (by decide) (lw_c0 hI hL hB h kk)
  | 1, _ => exact lw_tin (q := 1) (tgt := 319) d_law_33 (by decide) (by decide) rfl (by decide) (lw_c1 hI hL hB h kk)
  | 2, _ => exact lw_tin (q := 2) (tgt := 342) d_law_33 (by decide) (by decide) rfl (by decide) (lw_c2 hI hL hB h kk)
  | 3, _ => exact lw_tin (q := 3) (tgt := 355) d_law_33 (by decide) (by decide) rfl (by decide) (lw_c3 hI hL hB h kk)
  | 4, _ => exact lw_tin (q := 4) (tgt := 378) d_law_33 (by decide) (by decide) rfl (by decide) (lw_c4 hI hL hB h kk)
  | 5, _ => exact lw_tin (q := 5) (tgt := 401) d_law_33 (by decide) (by decide) rfl (by decide) (lw_c5 hI hL hB h kk)
  | 6, _ => exact lw_tin (q := 6) (tgt := 424) d_law_33 (by decide) (by decide) rfl (by decide) (lw_c6 hI hL hB h kk)
  | 7, _ => exact lw_tin (q := 7) (tgt := 467) d_law_33 (by decide) (by decide) rfl (by decide) (lw_c7 hI hL hB h kk)
  | 8, _ => exact lw_tin (q := 8) (tgt := 490) d_law_33 (by decide) (by decide) rfl (by decide) (lw_c8 hI hL hB h kk)
  | 9, _ => exact lw_tin (q := 9) (tgt := 565) d_law_33 (by decide) (by decide) rfl (by decide) (lw_c9 hI hL hB h kk)
  | 10, _ => exact lw_tin (q := 10) (tgt := 608) d_law_33 (by decide) (by decide) rfl (by decide) (lw_c10 hI hL hB h kk)
  | 11, _ => exact lw_tin (q := 11) (tgt := 631) d_law_33 (by decide) (by decide) rfl (by decide) (lw_c11 hI hL hB h kk)
  | 12, _ => exact lw_tin (q := 12) (tgt := 654) d_law_33 (by decide) (by decide) rfl (by decide) (lw_c12 hI hL hB h kk)
  | 13, _ => exact lw_tin (q := 13) (tgt := 677) d_law_33 (by decide) (by decide) rfl (by decide) (lw_c13 hI hL hB h kk)
  | 14, _ => exact lw_tin (q := 14) (tgt := 690) d_law_33 (by decide) (by decide) rfl (by decide) (lw_c14 hI hL hB h kk)
  | 15, _ => exact lw_tin (q := 15) (tgt := 723) d_law_33 (by decide) (by decide) rfl (by decide) (lw_c15 hI hL hB h kk)
  | 16, _ => exact lw_tin (q := 16) (tgt := 746) d_law_33 (by decide) (by decide) rfl (by decide) (lw_c16 hI hL hB h kk)
  | 17, _ => exact lw_tin (q := 17) (tgt := 779) d_law_33 (by decide) (by decide) rfl (by decide) (lw_c17 hI hL hB h kk)
  | 18, _ => exact lw_tin (q := 18) (tgt := 812) d_law_33 (by decide) (by decide) rfl (by decide) (lw_c18 hI hL hB h kk)
  | 19, _ => exact lw_tin (q := 19) (tgt := 855) d_law_33 (by decide) (by decide) rfl (by decide) (lw_c19 hI hL hB h kk)
  | 20, _ => exact lw_tin (q := 20) (tgt := 868) d_law_33 (by decide) (by decide) rfl (by decide) (lw_c20 hI hL hB h kk)
  | 21, _ => exact lw_tin (q := 21) (tgt := 881) d_law_33 (by decide) (by decide) rfl (by decide) (lw_c21 hI hL hB h kk)
  | 22, _ => exact lw_tin (q := 22) (tgt := 920) d_law_33 (by decide) (by decide) rfl (by decide) (lw_c22 hI hL hB h kk)
  | 23, _ => exact lw_tin (q := 23) (tgt := 933) d_law_33 (by decide) (by decide) rfl (by decide) (lw_c23 hI hL hB h kk)
  | 24, _ => exact lw_tin (q := 24) (tgt := 956) d_law_33 (by decide) (by decide) rfl (by decide) (lw_c24 hI hL hB h kk)
  | 25, _ => exact lw_tin (q := 25) (tgt := 979) d_law_33 (by decide) (by decide) rfl (by decide) (lw_c25 hI hL hB h kk)
  | 26, _ => exact lw_tin (q := 26) (tgt := 992) d_law_33 (by decide) (by decide) rfl (by decide) (lw_c26 hI hL hB h kk)
  | 27, _ => exact lw_tin (q := 27) (tgt := 1005) d_law_33 (by decide) (by decide) rfl (by decide) (lw_c27 hI hL hB h kk)
  | 28, _ => exact lw_tin (q := 28) (tgt := 1038) d_law_33 (by decide) (by decide) rfl (by decide) (lw_c28 hI hL hB h kk)
  | 29, _ => exact lw_tin (q := 29) (tgt := 1088) d_law_33 (by decide) (by decide) rfl (by decide) (lw_c29 hI hL hB h kk)
  | 30, _ => exact lw_tin (q := 30) (tgt := 1111) d_law_33 (by decide) (by decide) rfl (by decide) (lw_c30 hI hL hB h kk)
  | 31, _ => exact lw_tin (q := 31) (tgt := 1124) d_law_33 (by decide) (by decide) rfl (by decide) (lw_c31 hI hL hB h kk)
  | 32, _ => exact lw_tin (q := 32) (tgt := 1147) d_law_33 (by decide) (by decide) rfl (by decide) (lw_c32 hI hL hB h kk)
  | 33, _ => exact lw_tin (q := 33) (tgt := 1170) d_law_33 (by decide) (by decide) rfl (by decide) (lw_c33 hI hL hB h kk)
  | 34, _ => exact lw_tin (q := 34) (tgt := 1183) d_law_33 (by decide) (by decide) rfl (by decide) (lw_c34 hI hL hB h kk)
  | 35, _ => exact lw_tin (q := 35) (tgt := 1206) d_law_33 (by decide) (by decide) rfl (by decide) (lw_c35 hI hL hB h kk)
  | 36, _ => exact lw_tin (q := 36) (tgt := 1229) d_law_33 (by decide) (by decide) rfl (by decide) (lw_c36 hI hL hB h kk)
  | 37, _ => exact lw_tin (q := 37) (tgt := 1252) d_law_33 (by decide) (by decide) rfl (by decide) (lw_c37 hI hL hB h kk)
  | 38, _ => exact lw_tin (q := 38) (tgt := 1275) d_law_33 (by decide) (by decide) rfl (by decide) (lw_c38 hI hL hB h kk)
  | 39, _ => exact lw_tin (q := 39) (tgt := 1324) d_law_33 (by decide) (by decide) rfl (by decide) (lw_c39 hI hL hB h kk)
  | 40, _ => exact lw_tin (q := 40) (tgt := 1337) d_law_33 (by decide) (by decide) rfl (by decide) (lw_c40 hI hL hB h kk)
  | 41, _ => exact lw_tin (q := 41) (tgt := 1350) d_law_33 (by decide) (by decide) rfl (by decide) (lw_c41 hI hL hB h kk)
  | 42, _ => exact lw_tin (q := 42) (tgt := 1363) d_law_33 (by decide) (by decide) rfl (by decide) (lw_c42 hI hL hB h kk)
  | 43, _ => exact lw_tin (q := 43) (tgt := 1376) d_law_33 (by decide) (by decide) rfl (by decide) (lw_c43 hI hL hB h kk)
  | 44, _ => exact lw_tin (q := 44) (tgt := 1399) d_law_33 (by decide) (by decide) rfl (by decide) (lw_c44 hI hL hB h kk)
  | 45, _ => exact lw_tin (q := 45) (tgt := 1412) d_law_33 (by decide) (by decide) rfl (by decide) (lw_c45 hI hL hB h kk)
  | 46, _ => exact lw_tin (q := 46) (tgt := 1435) d_law_33 (by decide) (by decide) rfl (by decide) (lw_c46 hI hL hB h kk)
  | 47, _ => exact lw_tin (q := 47) (tgt := 1458) d_law_33 (by decide) (by decide) rfl (by decide) (lw_c47 hI hL hB h kk)
  | 48, _ => exact lw_tin (q := 48) (tgt := 1491) d_law_33 (by decide) (by decide) rfl (by decide) (lw_c48 hI hL hB h kk)
  | 49, _ => exact lw_tin (q := 49) (tgt := 1504) d_law_33 (by decide) (by decide) rfl (by decide) (lw_c49 hI hL hB h kk)
  | 50, _ => exact lw_tin (q := 50) (tgt := 1517) d_law_33 (by decide) (by decide) rfl (by decide) (lw_c50 hI hL hB h kk)
  | 51, _ => exact lw_tin (q := 51) (tgt := 1540) d_law_33 (by decide) (by decide) rfl (by decide) (lw_c51 hI hL hB h kk)
  | q + 52, hq => exact lw_tout (q := q + 52) (tgt := 1563) d_law_33 (by omega) hq (by decide) k0
/-- the loop -/
theorem lw_loop (hL : L ≤ 3584) : ∀ (n I B : Nat) (M N : ev_Mem), I ≤ 4000 → L < I + n → B ≤ 2000 * I → RX B M N → Lw L xs 18 (nI I) [] M N := by
  intro n
  induction n with
  | zero =>
    intro I B M N h4 hn hB h
    exact lw_head (n := 0) d_law_18 d_law_19 d_law_20 d_law_21 d_law_23 d_law_24 (tgt := 1569) (by decide) hL h4 (fun _ => lw_fin d_law_1569 d_law_1570) (fun z => absurd z (by omega))
  | succ n ih =>
    intro I B M N h4 hn hB h
    refine lw_head (n := 0) d_law_18 d_law_19 d_law_20 d_law_21 d_law_23 d_law_24 (tgt := 1569) (by decide) hL h4 (fun _ => lw_fin d_law_1569 d_law_1570) (fun hI => ?_)
    refine lw_pick d_law_27 d_law_28 d_law_29 d_law_30 d_law_32 hI hL (fun q hq => ?_)
    refine lw_case hq hI hL (by omega) h ?_ (fun M2 N2 h2 => ?_)
    · exact lw_next (tgt := 18) d_law_1563 d_law_1566 (by decide) (ih (I + 7) B M N (by omega) (by omega) (by omega) h)
    · exact lw_next (tgt := 18) d_law_1563 d_law_1566 (by decide) (ih (I + 7) (B + 2000) M2 N2 (by omega) (by omega) (by omega) h2)
end
