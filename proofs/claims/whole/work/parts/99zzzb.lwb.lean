/-! THE LAW: its instructions, its links -/
theorem d_law_0 : decode code 0 = .ok (.new 7, 3) := by decide +kernel
theorem d_law_3 : decode code 3 = .ok (.dup, 1) := by decide +kernel
theorem d_law_4 : decode code 4 = .ok (.invokespecial 9, 3) := by decide +kernel
theorem d_law_7 : decode code 7 = .ok (.astore_n 1, 1) := by decide +kernel
theorem d_law_8 : decode code 8 = .ok (.new 10, 3) := by decide +kernel
theorem d_law_11 : decode code 11 = .ok (.dup, 1) := by decide +kernel
theorem d_law_12 : decode code 12 = .ok (.invokespecial 12, 3) := by decide +kernel
theorem d_law_15 : decode code 15 = .ok (.astore_n 2, 1) := by decide +kernel
theorem d_law_16 : decode code 16 = .ok (.iconst 0, 1) := by decide +kernel
theorem d_law_17 : decode code 17 = .ok (.istore_n 3, 1) := by decide +kernel
theorem d_law_18 : decode code 18 = .ok (.iload_n 3, 1) := by decide +kernel
theorem d_law_19 : decode code 19 = .ok (.aload_n 0, 1) := by decide +kernel
theorem d_law_20 : decode code 20 = .ok (.arraylength, 1) := by decide +kernel
theorem d_law_21 : decode code 21 = .ok (.bipush 7, 2) := by decide +kernel
theorem d_law_23 : decode code 23 = .ok (.isub, 1) := by decide +kernel
theorem d_law_24 : decode code 24 = .ok (.if_icmp .gt 1545, 3) := by decide +kernel
theorem d_law_27 : decode code 27 = .ok (.aload_n 0, 1) := by decide +kernel
theorem d_law_28 : decode code 28 = .ok (.iload_n 3, 1) := by decide +kernel
theorem d_law_29 : decode code 29 = .ok (.iaload, 1) := by decide +kernel
theorem d_law_30 : decode code 30 = .ok (.bipush 63, 2) := by decide +kernel
theorem d_law_32 : decode code 32 = .ok (.iand, 1) := by decide +kernel
theorem d_law_33 : decode code 33 = .ok (.tableswitch 1530 0 51 #[223, 286, 309, 322, 345, 368, 391, 434, 457, 532, 575, 598, 621, 644, 657, 690, 713, 746, 779, 822, 835, 848, 887, 900, 923, 946, 959, 972, 1005, 1055, 1078, 1091, 1114, 1137, 1150, 1173, 1196, 1219, 1242, 1291, 1304, 1317, 1330, 1343, 1366, 1379, 1402, 1425, 1458, 1471, 1484, 1507], 223) := by decide +kernel
theorem d_law_256 : decode code 256 = .ok (.aload_n 1, 1) := by decide +kernel
theorem d_law_257 : decode code 257 = .ok (.aload_n 0, 1) := by decide +kernel
theorem d_law_258 : decode code 258 = .ok (.iload_n 3, 1) := by decide +kernel
theorem d_law_259 : decode code 259 = .ok (.iconst 1, 1) := by decide +kernel
theorem d_law_260 : decode code 260 = .ok (.iadd, 1) := by decide +kernel
theorem d_law_261 : decode code 261 = .ok (.iaload, 1) := by decide +kernel
theorem d_law_262 : decode code 262 = .ok (.aload_n 0, 1) := by decide +kernel
theorem d_law_263 : decode code 263 = .ok (.iload_n 3, 1) := by decide +kernel
theorem d_law_264 : decode code 264 = .ok (.iconst 2, 1) := by decide +kernel
theorem d_law_265 : decode code 265 = .ok (.iadd, 1) := by decide +kernel
theorem d_law_266 : decode code 266 = .ok (.iaload, 1) := by decide +kernel
theorem d_law_267 : decode code 267 = .ok (.aload_n 0, 1) := by decide +kernel
theorem d_law_268 : decode code 268 = .ok (.iload_n 3, 1) := by decide +kernel
theorem d_law_269 : decode code 269 = .ok (.iconst 3, 1) := by decide +kernel
theorem d_law_270 : decode code 270 = .ok (.iadd, 1) := by decide +kernel
theorem d_law_271 : decode code 271 = .ok (.iaload, 1) := by decide +kernel
theorem d_law_272 : decode code 272 = .ok (.aload_n 0, 1) := by decide +kernel
theorem d_law_273 : decode code 273 = .ok (.iload_n 3, 1) := by decide +kernel
theorem d_law_274 : decode code 274 = .ok (.iconst 4, 1) := by decide +kernel
theorem d_law_275 : decode code 275 = .ok (.iadd, 1) := by decide +kernel
theorem d_law_276 : decode code 276 = .ok (.iaload, 1) := by decide +kernel
theorem d_law_277 : decode code 277 = .ok (.aload_n 0, 1) := by decide +kernel
theorem d_law_278 : decode code 278 = .ok (.iload_n 3, 1) := by decide +kernel
theorem d_law_279 : decode code 279 = .ok (.iconst 5, 1) := by decide +kernel
theorem d_law_280 : decode code 280 = .ok (.iadd, 1) := by decide +kernel
theorem d_law_281 : decode code 281 = .ok (.iaload, 1) := by decide +kernel
theorem d_law_282 : decode code 282 = .ok (.invokevirtual 13, 3) := by decide +kernel
theorem d_law_285 : decode code 285 = .ok (.aload_n 2, 1) := by decide +kernel
theorem d_law_286 : decode code 286 = .ok (.aload_n 0, 1) := by decide +kernel
theorem d_law_287 : decode code 287 = .ok (.iload_n 3, 1) := by decide +kernel
theorem d_law_288 : decode code 288 = .ok (.iconst 1, 1) := by decide +kernel
theorem d_law_289 : decode code 289 = .ok (.iadd, 1) := by decide +kernel
theorem d_law_290 : decode code 290 = .ok (.iaload, 1) := by decide +kernel
theorem d_law_291 : decode code 291 = .ok (.aload_n 0, 1) := by decide +kernel
theorem d_law_292 : decode code 292 = .ok (.iload_n 3, 1) := by decide +kernel
theorem d_law_293 : decode code 293 = .ok (.iconst 2, 1) := by decide +kernel
theorem d_law_294 : decode code 294 = .ok (.iadd, 1) := by decide +kernel
theorem d_law_295 : decode code 295 = .ok (.iaload, 1) := by decide +kernel
theorem d_law_296 : decode code 296 = .ok (.aload_n 0, 1) := by decide +kernel
theorem d_law_297 : decode code 297 = .ok (.iload_n 3, 1) := by decide +kernel
theorem d_law_298 : decode code 298 = .ok (.iconst 3, 1) := by decide +kernel
theorem d_law_299 : decode code 299 = .ok (.iadd, 1) := by decide +kernel
theorem d_law_300 : decode code 300 = .ok (.iaload, 1) := by decide +kernel
theorem d_law_301 : decode code 301 = .ok (.aload_n 0, 1) := by decide +kernel
theorem d_law_302 : decode code 302 = .ok (.iload_n 3, 1) := by decide +kernel
theorem d_law_303 : decode code 303 = .ok (.iconst 4, 1) := by decide +kernel
theorem d_law_304 : decode code 304 = .ok (.iadd, 1) := by decide +kernel
theorem d_law_305 : decode code 305 = .ok (.iaload, 1) := by decide +kernel
theorem d_law_306 : decode code 306 = .ok (.aload_n 0, 1) := by decide +kernel
theorem d_law_307 : decode code 307 = .ok (.iload_n 3, 1) := by decide +kernel
theorem d_law_308 : decode code 308 = .ok (.iconst 5, 1) := by decide +kernel
theorem d_law_309 : decode code 309 = .ok (.iadd, 1) := by decide +kernel
theorem d_law_310 : decode code 310 = .ok (.iaload, 1) := by decide +kernel
theorem d_law_311 : decode code 311 = .ok (.invokevirtual 17, 3) := by decide +kernel
theorem d_law_314 : decode code 314 = .ok (.if_icmp .eq 1249, 3) := by decide +kernel
theorem d_law_317 : decode code 317 = .ok (.iconst 0, 1) := by decide +kernel
theorem d_law_318 : decode code 318 = .ok (.ireturn, 1) := by decide +kernel
theorem d_law_319 : decode code 319 = .ok (.aload_n 1, 1) := by decide +kernel
theorem d_law_320 : decode code 320 = .ok (.aload_n 0, 1) := by decide +kernel
theorem d_law_321 : decode code 321 = .ok (.iload_n 3, 1) := by decide +kernel
theorem d_law_322 : decode code 322 = .ok (.iconst 1, 1) := by decide +kernel
theorem d_law_323 : decode code 323 = .ok (.iadd, 1) := by decide +kernel
theorem d_law_324 : decode code 324 = .ok (.iaload, 1) := by decide +kernel
theorem d_law_325 : decode code 325 = .ok (.invokevirtual 18, 3) := by decide +kernel
theorem d_law_328 : decode code 328 = .ok (.aload_n 2, 1) := by decide +kernel
theorem d_law_329 : decode code 329 = .ok (.aload_n 0, 1) := by decide +kernel
theorem d_law_330 : decode code 330 = .ok (.iload_n 3, 1) := by decide +kernel
theorem d_law_331 : decode code 331 = .ok (.iconst 1, 1) := by decide +kernel
theorem d_law_332 : decode code 332 = .ok (.iadd, 1) := by decide +kernel
theorem d_law_333 : decode code 333 = .ok (.iaload, 1) := by decide +kernel
theorem d_law_334 : decode code 334 = .ok (.invokevirtual 22, 3) := by decide +kernel
theorem d_law_337 : decode code 337 = .ok (.if_icmp .eq 1226, 3) := by decide +kernel
theorem d_law_340 : decode code 340 = .ok (.iconst 0, 1) := by decide +kernel
theorem d_law_341 : decode code 341 = .ok (.ireturn, 1) := by decide +kernel
theorem d_law_342 : decode code 342 = .ok (.aload_n 1, 1) := by decide +kernel
theorem d_law_343 : decode code 343 = .ok (.invokevirtual 23, 3) := by decide +kernel
theorem d_law_346 : decode code 346 = .ok (.aload_n 2, 1) := by decide +kernel
theorem d_law_347 : decode code 347 = .ok (.invokevirtual 27, 3) := by decide +kernel
theorem d_law_350 : decode code 350 = .ok (.if_icmp .eq 1213, 3) := by decide +kernel
theorem d_law_353 : decode code 353 = .ok (.iconst 0, 1) := by decide +kernel
theorem d_law_354 : decode code 354 = .ok (.ireturn, 1) := by decide +kernel
theorem d_law_355 : decode code 355 = .ok (.aload_n 1, 1) := by decide +kernel
theorem d_law_356 : decode code 356 = .ok (.aload_n 0, 1) := by decide +kernel
theorem d_law_357 : decode code 357 = .ok (.iload_n 3, 1) := by decide +kernel
theorem d_law_358 : decode code 358 = .ok (.iconst 1, 1) := by decide +kernel
theorem d_law_359 : decode code 359 = .ok (.iadd, 1) := by decide +kernel
theorem d_law_360 : decode code 360 = .ok (.iaload, 1) := by decide +kernel
theorem d_law_361 : decode code 361 = .ok (.invokevirtual 28, 3) := by decide +kernel
theorem d_law_364 : decode code 364 = .ok (.aload_n 2, 1) := by decide +kernel
theorem d_law_365 : decode code 365 = .ok (.aload_n 0, 1) := by decide +kernel
theorem d_law_366 : decode code 366 = .ok (.iload_n 3, 1) := by decide +kernel
theorem d_law_367 : decode code 367 = .ok (.iconst 1, 1) := by decide +kernel
theorem d_law_368 : decode code 368 = .ok (.iadd, 1) := by decide +kernel
theorem d_law_369 : decode code 369 = .ok (.iaload, 1) := by decide +kernel
theorem d_law_370 : decode code 370 = .ok (.invokevirtual 31, 3) := by decide +kernel
theorem d_law_373 : decode code 373 = .ok (.if_icmp .eq 1190, 3) := by decide +kernel
theorem d_law_376 : decode code 376 = .ok (.iconst 0, 1) := by decide +kernel
theorem d_law_377 : decode code 377 = .ok (.ireturn, 1) := by decide +kernel
theorem d_law_378 : decode code 378 = .ok (.aload_n 1, 1) := by decide +kernel
theorem d_law_379 : decode code 379 = .ok (.aload_n 0, 1) := by decide +kernel
theorem d_law_380 : decode code 380 = .ok (.iload_n 3, 1) := by decide +kernel
theorem d_law_381 : decode code 381 = .ok (.iconst 1, 1) := by decide +kernel
theorem d_law_382 : decode code 382 = .ok (.iadd, 1) := by decide +kernel
theorem d_law_383 : decode code 383 = .ok (.iaload, 1) := by decide +kernel
theorem d_law_384 : decode code 384 = .ok (.invokevirtual 32, 3) := by decide +kernel
theorem d_law_387 : decode code 387 = .ok (.aload_n 2, 1) := by decide +kernel
theorem d_law_388 : decode code 388 = .ok (.aload_n 0, 1) := by decide +kernel
theorem d_law_389 : decode code 389 = .ok (.iload_n 3, 1) := by decide +kernel
theorem d_law_390 : decode code 390 = .ok (.iconst 1, 1) := by decide +kernel
theorem d_law_391 : decode code 391 = .ok (.iadd, 1) := by decide +kernel
theorem d_law_392 : decode code 392 = .ok (.iaload, 1) := by decide +kernel
theorem d_law_393 : decode code 393 = .ok (.invokevirtual 36, 3) := by decide +kernel
theorem d_law_396 : decode code 396 = .ok (.if_icmp .eq 1167, 3) := by decide +kernel
theorem d_law_399 : decode code 399 = .ok (.iconst 0, 1) := by decide +kernel
theorem d_law_400 : decode code 400 = .ok (.ireturn, 1) := by decide +kernel
theorem d_law_401 : decode code 401 = .ok (.aload_n 1, 1) := by decide +kernel
theorem d_law_402 : decode code 402 = .ok (.aload_n 0, 1) := by decide +kernel
theorem d_law_403 : decode code 403 = .ok (.iload_n 3, 1) := by decide +kernel
theorem d_law_404 : decode code 404 = .ok (.iconst 1, 1) := by decide +kernel
theorem d_law_405 : decode code 405 = .ok (.iadd, 1) := by decide +kernel
theorem d_law_406 : decode code 406 = .ok (.iaload, 1) := by decide +kernel
theorem d_law_407 : decode code 407 = .ok (.invokevirtual 37, 3) := by decide +kernel
theorem d_law_410 : decode code 410 = .ok (.aload_n 2, 1) := by decide +kernel
theorem d_law_411 : decode code 411 = .ok (.aload_n 0, 1) := by decide +kernel
theorem d_law_412 : decode code 412 = .ok (.iload_n 3, 1) := by decide +kernel
theorem d_law_413 : decode code 413 = .ok (.iconst 1, 1) := by decide +kernel
theorem d_law_414 : decode code 414 = .ok (.iadd, 1) := by decide +kernel
theorem d_law_415 : decode code 415 = .ok (.iaload, 1) := by decide +kernel
theorem d_law_416 : decode code 416 = .ok (.invokevirtual 40, 3) := by decide +kernel
theorem d_law_419 : decode code 419 = .ok (.if_icmp .eq 1144, 3) := by decide +kernel
theorem d_law_422 : decode code 422 = .ok (.iconst 0, 1) := by decide +kernel
theorem d_law_423 : decode code 423 = .ok (.ireturn, 1) := by decide +kernel
theorem d_law_424 : decode code 424 = .ok (.aload_n 1, 1) := by decide +kernel
theorem d_law_425 : decode code 425 = .ok (.aload_n 0, 1) := by decide +kernel
theorem d_law_426 : decode code 426 = .ok (.iload_n 3, 1) := by decide +kernel
theorem d_law_427 : decode code 427 = .ok (.iconst 1, 1) := by decide +kernel
theorem d_law_428 : decode code 428 = .ok (.iadd, 1) := by decide +kernel
theorem d_law_429 : decode code 429 = .ok (.iaload, 1) := by decide +kernel
theorem d_law_430 : decode code 430 = .ok (.aload_n 0, 1) := by decide +kernel
theorem d_law_431 : decode code 431 = .ok (.iload_n 3, 1) := by decide +kernel
theorem d_law_432 : decode code 432 = .ok (.iconst 2, 1) := by decide +kernel
theorem d_law_433 : decode code 433 = .ok (.iadd, 1) := by decide +kernel
theorem d_law_434 : decode code 434 = .ok (.iaload, 1) := by decide +kernel
theorem d_law_435 : decode code 435 = .ok (.aload_n 0, 1) := by decide +kernel
theorem d_law_436 : decode code 436 = .ok (.iload_n 3, 1) := by decide +kernel
theorem d_law_437 : decode code 437 = .ok (.iconst 3, 1) := by decide +kernel
theorem d_law_438 : decode code 438 = .ok (.iadd, 1) := by decide +kernel
theorem d_law_439 : decode code 439 = .ok (.iaload, 1) := by decide +kernel
theorem d_law_440 : decode code 440 = .ok (.invokevirtual 41, 3) := by decide +kernel
theorem d_law_443 : decode code 443 = .ok (.aload_n 2, 1) := by decide +kernel
theorem d_law_444 : decode code 444 = .ok (.aload_n 0, 1) := by decide +kernel
theorem d_law_445 : decode code 445 = .ok (.iload_n 3, 1) := by decide +kernel
theorem d_law_446 : decode code 446 = .ok (.iconst 1, 1) := by decide +kernel
theorem d_law_447 : decode code 447 = .ok (.iadd, 1) := by decide +kernel
theorem d_law_448 : decode code 448 = .ok (.iaload, 1) := by decide +kernel
theorem d_law_449 : decode code 449 = .ok (.aload_n 0, 1) := by decide +kernel
theorem d_law_450 : decode code 450 = .ok (.iload_n 3, 1) := by decide +kernel
theorem d_law_451 : decode code 451 = .ok (.iconst 2, 1) := by decide +kernel
theorem d_law_452 : decode code 452 = .ok (.iadd, 1) := by decide +kernel
theorem d_law_453 : decode code 453 = .ok (.iaload, 1) := by decide +kernel
theorem d_law_454 : decode code 454 = .ok (.aload_n 0, 1) := by decide +kernel
theorem d_law_455 : decode code 455 = .ok (.iload_n 3, 1) := by decide +kernel
theorem d_law_456 : decode code 456 = .ok (.iconst 3, 1) := by decide +kernel
theorem d_law_457 : decode code 457 = .ok (.iadd, 1) := by decide +kernel
theorem d_law_458 : decode code 458 = .ok (.iaload, 1) := by decide +kernel
theorem d_law_459 : decode code 459 = .ok (.invokevirtual 45, 3) := by decide +kernel
theorem d_law_462 : decode code 462 = .ok (.if_icmp .eq 1101, 3) := by decide +kernel
theorem d_law_465 : decode code 465 = .ok (.iconst 0, 1) := by decide +kernel
theorem d_law_466 : decode code 466 = .ok (.ireturn, 1) := by decide +kernel
theorem d_law_467 : decode code 467 = .ok (.aload_n 1, 1) := by decide +kernel
theorem d_law_468 : decode code 468 = .ok (.aload_n 0, 1) := by decide +kernel
theorem d_law_469 : decode code 469 = .ok (.iload_n 3, 1) := by decide +kernel
theorem d_law_470 : decode code 470 = .ok (.iconst 1, 1) := by decide +kernel
theorem d_law_471 : decode code 471 = .ok (.iadd, 1) := by decide +kernel
theorem d_law_472 : decode code 472 = .ok (.iaload, 1) := by decide +kernel
theorem d_law_473 : decode code 473 = .ok (.invokevirtual 46, 3) := by decide +kernel
theorem d_law_476 : decode code 476 = .ok (.aload_n 2, 1) := by decide +kernel
theorem d_law_477 : decode code 477 = .ok (.aload_n 0, 1) := by decide +kernel
theorem d_law_478 : decode code 478 = .ok (.iload_n 3, 1) := by decide +kernel
theorem d_law_479 : decode code 479 = .ok (.iconst 1, 1) := by decide +kernel
theorem d_law_480 : decode code 480 = .ok (.iadd, 1) := by decide +kernel
theorem d_law_481 : decode code 481 = .ok (.iaload, 1) := by decide +kernel
theorem d_law_482 : decode code 482 = .ok (.invokevirtual 49, 3) := by decide +kernel
theorem d_law_485 : decode code 485 = .ok (.if_icmp .eq 1078, 3) := by decide +kernel
theorem d_law_488 : decode code 488 = .ok (.iconst 0, 1) := by decide +kernel
theorem d_law_489 : decode code 489 = .ok (.ireturn, 1) := by decide +kernel
theorem d_law_490 : decode code 490 = .ok (.aload_n 1, 1) := by decide +kernel
theorem d_law_491 : decode code 491 = .ok (.aload_n 0, 1) := by decide +kernel
theorem d_law_492 : decode code 492 = .ok (.iload_n 3, 1) := by decide +kernel
theorem d_law_493 : decode code 493 = .ok (.iconst 1, 1) := by decide +kernel
theorem d_law_494 : decode code 494 = .ok (.iadd, 1) := by decide +kernel
theorem d_law_495 : decode code 495 = .ok (.iaload, 1) := by decide +kernel
theorem d_law_496 : decode code 496 = .ok (.aload_n 0, 1) := by decide +kernel
theorem d_law_497 : decode code 497 = .ok (.iload_n 3, 1) := by decide +kernel
theorem d_law_498 : decode code 498 = .ok (.iconst 2, 1) := by decide +kernel
theorem d_law_499 : decode code 499 = .ok (.iadd, 1) := by decide +kernel
theorem d_law_500 : decode code 500 = .ok (.iaload, 1) := by decide +kernel
theorem d_law_501 : decode code 501 = .ok (.aload_n 0, 1) := by decide +kernel
theorem d_law_502 : decode code 502 = .ok (.iload_n 3, 1) := by decide +kernel
theorem d_law_503 : decode code 503 = .ok (.iconst 3, 1) := by decide +kernel
theorem d_law_504 : decode code 504 = .ok (.iadd, 1) := by decide +kernel
theorem d_law_505 : decode code 505 = .ok (.iaload, 1) := by decide +kernel
theorem d_law_506 : decode code 506 = .ok (.aload_n 0, 1) := by decide +kernel
theorem d_law_507 : decode code 507 = .ok (.iload_n 3, 1) := by decide +kernel
theorem d_law_508 : decode code 508 = .ok (.iconst 4, 1) := by decide +kernel
theorem d_law_509 : decode code 509 = .ok (.iadd, 1) := by decide +kernel
theorem d_law_510 : decode code 510 = .ok (.iaload, 1) := by decide +kernel
theorem d_law_511 : decode code 511 = .ok (.aload_n 0, 1) := by decide +kernel
theorem d_law_512 : decode code 512 = .ok (.iload_n 3, 1) := by decide +kernel
theorem d_law_513 : decode code 513 = .ok (.iconst 5, 1) := by decide +kernel
theorem d_law_514 : decode code 514 = .ok (.iadd, 1) := by decide +kernel
theorem d_law_515 : decode code 515 = .ok (.iaload, 1) := by decide +kernel
theorem d_law_516 : decode code 516 = .ok (.aload_n 0, 1) := by decide +kernel
theorem d_law_517 : decode code 517 = .ok (.iload_n 3, 1) := by decide +kernel
theorem d_law_518 : decode code 518 = .ok (.bipush 6, 2) := by decide +kernel
theorem d_law_520 : decode code 520 = .ok (.iadd, 1) := by decide +kernel
theorem d_law_521 : decode code 521 = .ok (.iaload, 1) := by decide +kernel
theorem d_law_522 : decode code 522 = .ok (.invokevirtual 50, 3) := by decide +kernel
theorem d_law_525 : decode code 525 = .ok (.aload_n 2, 1) := by decide +kernel
theorem d_law_526 : decode code 526 = .ok (.aload_n 0, 1) := by decide +kernel
theorem d_law_527 : decode code 527 = .ok (.iload_n 3, 1) := by decide +kernel
theorem d_law_528 : decode code 528 = .ok (.iconst 1, 1) := by decide +kernel
theorem d_law_529 : decode code 529 = .ok (.iadd, 1) := by decide +kernel
theorem d_law_530 : decode code 530 = .ok (.iaload, 1) := by decide +kernel
theorem d_law_531 : decode code 531 = .ok (.aload_n 0, 1) := by decide +kernel
theorem d_law_532 : decode code 532 = .ok (.iload_n 3, 1) := by decide +kernel
theorem d_law_533 : decode code 533 = .ok (.iconst 2, 1) := by decide +kernel
theorem d_law_534 : decode code 534 = .ok (.iadd, 1) := by decide +kernel
theorem d_law_535 : decode code 535 = .ok (.iaload, 1) := by decide +kernel
theorem d_law_536 : decode code 536 = .ok (.aload_n 0, 1) := by decide +kernel
theorem d_law_537 : decode code 537 = .ok (.iload_n 3, 1) := by decide +kernel
theorem d_law_538 : decode code 538 = .ok (.iconst 3, 1) := by decide +kernel
theorem d_law_539 : decode code 539 = .ok (.iadd, 1) := by decide +kernel
theorem d_law_540 : decode code 540 = .ok (.iaload, 1) := by decide +kernel
theorem d_law_541 : decode code 541 = .ok (.aload_n 0, 1) := by decide +kernel
theorem d_law_542 : decode code 542 = .ok (.iload_n 3, 1) := by decide +kernel
theorem d_law_543 : decode code 543 = .ok (.iconst 4, 1) := by decide +kernel
theorem d_law_544 : decode code 544 = .ok (.iadd, 1) := by decide +kernel
theorem d_law_545 : decode code 545 = .ok (.iaload, 1) := by decide +kernel
theorem d_law_546 : decode code 546 = .ok (.aload_n 0, 1) := by decide +kernel
theorem d_law_547 : decode code 547 = .ok (.iload_n 3, 1) := by decide +kernel
theorem d_law_548 : decode code 548 = .ok (.iconst 5, 1) := by decide +kernel
theorem d_law_549 : decode code 549 = .ok (.iadd, 1) := by decide +kernel
theorem d_law_550 : decode code 550 = .ok (.iaload, 1) := by decide +kernel
theorem d_law_551 : decode code 551 = .ok (.aload_n 0, 1) := by decide +kernel
theorem d_law_552 : decode code 552 = .ok (.iload_n 3, 1) := by decide +kernel
theorem d_law_553 : decode code 553 = .ok (.bipush 6, 2) := by decide +kernel
theorem d_law_555 : decode code 555 = .ok (.iadd, 1) := by decide +kernel
theorem d_law_556 : decode code 556 = .ok (.iaload, 1) := by decide +kernel
theorem d_law_557 : decode code 557 = .ok (.invokevirtual 54, 3) := by decide +kernel
theorem d_law_560 : decode code 560 = .ok (.if_icmp .eq 1003, 3) := by decide +kernel
theorem d_law_563 : decode code 563 = .ok (.iconst 0, 1) := by decide +kernel
theorem d_law_564 : decode code 564 = .ok (.ireturn, 1) := by decide +kernel
theorem d_law_565 : decode code 565 = .ok (.aload_n 1, 1) := by decide +kernel
theorem d_law_566 : decode code 566 = .ok (.aload_n 0, 1) := by decide +kernel
theorem d_law_567 : decode code 567 = .ok (.iload_n 3, 1) := by decide +kernel
theorem d_law_568 : decode code 568 = .ok (.iconst 1, 1) := by decide +kernel
theorem d_law_569 : decode code 569 = .ok (.iadd, 1) := by decide +kernel
theorem d_law_570 : decode code 570 = .ok (.iaload, 1) := by decide +kernel
theorem d_law_571 : decode code 571 = .ok (.aload_n 0, 1) := by decide +kernel
theorem d_law_572 : decode code 572 = .ok (.iload_n 3, 1) := by decide +kernel
theorem d_law_573 : decode code 573 = .ok (.iconst 2, 1) := by decide +kernel
theorem d_law_574 : decode code 574 = .ok (.iadd, 1) := by decide +kernel
theorem d_law_575 : decode code 575 = .ok (.iaload, 1) := by decide +kernel
theorem d_law_576 : decode code 576 = .ok (.aload_n 0, 1) := by decide +kernel
theorem d_law_577 : decode code 577 = .ok (.iload_n 3, 1) := by decide +kernel
theorem d_law_578 : decode code 578 = .ok (.iconst 3, 1) := by decide +kernel
theorem d_law_579 : decode code 579 = .ok (.iadd, 1) := by decide +kernel
theorem d_law_580 : decode code 580 = .ok (.iaload, 1) := by decide +kernel
theorem d_law_581 : decode code 581 = .ok (.invokevirtual 55, 3) := by decide +kernel
theorem d_law_584 : decode code 584 = .ok (.aload_n 2, 1) := by decide +kernel
theorem d_law_585 : decode code 585 = .ok (.aload_n 0, 1) := by decide +kernel
theorem d_law_586 : decode code 586 = .ok (.iload_n 3, 1) := by decide +kernel
theorem d_law_587 : decode code 587 = .ok (.iconst 1, 1) := by decide +kernel
theorem d_law_588 : decode code 588 = .ok (.iadd, 1) := by decide +kernel
theorem d_law_589 : decode code 589 = .ok (.iaload, 1) := by decide +kernel
theorem d_law_590 : decode code 590 = .ok (.aload_n 0, 1) := by decide +kernel
theorem d_law_591 : decode code 591 = .ok (.iload_n 3, 1) := by decide +kernel
theorem d_law_592 : decode code 592 = .ok (.iconst 2, 1) := by decide +kernel
theorem d_law_593 : decode code 593 = .ok (.iadd, 1) := by decide +kernel
theorem d_law_594 : decode code 594 = .ok (.iaload, 1) := by decide +kernel
theorem d_law_595 : decode code 595 = .ok (.aload_n 0, 1) := by decide +kernel
theorem d_law_596 : decode code 596 = .ok (.iload_n 3, 1) := by decide +kernel
theorem d_law_597 : decode code 597 = .ok (.iconst 3, 1) := by decide +kernel
theorem d_law_598 : decode code 598 = .ok (.iadd, 1) := by decide +kernel
theorem d_law_599 : decode code 599 = .ok (.iaload, 1) := by decide +kernel
theorem d_law_600 : decode code 600 = .ok (.invokevirtual 59, 3) := by decide +kernel
theorem d_law_603 : decode code 603 = .ok (.if_icmp .eq 960, 3) := by decide +kernel
theorem d_law_606 : decode code 606 = .ok (.iconst 0, 1) := by decide +kernel
theorem d_law_607 : decode code 607 = .ok (.ireturn, 1) := by decide +kernel
theorem d_law_608 : decode code 608 = .ok (.aload_n 1, 1) := by decide +kernel
theorem d_law_609 : decode code 609 = .ok (.aload_n 0, 1) := by decide +kernel
theorem d_law_610 : decode code 610 = .ok (.iload_n 3, 1) := by decide +kernel
theorem d_law_611 : decode code 611 = .ok (.iconst 1, 1) := by decide +kernel
theorem d_law_612 : decode code 612 = .ok (.iadd, 1) := by decide +kernel
theorem d_law_613 : decode code 613 = .ok (.iaload, 1) := by decide +kernel
theorem d_law_614 : decode code 614 = .ok (.invokevirtual 60, 3) := by decide +kernel
theorem d_law_617 : decode code 617 = .ok (.aload_n 2, 1) := by decide +kernel
theorem d_law_618 : decode code 618 = .ok (.aload_n 0, 1) := by decide +kernel
theorem d_law_619 : decode code 619 = .ok (.iload_n 3, 1) := by decide +kernel
theorem d_law_620 : decode code 620 = .ok (.iconst 1, 1) := by decide +kernel
theorem d_law_621 : decode code 621 = .ok (.iadd, 1) := by decide +kernel
theorem d_law_622 : decode code 622 = .ok (.iaload, 1) := by decide +kernel
theorem d_law_623 : decode code 623 = .ok (.invokevirtual 63, 3) := by decide +kernel
theorem d_law_626 : decode code 626 = .ok (.if_icmp .eq 937, 3) := by decide +kernel
theorem d_law_629 : decode code 629 = .ok (.iconst 0, 1) := by decide +kernel
theorem d_law_630 : decode code 630 = .ok (.ireturn, 1) := by decide +kernel
theorem d_law_631 : decode code 631 = .ok (.aload_n 1, 1) := by decide +kernel
theorem d_law_632 : decode code 632 = .ok (.aload_n 0, 1) := by decide +kernel
theorem d_law_633 : decode code 633 = .ok (.iload_n 3, 1) := by decide +kernel
theorem d_law_634 : decode code 634 = .ok (.iconst 1, 1) := by decide +kernel
theorem d_law_635 : decode code 635 = .ok (.iadd, 1) := by decide +kernel
theorem d_law_636 : decode code 636 = .ok (.iaload, 1) := by decide +kernel
theorem d_law_637 : decode code 637 = .ok (.invokevirtual 64, 3) := by decide +kernel
theorem d_law_640 : decode code 640 = .ok (.aload_n 2, 1) := by decide +kernel
theorem d_law_641 : decode code 641 = .ok (.aload_n 0, 1) := by decide +kernel
theorem d_law_642 : decode code 642 = .ok (.iload_n 3, 1) := by decide +kernel
theorem d_law_643 : decode code 643 = .ok (.iconst 1, 1) := by decide +kernel
theorem d_law_644 : decode code 644 = .ok (.iadd, 1) := by decide +kernel
theorem d_law_645 : decode code 645 = .ok (.iaload, 1) := by decide +kernel
theorem d_law_646 : decode code 646 = .ok (.invokevirtual 67, 3) := by decide +kernel
theorem d_law_649 : decode code 649 = .ok (.if_icmp .eq 914, 3) := by decide +kernel
theorem d_law_652 : decode code 652 = .ok (.iconst 0, 1) := by decide +kernel
theorem d_law_653 : decode code 653 = .ok (.ireturn, 1) := by decide +kernel
theorem d_law_654 : decode code 654 = .ok (.aload_n 1, 1) := by decide +kernel
theorem d_law_655 : decode code 655 = .ok (.aload_n 0, 1) := by decide +kernel
theorem d_law_656 : decode code 656 = .ok (.iload_n 3, 1) := by decide +kernel
theorem d_law_657 : decode code 657 = .ok (.iconst 1, 1) := by decide +kernel
theorem d_law_658 : decode code 658 = .ok (.iadd, 1) := by decide +kernel
theorem d_law_659 : decode code 659 = .ok (.iaload, 1) := by decide +kernel
theorem d_law_660 : decode code 660 = .ok (.invokevirtual 68, 3) := by decide +kernel
theorem d_law_663 : decode code 663 = .ok (.aload_n 2, 1) := by decide +kernel
theorem d_law_664 : decode code 664 = .ok (.aload_n 0, 1) := by decide +kernel
theorem d_law_665 : decode code 665 = .ok (.iload_n 3, 1) := by decide +kernel
theorem d_law_666 : decode code 666 = .ok (.iconst 1, 1) := by decide +kernel
theorem d_law_667 : decode code 667 = .ok (.iadd, 1) := by decide +kernel
theorem d_law_668 : decode code 668 = .ok (.iaload, 1) := by decide +kernel
theorem d_law_669 : decode code 669 = .ok (.invokevirtual 71, 3) := by decide +kernel
theorem d_law_672 : decode code 672 = .ok (.if_icmp .eq 891, 3) := by decide +kernel
theorem d_law_675 : decode code 675 = .ok (.iconst 0, 1) := by decide +kernel
theorem d_law_676 : decode code 676 = .ok (.ireturn, 1) := by decide +kernel
theorem d_law_677 : decode code 677 = .ok (.aload_n 1, 1) := by decide +kernel
theorem d_law_678 : decode code 678 = .ok (.invokevirtual 72, 3) := by decide +kernel
theorem d_law_681 : decode code 681 = .ok (.aload_n 2, 1) := by decide +kernel
theorem d_law_682 : decode code 682 = .ok (.invokevirtual 75, 3) := by decide +kernel
theorem d_law_685 : decode code 685 = .ok (.if_icmp .eq 878, 3) := by decide +kernel
theorem d_law_688 : decode code 688 = .ok (.iconst 0, 1) := by decide +kernel
theorem d_law_689 : decode code 689 = .ok (.ireturn, 1) := by decide +kernel
theorem d_law_690 : decode code 690 = .ok (.aload_n 1, 1) := by decide +kernel
theorem d_law_691 : decode code 691 = .ok (.aload_n 0, 1) := by decide +kernel
theorem d_law_692 : decode code 692 = .ok (.iload_n 3, 1) := by decide +kernel
theorem d_law_693 : decode code 693 = .ok (.iconst 1, 1) := by decide +kernel
theorem d_law_694 : decode code 694 = .ok (.iadd, 1) := by decide +kernel
theorem d_law_695 : decode code 695 = .ok (.iaload, 1) := by decide +kernel
theorem d_law_696 : decode code 696 = .ok (.aload_n 0, 1) := by decide +kernel
theorem d_law_697 : decode code 697 = .ok (.iload_n 3, 1) := by decide +kernel
theorem d_law_698 : decode code 698 = .ok (.iconst 2, 1) := by decide +kernel
theorem d_law_699 : decode code 699 = .ok (.iadd, 1) := by decide +kernel
theorem d_law_700 : decode code 700 = .ok (.iaload, 1) := by decide +kernel
theorem d_law_701 : decode code 701 = .ok (.invokevirtual 76, 3) := by decide +kernel
theorem d_law_704 : decode code 704 = .ok (.aload_n 2, 1) := by decide +kernel
theorem d_law_705 : decode code 705 = .ok (.aload_n 0, 1) := by decide +kernel
theorem d_law_706 : decode code 706 = .ok (.iload_n 3, 1) := by decide +kernel
theorem d_law_707 : decode code 707 = .ok (.iconst 1, 1) := by decide +kernel
theorem d_law_708 : decode code 708 = .ok (.iadd, 1) := by decide +kernel
theorem d_law_709 : decode code 709 = .ok (.iaload, 1) := by decide +kernel
theorem d_law_710 : decode code 710 = .ok (.aload_n 0, 1) := by decide +kernel
theorem d_law_711 : decode code 711 = .ok (.iload_n 3, 1) := by decide +kernel
theorem d_law_712 : decode code 712 = .ok (.iconst 2, 1) := by decide +kernel
theorem d_law_713 : decode code 713 = .ok (.iadd, 1) := by decide +kernel
theorem d_law_714 : decode code 714 = .ok (.iaload, 1) := by decide +kernel
theorem d_law_715 : decode code 715 = .ok (.invokevirtual 80, 3) := by decide +kernel
theorem d_law_718 : decode code 718 = .ok (.if_icmp .eq 845, 3) := by decide +kernel
theorem d_law_721 : decode code 721 = .ok (.iconst 0, 1) := by decide +kernel
theorem d_law_722 : decode code 722 = .ok (.ireturn, 1) := by decide +kernel
theorem d_law_723 : decode code 723 = .ok (.aload_n 1, 1) := by decide +kernel
theorem d_law_724 : decode code 724 = .ok (.aload_n 0, 1) := by decide +kernel
theorem d_law_725 : decode code 725 = .ok (.iload_n 3, 1) := by decide +kernel
theorem d_law_726 : decode code 726 = .ok (.iconst 1, 1) := by decide +kernel
theorem d_law_727 : decode code 727 = .ok (.iadd, 1) := by decide +kernel
theorem d_law_728 : decode code 728 = .ok (.iaload, 1) := by decide +kernel
theorem d_law_729 : decode code 729 = .ok (.invokevirtual 81, 3) := by decide +kernel
theorem d_law_732 : decode code 732 = .ok (.aload_n 2, 1) := by decide +kernel
theorem d_law_733 : decode code 733 = .ok (.aload_n 0, 1) := by decide +kernel
theorem d_law_734 : decode code 734 = .ok (.iload_n 3, 1) := by decide +kernel
theorem d_law_735 : decode code 735 = .ok (.iconst 1, 1) := by decide +kernel
theorem d_law_736 : decode code 736 = .ok (.iadd, 1) := by decide +kernel
theorem d_law_737 : decode code 737 = .ok (.iaload, 1) := by decide +kernel
theorem d_law_738 : decode code 738 = .ok (.invokevirtual 84, 3) := by decide +kernel
theorem d_law_741 : decode code 741 = .ok (.if_icmp .eq 822, 3) := by decide +kernel
theorem d_law_744 : decode code 744 = .ok (.iconst 0, 1) := by decide +kernel
theorem d_law_745 : decode code 745 = .ok (.ireturn, 1) := by decide +kernel
theorem d_law_746 : decode code 746 = .ok (.aload_n 1, 1) := by decide +kernel
theorem d_law_747 : decode code 747 = .ok (.aload_n 0, 1) := by decide +kernel
theorem d_law_748 : decode code 748 = .ok (.iload_n 3, 1) := by decide +kernel
theorem d_law_749 : decode code 749 = .ok (.iconst 1, 1) := by decide +kernel
theorem d_law_750 : decode code 750 = .ok (.iadd, 1) := by decide +kernel
theorem d_law_751 : decode code 751 = .ok (.iaload, 1) := by decide +kernel
theorem d_law_752 : decode code 752 = .ok (.aload_n 0, 1) := by decide +kernel
theorem d_law_753 : decode code 753 = .ok (.iload_n 3, 1) := by decide +kernel
theorem d_law_754 : decode code 754 = .ok (.iconst 2, 1) := by decide +kernel
theorem d_law_755 : decode code 755 = .ok (.iadd, 1) := by decide +kernel
theorem d_law_756 : decode code 756 = .ok (.iaload, 1) := by decide +kernel
theorem d_law_757 : decode code 757 = .ok (.invokevirtual 85, 3) := by decide +kernel
theorem d_law_760 : decode code 760 = .ok (.aload_n 2, 1) := by decide +kernel
theorem d_law_761 : decode code 761 = .ok (.aload_n 0, 1) := by decide +kernel
theorem d_law_762 : decode code 762 = .ok (.iload_n 3, 1) := by decide +kernel
theorem d_law_763 : decode code 763 = .ok (.iconst 1, 1) := by decide +kernel
theorem d_law_764 : decode code 764 = .ok (.iadd, 1) := by decide +kernel
theorem d_law_765 : decode code 765 = .ok (.iaload, 1) := by decide +kernel
theorem d_law_766 : decode code 766 = .ok (.aload_n 0, 1) := by decide +kernel
theorem d_law_767 : decode code 767 = .ok (.iload_n 3, 1) := by decide +kernel
theorem d_law_768 : decode code 768 = .ok (.iconst 2, 1) := by decide +kernel
theorem d_law_769 : decode code 769 = .ok (.iadd, 1) := by decide +kernel
theorem d_law_770 : decode code 770 = .ok (.iaload, 1) := by decide +kernel
theorem d_law_771 : decode code 771 = .ok (.invokevirtual 88, 3) := by decide +kernel
theorem d_law_774 : decode code 774 = .ok (.if_icmp .eq 789, 3) := by decide +kernel
theorem d_law_777 : decode code 777 = .ok (.iconst 0, 1) := by decide +kernel
theorem d_law_778 : decode code 778 = .ok (.ireturn, 1) := by decide +kernel
theorem d_law_779 : decode code 779 = .ok (.aload_n 1, 1) := by decide +kernel
theorem d_law_780 : decode code 780 = .ok (.aload_n 0, 1) := by decide +kernel
theorem d_law_781 : decode code 781 = .ok (.iload_n 3, 1) := by decide +kernel
theorem d_law_782 : decode code 782 = .ok (.iconst 1, 1) := by decide +kernel
theorem d_law_783 : decode code 783 = .ok (.iadd, 1) := by decide +kernel
theorem d_law_784 : decode code 784 = .ok (.iaload, 1) := by decide +kernel
theorem d_law_785 : decode code 785 = .ok (.aload_n 0, 1) := by decide +kernel
theorem d_law_786 : decode code 786 = .ok (.iload_n 3, 1) := by decide +kernel
theorem d_law_787 : decode code 787 = .ok (.iconst 2, 1) := by decide +kernel
theorem d_law_788 : decode code 788 = .ok (.iadd, 1) := by decide +kernel
theorem d_law_789 : decode code 789 = .ok (.iaload, 1) := by decide +kernel
theorem d_law_790 : decode code 790 = .ok (.invokevirtual 89, 3) := by decide +kernel
theorem d_law_793 : decode code 793 = .ok (.aload_n 2, 1) := by decide +kernel
theorem d_law_794 : decode code 794 = .ok (.aload_n 0, 1) := by decide +kernel
theorem d_law_795 : decode code 795 = .ok (.iload_n 3, 1) := by decide +kernel
theorem d_law_796 : decode code 796 = .ok (.iconst 1, 1) := by decide +kernel
theorem d_law_797 : decode code 797 = .ok (.iadd, 1) := by decide +kernel
theorem d_law_798 : decode code 798 = .ok (.iaload, 1) := by decide +kernel
theorem d_law_799 : decode code 799 = .ok (.aload_n 0, 1) := by decide +kernel
theorem d_law_800 : decode code 800 = .ok (.iload_n 3, 1) := by decide +kernel
theorem d_law_801 : decode code 801 = .ok (.iconst 2, 1) := by decide +kernel
theorem d_law_802 : decode code 802 = .ok (.iadd, 1) := by decide +kernel
theorem d_law_803 : decode code 803 = .ok (.iaload, 1) := by decide +kernel
theorem d_law_804 : decode code 804 = .ok (.invokevirtual 92, 3) := by decide +kernel
theorem d_law_807 : decode code 807 = .ok (.if_icmp .eq 756, 3) := by decide +kernel
theorem d_law_810 : decode code 810 = .ok (.iconst 0, 1) := by decide +kernel
theorem d_law_811 : decode code 811 = .ok (.ireturn, 1) := by decide +kernel
theorem d_law_812 : decode code 812 = .ok (.aload_n 1, 1) := by decide +kernel
theorem d_law_813 : decode code 813 = .ok (.aload_n 0, 1) := by decide +kernel
theorem d_law_814 : decode code 814 = .ok (.iload_n 3, 1) := by decide +kernel
theorem d_law_815 : decode code 815 = .ok (.iconst 1, 1) := by decide +kernel
theorem d_law_816 : decode code 816 = .ok (.iadd, 1) := by decide +kernel
theorem d_law_817 : decode code 817 = .ok (.iaload, 1) := by decide +kernel
theorem d_law_818 : decode code 818 = .ok (.aload_n 0, 1) := by decide +kernel
theorem d_law_819 : decode code 819 = .ok (.iload_n 3, 1) := by decide +kernel
theorem d_law_820 : decode code 820 = .ok (.iconst 2, 1) := by decide +kernel
theorem d_law_821 : decode code 821 = .ok (.iadd, 1) := by decide +kernel
theorem d_law_822 : decode code 822 = .ok (.iaload, 1) := by decide +kernel
theorem d_law_823 : decode code 823 = .ok (.aload_n 0, 1) := by decide +kernel
theorem d_law_824 : decode code 824 = .ok (.iload_n 3, 1) := by decide +kernel
theorem d_law_825 : decode code 825 = .ok (.iconst 3, 1) := by decide +kernel
theorem d_law_826 : decode code 826 = .ok (.iadd, 1) := by decide +kernel
theorem d_law_827 : decode code 827 = .ok (.iaload, 1) := by decide +kernel
theorem d_law_828 : decode code 828 = .ok (.invokevirtual 93, 3) := by decide +kernel
theorem d_law_831 : decode code 831 = .ok (.aload_n 2, 1) := by decide +kernel
theorem d_law_832 : decode code 832 = .ok (.aload_n 0, 1) := by decide +kernel
theorem d_law_833 : decode code 833 = .ok (.iload_n 3, 1) := by decide +kernel
theorem d_law_834 : decode code 834 = .ok (.iconst 1, 1) := by decide +kernel
theorem d_law_835 : decode code 835 = .ok (.iadd, 1) := by decide +kernel
theorem d_law_836 : decode code 836 = .ok (.iaload, 1) := by decide +kernel
theorem d_law_837 : decode code 837 = .ok (.aload_n 0, 1) := by decide +kernel
theorem d_law_838 : decode code 838 = .ok (.iload_n 3, 1) := by decide +kernel
theorem d_law_839 : decode code 839 = .ok (.iconst 2, 1) := by decide +kernel
theorem d_law_840 : decode code 840 = .ok (.iadd, 1) := by decide +kernel
theorem d_law_841 : decode code 841 = .ok (.iaload, 1) := by decide +kernel
theorem d_law_842 : decode code 842 = .ok (.aload_n 0, 1) := by decide +kernel
theorem d_law_843 : decode code 843 = .ok (.iload_n 3, 1) := by decide +kernel
theorem d_law_844 : decode code 844 = .ok (.iconst 3, 1) := by decide +kernel
theorem d_law_845 : decode code 845 = .ok (.iadd, 1) := by decide +kernel
theorem d_law_846 : decode code 846 = .ok (.iaload, 1) := by decide +kernel
theorem d_law_847 : decode code 847 = .ok (.invokevirtual 96, 3) := by decide +kernel
theorem d_law_850 : decode code 850 = .ok (.if_icmp .eq 713, 3) := by decide +kernel
theorem d_law_853 : decode code 853 = .ok (.iconst 0, 1) := by decide +kernel
theorem d_law_854 : decode code 854 = .ok (.ireturn, 1) := by decide +kernel
theorem d_law_855 : decode code 855 = .ok (.aload_n 1, 1) := by decide +kernel
theorem d_law_856 : decode code 856 = .ok (.invokevirtual 97, 3) := by decide +kernel
theorem d_law_859 : decode code 859 = .ok (.aload_n 2, 1) := by decide +kernel
theorem d_law_860 : decode code 860 = .ok (.invokevirtual 100, 3) := by decide +kernel
theorem d_law_863 : decode code 863 = .ok (.if_icmp .eq 700, 3) := by decide +kernel
theorem d_law_866 : decode code 866 = .ok (.iconst 0, 1) := by decide +kernel
theorem d_law_867 : decode code 867 = .ok (.ireturn, 1) := by decide +kernel
theorem d_law_868 : decode code 868 = .ok (.aload_n 1, 1) := by decide +kernel
theorem d_law_869 : decode code 869 = .ok (.invokevirtual 101, 3) := by decide +kernel
theorem d_law_872 : decode code 872 = .ok (.aload_n 2, 1) := by decide +kernel
theorem d_law_873 : decode code 873 = .ok (.invokevirtual 104, 3) := by decide +kernel
theorem d_law_876 : decode code 876 = .ok (.if_icmp .eq 687, 3) := by decide +kernel
theorem d_law_879 : decode code 879 = .ok (.iconst 0, 1) := by decide +kernel
theorem d_law_880 : decode code 880 = .ok (.ireturn, 1) := by decide +kernel
theorem d_law_881 : decode code 881 = .ok (.aload_n 1, 1) := by decide +kernel
theorem d_law_882 : decode code 882 = .ok (.aload_n 0, 1) := by decide +kernel
theorem d_law_883 : decode code 883 = .ok (.iload_n 3, 1) := by decide +kernel
theorem d_law_884 : decode code 884 = .ok (.iconst 1, 1) := by decide +kernel
theorem d_law_885 : decode code 885 = .ok (.iadd, 1) := by decide +kernel
theorem d_law_886 : decode code 886 = .ok (.iaload, 1) := by decide +kernel
theorem d_law_887 : decode code 887 = .ok (.ifCond .eq 7, 3) := by decide +kernel
theorem d_law_890 : decode code 890 = .ok (.iconst 1, 1) := by decide +kernel
theorem d_law_891 : decode code 891 = .ok (.goto 4, 3) := by decide +kernel
theorem d_law_894 : decode code 894 = .ok (.iconst 0, 1) := by decide +kernel
theorem d_law_895 : decode code 895 = .ok (.invokevirtual 105, 3) := by decide +kernel
theorem d_law_898 : decode code 898 = .ok (.aload_n 2, 1) := by decide +kernel
theorem d_law_899 : decode code 899 = .ok (.aload_n 0, 1) := by decide +kernel
theorem d_law_900 : decode code 900 = .ok (.iload_n 3, 1) := by decide +kernel
theorem d_law_901 : decode code 901 = .ok (.iconst 1, 1) := by decide +kernel
theorem d_law_902 : decode code 902 = .ok (.iadd, 1) := by decide +kernel
theorem d_law_903 : decode code 903 = .ok (.iaload, 1) := by decide +kernel
theorem d_law_904 : decode code 904 = .ok (.ifCond .eq 7, 3) := by decide +kernel
theorem d_law_907 : decode code 907 = .ok (.iconst 1, 1) := by decide +kernel
theorem d_law_908 : decode code 908 = .ok (.goto 4, 3) := by decide +kernel
theorem d_law_911 : decode code 911 = .ok (.iconst 0, 1) := by decide +kernel
theorem d_law_912 : decode code 912 = .ok (.invokevirtual 109, 3) := by decide +kernel
theorem d_law_915 : decode code 915 = .ok (.if_icmp .eq 648, 3) := by decide +kernel
theorem d_law_918 : decode code 918 = .ok (.iconst 0, 1) := by decide +kernel
theorem d_law_919 : decode code 919 = .ok (.ireturn, 1) := by decide +kernel
theorem d_law_920 : decode code 920 = .ok (.aload_n 1, 1) := by decide +kernel
theorem d_law_921 : decode code 921 = .ok (.invokevirtual 110, 3) := by decide +kernel
theorem d_law_924 : decode code 924 = .ok (.aload_n 2, 1) := by decide +kernel
theorem d_law_925 : decode code 925 = .ok (.invokevirtual 113, 3) := by decide +kernel
theorem d_law_928 : decode code 928 = .ok (.if_icmp .eq 635, 3) := by decide +kernel
theorem d_law_931 : decode code 931 = .ok (.iconst 0, 1) := by decide +kernel
theorem d_law_932 : decode code 932 = .ok (.ireturn, 1) := by decide +kernel
theorem d_law_933 : decode code 933 = .ok (.aload_n 1, 1) := by decide +kernel
theorem d_law_934 : decode code 934 = .ok (.aload_n 0, 1) := by decide +kernel
theorem d_law_935 : decode code 935 = .ok (.iload_n 3, 1) := by decide +kernel
theorem d_law_936 : decode code 936 = .ok (.iconst 1, 1) := by decide +kernel
theorem d_law_937 : decode code 937 = .ok (.iadd, 1) := by decide +kernel
theorem d_law_938 : decode code 938 = .ok (.iaload, 1) := by decide +kernel
theorem d_law_939 : decode code 939 = .ok (.invokevirtual 114, 3) := by decide +kernel
theorem d_law_942 : decode code 942 = .ok (.aload_n 2, 1) := by decide +kernel
theorem d_law_943 : decode code 943 = .ok (.aload_n 0, 1) := by decide +kernel
theorem d_law_944 : decode code 944 = .ok (.iload_n 3, 1) := by decide +kernel
theorem d_law_945 : decode code 945 = .ok (.iconst 1, 1) := by decide +kernel
theorem d_law_946 : decode code 946 = .ok (.iadd, 1) := by decide +kernel
theorem d_law_947 : decode code 947 = .ok (.iaload, 1) := by decide +kernel
theorem d_law_948 : decode code 948 = .ok (.invokevirtual 117, 3) := by decide +kernel
theorem d_law_951 : decode code 951 = .ok (.if_icmp .eq 612, 3) := by decide +kernel
theorem d_law_954 : decode code 954 = .ok (.iconst 0, 1) := by decide +kernel
theorem d_law_955 : decode code 955 = .ok (.ireturn, 1) := by decide +kernel
theorem d_law_956 : decode code 956 = .ok (.aload_n 1, 1) := by decide +kernel
theorem d_law_957 : decode code 957 = .ok (.aload_n 0, 1) := by decide +kernel
theorem d_law_958 : decode code 958 = .ok (.iload_n 3, 1) := by decide +kernel
theorem d_law_959 : decode code 959 = .ok (.iconst 1, 1) := by decide +kernel
theorem d_law_960 : decode code 960 = .ok (.iadd, 1) := by decide +kernel
theorem d_law_961 : decode code 961 = .ok (.iaload, 1) := by decide +kernel
theorem d_law_962 : decode code 962 = .ok (.invokevirtual 118, 3) := by decide +kernel
theorem d_law_965 : decode code 965 = .ok (.aload_n 2, 1) := by decide +kernel
theorem d_law_966 : decode code 966 = .ok (.aload_n 0, 1) := by decide +kernel
theorem d_law_967 : decode code 967 = .ok (.iload_n 3, 1) := by decide +kernel
theorem d_law_968 : decode code 968 = .ok (.iconst 1, 1) := by decide +kernel
theorem d_law_969 : decode code 969 = .ok (.iadd, 1) := by decide +kernel
theorem d_law_970 : decode code 970 = .ok (.iaload, 1) := by decide +kernel
theorem d_law_971 : decode code 971 = .ok (.invokevirtual 121, 3) := by decide +kernel
theorem d_law_974 : decode code 974 = .ok (.if_icmp .eq 589, 3) := by decide +kernel
theorem d_law_977 : decode code 977 = .ok (.iconst 0, 1) := by decide +kernel
theorem d_law_978 : decode code 978 = .ok (.ireturn, 1) := by decide +kernel
theorem d_law_979 : decode code 979 = .ok (.aload_n 1, 1) := by decide +kernel
theorem d_law_980 : decode code 980 = .ok (.invokevirtual 122, 3) := by decide +kernel
theorem d_law_983 : decode code 983 = .ok (.aload_n 2, 1) := by decide +kernel
theorem d_law_984 : decode code 984 = .ok (.invokevirtual 125, 3) := by decide +kernel
theorem d_law_987 : decode code 987 = .ok (.if_icmp .eq 576, 3) := by decide +kernel
theorem d_law_990 : decode code 990 = .ok (.iconst 0, 1) := by decide +kernel
theorem d_law_991 : decode code 991 = .ok (.ireturn, 1) := by decide +kernel
theorem d_law_992 : decode code 992 = .ok (.aload_n 1, 1) := by decide +kernel
theorem d_law_993 : decode code 993 = .ok (.invokevirtual 126, 3) := by decide +kernel
theorem d_law_996 : decode code 996 = .ok (.aload_n 2, 1) := by decide +kernel
theorem d_law_997 : decode code 997 = .ok (.invokevirtual 129, 3) := by decide +kernel
theorem d_law_1000 : decode code 1000 = .ok (.if_icmp .eq 563, 3) := by decide +kernel
theorem d_law_1003 : decode code 1003 = .ok (.iconst 0, 1) := by decide +kernel
theorem d_law_1004 : decode code 1004 = .ok (.ireturn, 1) := by decide +kernel
theorem d_law_1005 : decode code 1005 = .ok (.aload_n 1, 1) := by decide +kernel
theorem d_law_1006 : decode code 1006 = .ok (.aload_n 0, 1) := by decide +kernel
theorem d_law_1007 : decode code 1007 = .ok (.iload_n 3, 1) := by decide +kernel
theorem d_law_1008 : decode code 1008 = .ok (.iconst 1, 1) := by decide +kernel
theorem d_law_1009 : decode code 1009 = .ok (.iadd, 1) := by decide +kernel
theorem d_law_1010 : decode code 1010 = .ok (.iaload, 1) := by decide +kernel
theorem d_law_1011 : decode code 1011 = .ok (.aload_n 0, 1) := by decide +kernel
theorem d_law_1012 : decode code 1012 = .ok (.iload_n 3, 1) := by decide +kernel
theorem d_law_1013 : decode code 1013 = .ok (.iconst 2, 1) := by decide +kernel
theorem d_law_1014 : decode code 1014 = .ok (.iadd, 1) := by decide +kernel
theorem d_law_1015 : decode code 1015 = .ok (.iaload, 1) := by decide +kernel
theorem d_law_1016 : decode code 1016 = .ok (.invokevirtual 130, 3) := by decide +kernel
theorem d_law_1019 : decode code 1019 = .ok (.aload_n 2, 1) := by decide +kernel
theorem d_law_1020 : decode code 1020 = .ok (.aload_n 0, 1) := by decide +kernel
theorem d_law_1021 : decode code 1021 = .ok (.iload_n 3, 1) := by decide +kernel
theorem d_law_1022 : decode code 1022 = .ok (.iconst 1, 1) := by decide +kernel
theorem d_law_1023 : decode code 1023 = .ok (.iadd, 1) := by decide +kernel
theorem d_law_1024 : decode code 1024 = .ok (.iaload, 1) := by decide +kernel
theorem d_law_1025 : decode code 1025 = .ok (.aload_n 0, 1) := by decide +kernel
theorem d_law_1026 : decode code 1026 = .ok (.iload_n 3, 1) := by decide +kernel
theorem d_law_1027 : decode code 1027 = .ok (.iconst 2, 1) := by decide +kernel
theorem d_law_1028 : decode code 1028 = .ok (.iadd, 1) := by decide +kernel
theorem d_law_1029 : decode code 1029 = .ok (.iaload, 1) := by decide +kernel
theorem d_law_1030 : decode code 1030 = .ok (.invokevirtual 133, 3) := by decide +kernel
theorem d_law_1033 : decode code 1033 = .ok (.if_icmp .eq 530, 3) := by decide +kernel
theorem d_law_1036 : decode code 1036 = .ok (.iconst 0, 1) := by decide +kernel
theorem d_law_1037 : decode code 1037 = .ok (.ireturn, 1) := by decide +kernel
theorem d_law_1038 : decode code 1038 = .ok (.aload_n 1, 1) := by decide +kernel
theorem d_law_1039 : decode code 1039 = .ok (.aload_n 0, 1) := by decide +kernel
theorem d_law_1040 : decode code 1040 = .ok (.iload_n 3, 1) := by decide +kernel
theorem d_law_1041 : decode code 1041 = .ok (.iconst 1, 1) := by decide +kernel
theorem d_law_1042 : decode code 1042 = .ok (.iadd, 1) := by decide +kernel
theorem d_law_1043 : decode code 1043 = .ok (.iaload, 1) := by decide +kernel
theorem d_law_1044 : decode code 1044 = .ok (.aload_n 0, 1) := by decide +kernel
theorem d_law_1045 : decode code 1045 = .ok (.iload_n 3, 1) := by decide +kernel
theorem d_law_1046 : decode code 1046 = .ok (.iconst 2, 1) := by decide +kernel
theorem d_law_1047 : decode code 1047 = .ok (.iadd, 1) := by decide +kernel
theorem d_law_1048 : decode code 1048 = .ok (.iaload, 1) := by decide +kernel
theorem d_law_1049 : decode code 1049 = .ok (.ifCond .eq 7, 3) := by decide +kernel
theorem d_law_1052 : decode code 1052 = .ok (.iconst 1, 1) := by decide +kernel
theorem d_law_1053 : decode code 1053 = .ok (.goto 4, 3) := by decide +kernel
theorem d_law_1056 : decode code 1056 = .ok (.iconst 0, 1) := by decide +kernel
theorem d_law_1057 : decode code 1057 = .ok (.invokevirtual 134, 3) := by decide +kernel
theorem d_law_1060 : decode code 1060 = .ok (.aload_n 2, 1) := by decide +kernel
theorem d_law_1061 : decode code 1061 = .ok (.aload_n 0, 1) := by decide +kernel
theorem d_law_1062 : decode code 1062 = .ok (.iload_n 3, 1) := by decide +kernel
theorem d_law_1063 : decode code 1063 = .ok (.iconst 1, 1) := by decide +kernel
theorem d_law_1064 : decode code 1064 = .ok (.iadd, 1) := by decide +kernel
theorem d_law_1065 : decode code 1065 = .ok (.iaload, 1) := by decide +kernel
theorem d_law_1066 : decode code 1066 = .ok (.aload_n 0, 1) := by decide +kernel
theorem d_law_1067 : decode code 1067 = .ok (.iload_n 3, 1) := by decide +kernel
theorem d_law_1068 : decode code 1068 = .ok (.iconst 2, 1) := by decide +kernel
theorem d_law_1069 : decode code 1069 = .ok (.iadd, 1) := by decide +kernel
theorem d_law_1070 : decode code 1070 = .ok (.iaload, 1) := by decide +kernel
theorem d_law_1071 : decode code 1071 = .ok (.ifCond .eq 7, 3) := by decide +kernel
theorem d_law_1074 : decode code 1074 = .ok (.iconst 1, 1) := by decide +kernel
theorem d_law_1075 : decode code 1075 = .ok (.goto 4, 3) := by decide +kernel
theorem d_law_1078 : decode code 1078 = .ok (.iconst 0, 1) := by decide +kernel
theorem d_law_1079 : decode code 1079 = .ok (.invokevirtual 138, 3) := by decide +kernel
theorem d_law_1082 : decode code 1082 = .ok (.lcmp, 1) := by decide +kernel
theorem d_law_1083 : decode code 1083 = .ok (.ifCond .eq 480, 3) := by decide +kernel
theorem d_law_1086 : decode code 1086 = .ok (.iconst 0, 1) := by decide +kernel
theorem d_law_1087 : decode code 1087 = .ok (.ireturn, 1) := by decide +kernel
theorem d_law_1088 : decode code 1088 = .ok (.aload_n 1, 1) := by decide +kernel
theorem d_law_1089 : decode code 1089 = .ok (.aload_n 0, 1) := by decide +kernel
theorem d_law_1090 : decode code 1090 = .ok (.iload_n 3, 1) := by decide +kernel
theorem d_law_1091 : decode code 1091 = .ok (.iconst 1, 1) := by decide +kernel
theorem d_law_1092 : decode code 1092 = .ok (.iadd, 1) := by decide +kernel
theorem d_law_1093 : decode code 1093 = .ok (.iaload, 1) := by decide +kernel
theorem d_law_1094 : decode code 1094 = .ok (.invokevirtual 139, 3) := by decide +kernel
theorem d_law_1097 : decode code 1097 = .ok (.aload_n 2, 1) := by decide +kernel
theorem d_law_1098 : decode code 1098 = .ok (.aload_n 0, 1) := by decide +kernel
theorem d_law_1099 : decode code 1099 = .ok (.iload_n 3, 1) := by decide +kernel
theorem d_law_1100 : decode code 1100 = .ok (.iconst 1, 1) := by decide +kernel
theorem d_law_1101 : decode code 1101 = .ok (.iadd, 1) := by decide +kernel
theorem d_law_1102 : decode code 1102 = .ok (.iaload, 1) := by decide +kernel
theorem d_law_1103 : decode code 1103 = .ok (.invokevirtual 142, 3) := by decide +kernel
theorem d_law_1106 : decode code 1106 = .ok (.if_icmp .eq 457, 3) := by decide +kernel
theorem d_law_1109 : decode code 1109 = .ok (.iconst 0, 1) := by decide +kernel
theorem d_law_1110 : decode code 1110 = .ok (.ireturn, 1) := by decide +kernel
theorem d_law_1111 : decode code 1111 = .ok (.aload_n 1, 1) := by decide +kernel
theorem d_law_1112 : decode code 1112 = .ok (.invokevirtual 143, 3) := by decide +kernel
theorem d_law_1115 : decode code 1115 = .ok (.aload_n 2, 1) := by decide +kernel
theorem d_law_1116 : decode code 1116 = .ok (.invokevirtual 146, 3) := by decide +kernel
theorem d_law_1119 : decode code 1119 = .ok (.if_icmp .eq 444, 3) := by decide +kernel
theorem d_law_1122 : decode code 1122 = .ok (.iconst 0, 1) := by decide +kernel
theorem d_law_1123 : decode code 1123 = .ok (.ireturn, 1) := by decide +kernel
theorem d_law_1124 : decode code 1124 = .ok (.aload_n 1, 1) := by decide +kernel
theorem d_law_1125 : decode code 1125 = .ok (.aload_n 0, 1) := by decide +kernel
theorem d_law_1126 : decode code 1126 = .ok (.iload_n 3, 1) := by decide +kernel
theorem d_law_1127 : decode code 1127 = .ok (.iconst 1, 1) := by decide +kernel
theorem d_law_1128 : decode code 1128 = .ok (.iadd, 1) := by decide +kernel
theorem d_law_1129 : decode code 1129 = .ok (.iaload, 1) := by decide +kernel
theorem d_law_1130 : decode code 1130 = .ok (.invokevirtual 147, 3) := by decide +kernel
theorem d_law_1133 : decode code 1133 = .ok (.aload_n 2, 1) := by decide +kernel
theorem d_law_1134 : decode code 1134 = .ok (.aload_n 0, 1) := by decide +kernel
theorem d_law_1135 : decode code 1135 = .ok (.iload_n 3, 1) := by decide +kernel
theorem d_law_1136 : decode code 1136 = .ok (.iconst 1, 1) := by decide +kernel
theorem d_law_1137 : decode code 1137 = .ok (.iadd, 1) := by decide +kernel
theorem d_law_1138 : decode code 1138 = .ok (.iaload, 1) := by decide +kernel
theorem d_law_1139 : decode code 1139 = .ok (.invokevirtual 150, 3) := by decide +kernel
theorem d_law_1142 : decode code 1142 = .ok (.if_icmp .eq 421, 3) := by decide +kernel
theorem d_law_1145 : decode code 1145 = .ok (.iconst 0, 1) := by decide +kernel
theorem d_law_1146 : decode code 1146 = .ok (.ireturn, 1) := by decide +kernel
theorem d_law_1147 : decode code 1147 = .ok (.aload_n 1, 1) := by decide +kernel
theorem d_law_1148 : decode code 1148 = .ok (.aload_n 0, 1) := by decide +kernel
theorem d_law_1149 : decode code 1149 = .ok (.iload_n 3, 1) := by decide +kernel
theorem d_law_1150 : decode code 1150 = .ok (.iconst 1, 1) := by decide +kernel
theorem d_law_1151 : decode code 1151 = .ok (.iadd, 1) := by decide +kernel
theorem d_law_1152 : decode code 1152 = .ok (.iaload, 1) := by decide +kernel
theorem d_law_1153 : decode code 1153 = .ok (.invokevirtual 151, 3) := by decide +kernel
theorem d_law_1156 : decode code 1156 = .ok (.aload_n 2, 1) := by decide +kernel
theorem d_law_1157 : decode code 1157 = .ok (.aload_n 0, 1) := by decide +kernel
theorem d_law_1158 : decode code 1158 = .ok (.iload_n 3, 1) := by decide +kernel
theorem d_law_1159 : decode code 1159 = .ok (.iconst 1, 1) := by decide +kernel
theorem d_law_1160 : decode code 1160 = .ok (.iadd, 1) := by decide +kernel
theorem d_law_1161 : decode code 1161 = .ok (.iaload, 1) := by decide +kernel
theorem d_law_1162 : decode code 1162 = .ok (.invokevirtual 154, 3) := by decide +kernel
theorem d_law_1165 : decode code 1165 = .ok (.if_icmp .eq 398, 3) := by decide +kernel
theorem d_law_1168 : decode code 1168 = .ok (.iconst 0, 1) := by decide +kernel
theorem d_law_1169 : decode code 1169 = .ok (.ireturn, 1) := by decide +kernel
theorem d_law_1170 : decode code 1170 = .ok (.aload_n 1, 1) := by decide +kernel
theorem d_law_1171 : decode code 1171 = .ok (.invokevirtual 155, 3) := by decide +kernel
theorem d_law_1174 : decode code 1174 = .ok (.aload_n 2, 1) := by decide +kernel
theorem d_law_1175 : decode code 1175 = .ok (.invokevirtual 158, 3) := by decide +kernel
theorem d_law_1178 : decode code 1178 = .ok (.if_icmp .eq 385, 3) := by decide +kernel
theorem d_law_1181 : decode code 1181 = .ok (.iconst 0, 1) := by decide +kernel
theorem d_law_1182 : decode code 1182 = .ok (.ireturn, 1) := by decide +kernel
theorem d_law_1183 : decode code 1183 = .ok (.aload_n 1, 1) := by decide +kernel
theorem d_law_1184 : decode code 1184 = .ok (.aload_n 0, 1) := by decide +kernel
theorem d_law_1185 : decode code 1185 = .ok (.iload_n 3, 1) := by decide +kernel
theorem d_law_1186 : decode code 1186 = .ok (.iconst 1, 1) := by decide +kernel
theorem d_law_1187 : decode code 1187 = .ok (.iadd, 1) := by decide +kernel
theorem d_law_1188 : decode code 1188 = .ok (.iaload, 1) := by decide +kernel
theorem d_law_1189 : decode code 1189 = .ok (.invokevirtual 159, 3) := by decide +kernel
theorem d_law_1192 : decode code 1192 = .ok (.aload_n 2, 1) := by decide +kernel
theorem d_law_1193 : decode code 1193 = .ok (.aload_n 0, 1) := by decide +kernel
theorem d_law_1194 : decode code 1194 = .ok (.iload_n 3, 1) := by decide +kernel
theorem d_law_1195 : decode code 1195 = .ok (.iconst 1, 1) := by decide +kernel
theorem d_law_1196 : decode code 1196 = .ok (.iadd, 1) := by decide +kernel
theorem d_law_1197 : decode code 1197 = .ok (.iaload, 1) := by decide +kernel
theorem d_law_1198 : decode code 1198 = .ok (.invokevirtual 162, 3) := by decide +kernel
theorem d_law_1201 : decode code 1201 = .ok (.if_icmp .eq 362, 3) := by decide +kernel
theorem d_law_1204 : decode code 1204 = .ok (.iconst 0, 1) := by decide +kernel
theorem d_law_1205 : decode code 1205 = .ok (.ireturn, 1) := by decide +kernel
theorem d_law_1206 : decode code 1206 = .ok (.aload_n 1, 1) := by decide +kernel
theorem d_law_1207 : decode code 1207 = .ok (.aload_n 0, 1) := by decide +kernel
theorem d_law_1208 : decode code 1208 = .ok (.iload_n 3, 1) := by decide +kernel
theorem d_law_1209 : decode code 1209 = .ok (.iconst 1, 1) := by decide +kernel
theorem d_law_1210 : decode code 1210 = .ok (.iadd, 1) := by decide +kernel
theorem d_law_1211 : decode code 1211 = .ok (.iaload, 1) := by decide +kernel
theorem d_law_1212 : decode code 1212 = .ok (.invokevirtual 163, 3) := by decide +kernel
theorem d_law_1215 : decode code 1215 = .ok (.aload_n 2, 1) := by decide +kernel
theorem d_law_1216 : decode code 1216 = .ok (.aload_n 0, 1) := by decide +kernel
theorem d_law_1217 : decode code 1217 = .ok (.iload_n 3, 1) := by decide +kernel
theorem d_law_1218 : decode code 1218 = .ok (.iconst 1, 1) := by decide +kernel
theorem d_law_1219 : decode code 1219 = .ok (.iadd, 1) := by decide +kernel
theorem d_law_1220 : decode code 1220 = .ok (.iaload, 1) := by decide +kernel
theorem d_law_1221 : decode code 1221 = .ok (.invokevirtual 166, 3) := by decide +kernel
theorem d_law_1224 : decode code 1224 = .ok (.if_icmp .eq 339, 3) := by decide +kernel
theorem d_law_1227 : decode code 1227 = .ok (.iconst 0, 1) := by decide +kernel
theorem d_law_1228 : decode code 1228 = .ok (.ireturn, 1) := by decide +kernel
theorem d_law_1229 : decode code 1229 = .ok (.aload_n 1, 1) := by decide +kernel
theorem d_law_1230 : decode code 1230 = .ok (.aload_n 0, 1) := by decide +kernel
theorem d_law_1231 : decode code 1231 = .ok (.iload_n 3, 1) := by decide +kernel
theorem d_law_1232 : decode code 1232 = .ok (.iconst 1, 1) := by decide +kernel
theorem d_law_1233 : decode code 1233 = .ok (.iadd, 1) := by decide +kernel
theorem d_law_1234 : decode code 1234 = .ok (.iaload, 1) := by decide +kernel
theorem d_law_1235 : decode code 1235 = .ok (.invokevirtual 167, 3) := by decide +kernel
theorem d_law_1238 : decode code 1238 = .ok (.aload_n 2, 1) := by decide +kernel
theorem d_law_1239 : decode code 1239 = .ok (.aload_n 0, 1) := by decide +kernel
theorem d_law_1240 : decode code 1240 = .ok (.iload_n 3, 1) := by decide +kernel
theorem d_law_1241 : decode code 1241 = .ok (.iconst 1, 1) := by decide +kernel
theorem d_law_1242 : decode code 1242 = .ok (.iadd, 1) := by decide +kernel
theorem d_law_1243 : decode code 1243 = .ok (.iaload, 1) := by decide +kernel
theorem d_law_1244 : decode code 1244 = .ok (.invokevirtual 170, 3) := by decide +kernel
theorem d_law_1247 : decode code 1247 = .ok (.if_icmp .eq 316, 3) := by decide +kernel
theorem d_law_1250 : decode code 1250 = .ok (.iconst 0, 1) := by decide +kernel
theorem d_law_1251 : decode code 1251 = .ok (.ireturn, 1) := by decide +kernel
theorem d_law_1252 : decode code 1252 = .ok (.aload_n 1, 1) := by decide +kernel
theorem d_law_1253 : decode code 1253 = .ok (.aload_n 0, 1) := by decide +kernel
theorem d_law_1254 : decode code 1254 = .ok (.iload_n 3, 1) := by decide +kernel
theorem d_law_1255 : decode code 1255 = .ok (.iconst 1, 1) := by decide +kernel
theorem d_law_1256 : decode code 1256 = .ok (.iadd, 1) := by decide +kernel
theorem d_law_1257 : decode code 1257 = .ok (.iaload, 1) := by decide +kernel
theorem d_law_1258 : decode code 1258 = .ok (.invokevirtual 171, 3) := by decide +kernel
theorem d_law_1261 : decode code 1261 = .ok (.aload_n 2, 1) := by decide +kernel
theorem d_law_1262 : decode code 1262 = .ok (.aload_n 0, 1) := by decide +kernel
theorem d_law_1263 : decode code 1263 = .ok (.iload_n 3, 1) := by decide +kernel
theorem d_law_1264 : decode code 1264 = .ok (.iconst 1, 1) := by decide +kernel
theorem d_law_1265 : decode code 1265 = .ok (.iadd, 1) := by decide +kernel
theorem d_law_1266 : decode code 1266 = .ok (.iaload, 1) := by decide +kernel
theorem d_law_1267 : decode code 1267 = .ok (.invokevirtual 174, 3) := by decide +kernel
theorem d_law_1270 : decode code 1270 = .ok (.if_icmp .eq 293, 3) := by decide +kernel
theorem d_law_1273 : decode code 1273 = .ok (.iconst 0, 1) := by decide +kernel
theorem d_law_1274 : decode code 1274 = .ok (.ireturn, 1) := by decide +kernel
theorem d_law_1275 : decode code 1275 = .ok (.aload_n 1, 1) := by decide +kernel
theorem d_law_1276 : decode code 1276 = .ok (.aload_n 0, 1) := by decide +kernel
theorem d_law_1277 : decode code 1277 = .ok (.iload_n 3, 1) := by decide +kernel
theorem d_law_1278 : decode code 1278 = .ok (.iconst 1, 1) := by decide +kernel
theorem d_law_1279 : decode code 1279 = .ok (.iadd, 1) := by decide +kernel
theorem d_law_1280 : decode code 1280 = .ok (.iaload, 1) := by decide +kernel
theorem d_law_1281 : decode code 1281 = .ok (.aload_n 0, 1) := by decide +kernel
theorem d_law_1282 : decode code 1282 = .ok (.iload_n 3, 1) := by decide +kernel
theorem d_law_1283 : decode code 1283 = .ok (.iconst 2, 1) := by decide +kernel
theorem d_law_1284 : decode code 1284 = .ok (.iadd, 1) := by decide +kernel
theorem d_law_1285 : decode code 1285 = .ok (.iaload, 1) := by decide +kernel
theorem d_law_1286 : decode code 1286 = .ok (.ifCond .eq 7, 3) := by decide +kernel
theorem d_law_1289 : decode code 1289 = .ok (.iconst 1, 1) := by decide +kernel
theorem d_law_1290 : decode code 1290 = .ok (.goto 4, 3) := by decide +kernel
theorem d_law_1293 : decode code 1293 = .ok (.iconst 0, 1) := by decide +kernel
theorem d_law_1294 : decode code 1294 = .ok (.invokevirtual 175, 3) := by decide +kernel
theorem d_law_1297 : decode code 1297 = .ok (.aload_n 2, 1) := by decide +kernel
theorem d_law_1298 : decode code 1298 = .ok (.aload_n 0, 1) := by decide +kernel
theorem d_law_1299 : decode code 1299 = .ok (.iload_n 3, 1) := by decide +kernel
theorem d_law_1300 : decode code 1300 = .ok (.iconst 1, 1) := by decide +kernel
theorem d_law_1301 : decode code 1301 = .ok (.iadd, 1) := by decide +kernel
theorem d_law_1302 : decode code 1302 = .ok (.iaload, 1) := by decide +kernel
theorem d_law_1303 : decode code 1303 = .ok (.aload_n 0, 1) := by decide +kernel
theorem d_law_1304 : decode code 1304 = .ok (.iload_n 3, 1) := by decide +kernel
theorem d_law_1305 : decode code 1305 = .ok (.iconst 2, 1) := by decide +kernel
theorem d_law_1306 : decode code 1306 = .ok (.iadd, 1) := by decide +kernel
theorem d_law_1307 : decode code 1307 = .ok (.iaload, 1) := by decide +kernel
theorem d_law_1308 : decode code 1308 = .ok (.ifCond .eq 7, 3) := by decide +kernel
theorem d_law_1311 : decode code 1311 = .ok (.iconst 1, 1) := by decide +kernel
theorem d_law_1312 : decode code 1312 = .ok (.goto 4, 3) := by decide +kernel
theorem d_law_1315 : decode code 1315 = .ok (.iconst 0, 1) := by decide +kernel
theorem d_law_1316 : decode code 1316 = .ok (.invokevirtual 179, 3) := by decide +kernel
theorem d_law_1319 : decode code 1319 = .ok (.if_icmp .eq 244, 3) := by decide +kernel
theorem d_law_1322 : decode code 1322 = .ok (.iconst 0, 1) := by decide +kernel
theorem d_law_1323 : decode code 1323 = .ok (.ireturn, 1) := by decide +kernel
theorem d_law_1324 : decode code 1324 = .ok (.aload_n 1, 1) := by decide +kernel
theorem d_law_1325 : decode code 1325 = .ok (.invokevirtual 180, 3) := by decide +kernel
theorem d_law_1328 : decode code 1328 = .ok (.aload_n 2, 1) := by decide +kernel
theorem d_law_1329 : decode code 1329 = .ok (.invokevirtual 183, 3) := by decide +kernel
theorem d_law_1332 : decode code 1332 = .ok (.if_icmp .eq 231, 3) := by decide +kernel
theorem d_law_1335 : decode code 1335 = .ok (.iconst 0, 1) := by decide +kernel
theorem d_law_1336 : decode code 1336 = .ok (.ireturn, 1) := by decide +kernel
theorem d_law_1337 : decode code 1337 = .ok (.aload_n 1, 1) := by decide +kernel
theorem d_law_1338 : decode code 1338 = .ok (.invokevirtual 184, 3) := by decide +kernel
theorem d_law_1341 : decode code 1341 = .ok (.aload_n 2, 1) := by decide +kernel
theorem d_law_1342 : decode code 1342 = .ok (.invokevirtual 187, 3) := by decide +kernel
theorem d_law_1345 : decode code 1345 = .ok (.if_icmp .eq 218, 3) := by decide +kernel
theorem d_law_1348 : decode code 1348 = .ok (.iconst 0, 1) := by decide +kernel
theorem d_law_1349 : decode code 1349 = .ok (.ireturn, 1) := by decide +kernel
theorem d_law_1350 : decode code 1350 = .ok (.aload_n 1, 1) := by decide +kernel
theorem d_law_1351 : decode code 1351 = .ok (.invokevirtual 188, 3) := by decide +kernel
theorem d_law_1354 : decode code 1354 = .ok (.aload_n 2, 1) := by decide +kernel
theorem d_law_1355 : decode code 1355 = .ok (.invokevirtual 191, 3) := by decide +kernel
theorem d_law_1358 : decode code 1358 = .ok (.if_icmp .eq 205, 3) := by decide +kernel
theorem d_law_1361 : decode code 1361 = .ok (.iconst 0, 1) := by decide +kernel
theorem d_law_1362 : decode code 1362 = .ok (.ireturn, 1) := by decide +kernel
theorem d_law_1363 : decode code 1363 = .ok (.aload_n 1, 1) := by decide +kernel
theorem d_law_1364 : decode code 1364 = .ok (.invokevirtual 192, 3) := by decide +kernel
theorem d_law_1367 : decode code 1367 = .ok (.aload_n 2, 1) := by decide +kernel
theorem d_law_1368 : decode code 1368 = .ok (.invokevirtual 195, 3) := by decide +kernel
theorem d_law_1371 : decode code 1371 = .ok (.if_icmp .eq 192, 3) := by decide +kernel
theorem d_law_1374 : decode code 1374 = .ok (.iconst 0, 1) := by decide +kernel
theorem d_law_1375 : decode code 1375 = .ok (.ireturn, 1) := by decide +kernel
theorem d_law_1376 : decode code 1376 = .ok (.aload_n 1, 1) := by decide +kernel
theorem d_law_1377 : decode code 1377 = .ok (.aload_n 0, 1) := by decide +kernel
theorem d_law_1378 : decode code 1378 = .ok (.iload_n 3, 1) := by decide +kernel
theorem d_law_1379 : decode code 1379 = .ok (.iconst 1, 1) := by decide +kernel
theorem d_law_1380 : decode code 1380 = .ok (.iadd, 1) := by decide +kernel
theorem d_law_1381 : decode code 1381 = .ok (.iaload, 1) := by decide +kernel
theorem d_law_1382 : decode code 1382 = .ok (.invokevirtual 196, 3) := by decide +kernel
theorem d_law_1385 : decode code 1385 = .ok (.aload_n 2, 1) := by decide +kernel
theorem d_law_1386 : decode code 1386 = .ok (.aload_n 0, 1) := by decide +kernel
theorem d_law_1387 : decode code 1387 = .ok (.iload_n 3, 1) := by decide +kernel
theorem d_law_1388 : decode code 1388 = .ok (.iconst 1, 1) := by decide +kernel
theorem d_law_1389 : decode code 1389 = .ok (.iadd, 1) := by decide +kernel
theorem d_law_1390 : decode code 1390 = .ok (.iaload, 1) := by decide +kernel
theorem d_law_1391 : decode code 1391 = .ok (.invokevirtual 199, 3) := by decide +kernel
theorem d_law_1394 : decode code 1394 = .ok (.if_icmp .eq 169, 3) := by decide +kernel
theorem d_law_1397 : decode code 1397 = .ok (.iconst 0, 1) := by decide +kernel
theorem d_law_1398 : decode code 1398 = .ok (.ireturn, 1) := by decide +kernel
theorem d_law_1399 : decode code 1399 = .ok (.aload_n 1, 1) := by decide +kernel
theorem d_law_1400 : decode code 1400 = .ok (.invokevirtual 200, 3) := by decide +kernel
theorem d_law_1403 : decode code 1403 = .ok (.aload_n 2, 1) := by decide +kernel
theorem d_law_1404 : decode code 1404 = .ok (.invokevirtual 203, 3) := by decide +kernel
theorem d_law_1407 : decode code 1407 = .ok (.if_icmp .eq 156, 3) := by decide +kernel
theorem d_law_1410 : decode code 1410 = .ok (.iconst 0, 1) := by decide +kernel
theorem d_law_1411 : decode code 1411 = .ok (.ireturn, 1) := by decide +kernel
theorem d_law_1412 : decode code 1412 = .ok (.aload_n 1, 1) := by decide +kernel
theorem d_law_1413 : decode code 1413 = .ok (.aload_n 0, 1) := by decide +kernel
theorem d_law_1414 : decode code 1414 = .ok (.iload_n 3, 1) := by decide +kernel
theorem d_law_1415 : decode code 1415 = .ok (.iconst 1, 1) := by decide +kernel
theorem d_law_1416 : decode code 1416 = .ok (.iadd, 1) := by decide +kernel
theorem d_law_1417 : decode code 1417 = .ok (.iaload, 1) := by decide +kernel
theorem d_law_1418 : decode code 1418 = .ok (.invokevirtual 204, 3) := by decide +kernel
theorem d_law_1421 : decode code 1421 = .ok (.aload_n 2, 1) := by decide +kernel
theorem d_law_1422 : decode code 1422 = .ok (.aload_n 0, 1) := by decide +kernel
theorem d_law_1423 : decode code 1423 = .ok (.iload_n 3, 1) := by decide +kernel
theorem d_law_1424 : decode code 1424 = .ok (.iconst 1, 1) := by decide +kernel
theorem d_law_1425 : decode code 1425 = .ok (.iadd, 1) := by decide +kernel
theorem d_law_1426 : decode code 1426 = .ok (.iaload, 1) := by decide +kernel
theorem d_law_1427 : decode code 1427 = .ok (.invokevirtual 207, 3) := by decide +kernel
theorem d_law_1430 : decode code 1430 = .ok (.if_icmp .eq 133, 3) := by decide +kernel
theorem d_law_1433 : decode code 1433 = .ok (.iconst 0, 1) := by decide +kernel
theorem d_law_1434 : decode code 1434 = .ok (.ireturn, 1) := by decide +kernel
theorem d_law_1435 : decode code 1435 = .ok (.aload_n 1, 1) := by decide +kernel
theorem d_law_1436 : decode code 1436 = .ok (.aload_n 0, 1) := by decide +kernel
theorem d_law_1437 : decode code 1437 = .ok (.iload_n 3, 1) := by decide +kernel
theorem d_law_1438 : decode code 1438 = .ok (.iconst 1, 1) := by decide +kernel
theorem d_law_1439 : decode code 1439 = .ok (.iadd, 1) := by decide +kernel
theorem d_law_1440 : decode code 1440 = .ok (.iaload, 1) := by decide +kernel
theorem d_law_1441 : decode code 1441 = .ok (.invokevirtual 208, 3) := by decide +kernel
theorem d_law_1444 : decode code 1444 = .ok (.aload_n 2, 1) := by decide +kernel
theorem d_law_1445 : decode code 1445 = .ok (.aload_n 0, 1) := by decide +kernel
theorem d_law_1446 : decode code 1446 = .ok (.iload_n 3, 1) := by decide +kernel
theorem d_law_1447 : decode code 1447 = .ok (.iconst 1, 1) := by decide +kernel
theorem d_law_1448 : decode code 1448 = .ok (.iadd, 1) := by decide +kernel
theorem d_law_1449 : decode code 1449 = .ok (.iaload, 1) := by decide +kernel
theorem d_law_1450 : decode code 1450 = .ok (.invokevirtual 211, 3) := by decide +kernel
theorem d_law_1453 : decode code 1453 = .ok (.if_icmp .eq 110, 3) := by decide +kernel
theorem d_law_1456 : decode code 1456 = .ok (.iconst 0, 1) := by decide +kernel
theorem d_law_1457 : decode code 1457 = .ok (.ireturn, 1) := by decide +kernel
theorem d_law_1458 : decode code 1458 = .ok (.aload_n 1, 1) := by decide +kernel
theorem d_law_1459 : decode code 1459 = .ok (.aload_n 0, 1) := by decide +kernel
theorem d_law_1460 : decode code 1460 = .ok (.iload_n 3, 1) := by decide +kernel
theorem d_law_1461 : decode code 1461 = .ok (.iconst 1, 1) := by decide +kernel
theorem d_law_1462 : decode code 1462 = .ok (.iadd, 1) := by decide +kernel
theorem d_law_1463 : decode code 1463 = .ok (.iaload, 1) := by decide +kernel
theorem d_law_1464 : decode code 1464 = .ok (.aload_n 0, 1) := by decide +kernel
theorem d_law_1465 : decode code 1465 = .ok (.iload_n 3, 1) := by decide +kernel
theorem d_law_1466 : decode code 1466 = .ok (.iconst 2, 1) := by decide +kernel
theorem d_law_1467 : decode code 1467 = .ok (.iadd, 1) := by decide +kernel
theorem d_law_1468 : decode code 1468 = .ok (.iaload, 1) := by decide +kernel
theorem d_law_1469 : decode code 1469 = .ok (.invokevirtual 212, 3) := by decide +kernel
theorem d_law_1472 : decode code 1472 = .ok (.aload_n 2, 1) := by decide +kernel
theorem d_law_1473 : decode code 1473 = .ok (.aload_n 0, 1) := by decide +kernel
theorem d_law_1474 : decode code 1474 = .ok (.iload_n 3, 1) := by decide +kernel
theorem d_law_1475 : decode code 1475 = .ok (.iconst 1, 1) := by decide +kernel
theorem d_law_1476 : decode code 1476 = .ok (.iadd, 1) := by decide +kernel
theorem d_law_1477 : decode code 1477 = .ok (.iaload, 1) := by decide +kernel
theorem d_law_1478 : decode code 1478 = .ok (.aload_n 0, 1) := by decide +kernel
theorem d_law_1479 : decode code 1479 = .ok (.iload_n 3, 1) := by decide +kernel
theorem d_law_1480 : decode code 1480 = .ok (.iconst 2, 1) := by decide +kernel
theorem d_law_1481 : decode code 1481 = .ok (.iadd, 1) := by decide +kernel
theorem d_law_1482 : decode code 1482 = .ok (.iaload, 1) := by decide +kernel
theorem d_law_1483 : decode code 1483 = .ok (.invokevirtual 215, 3) := by decide +kernel
theorem d_law_1486 : decode code 1486 = .ok (.if_icmp .eq 77, 3) := by decide +kernel
theorem d_law_1489 : decode code 1489 = .ok (.iconst 0, 1) := by decide +kernel
theorem d_law_1490 : decode code 1490 = .ok (.ireturn, 1) := by decide +kernel
theorem d_law_1491 : decode code 1491 = .ok (.aload_n 1, 1) := by decide +kernel
theorem d_law_1492 : decode code 1492 = .ok (.invokevirtual 216, 3) := by decide +kernel
theorem d_law_1495 : decode code 1495 = .ok (.aload_n 2, 1) := by decide +kernel
theorem d_law_1496 : decode code 1496 = .ok (.invokevirtual 219, 3) := by decide +kernel
theorem d_law_1499 : decode code 1499 = .ok (.if_icmp .eq 64, 3) := by decide +kernel
theorem d_law_1502 : decode code 1502 = .ok (.iconst 0, 1) := by decide +kernel
theorem d_law_1503 : decode code 1503 = .ok (.ireturn, 1) := by decide +kernel
theorem d_law_1504 : decode code 1504 = .ok (.aload_n 1, 1) := by decide +kernel
theorem d_law_1505 : decode code 1505 = .ok (.invokevirtual 220, 3) := by decide +kernel
theorem d_law_1508 : decode code 1508 = .ok (.aload_n 2, 1) := by decide +kernel
theorem d_law_1509 : decode code 1509 = .ok (.invokevirtual 223, 3) := by decide +kernel
theorem d_law_1512 : decode code 1512 = .ok (.if_icmp .eq 51, 3) := by decide +kernel
theorem d_law_1515 : decode code 1515 = .ok (.iconst 0, 1) := by decide +kernel
theorem d_law_1516 : decode code 1516 = .ok (.ireturn, 1) := by decide +kernel
theorem d_law_1517 : decode code 1517 = .ok (.aload_n 1, 1) := by decide +kernel
theorem d_law_1518 : decode code 1518 = .ok (.aload_n 0, 1) := by decide +kernel
theorem d_law_1519 : decode code 1519 = .ok (.iload_n 3, 1) := by decide +kernel
theorem d_law_1520 : decode code 1520 = .ok (.iconst 1, 1) := by decide +kernel
theorem d_law_1521 : decode code 1521 = .ok (.iadd, 1) := by decide +kernel
theorem d_law_1522 : decode code 1522 = .ok (.iaload, 1) := by decide +kernel
theorem d_law_1523 : decode code 1523 = .ok (.invokevirtual 224, 3) := by decide +kernel
theorem d_law_1526 : decode code 1526 = .ok (.aload_n 2, 1) := by decide +kernel
theorem d_law_1527 : decode code 1527 = .ok (.aload_n 0, 1) := by decide +kernel
theorem d_law_1528 : decode code 1528 = .ok (.iload_n 3, 1) := by decide +kernel
theorem d_law_1529 : decode code 1529 = .ok (.iconst 1, 1) := by decide +kernel
theorem d_law_1530 : decode code 1530 = .ok (.iadd, 1) := by decide +kernel
theorem d_law_1531 : decode code 1531 = .ok (.iaload, 1) := by decide +kernel
theorem d_law_1532 : decode code 1532 = .ok (.invokevirtual 227, 3) := by decide +kernel
theorem d_law_1535 : decode code 1535 = .ok (.if_icmp .eq 28, 3) := by decide +kernel
theorem d_law_1538 : decode code 1538 = .ok (.iconst 0, 1) := by decide +kernel
theorem d_law_1539 : decode code 1539 = .ok (.ireturn, 1) := by decide +kernel
theorem d_law_1540 : decode code 1540 = .ok (.aload_n 1, 1) := by decide +kernel
theorem d_law_1541 : decode code 1541 = .ok (.aload_n 0, 1) := by decide +kernel
theorem d_law_1542 : decode code 1542 = .ok (.iload_n 3, 1) := by decide +kernel
theorem d_law_1543 : decode code 1543 = .ok (.iconst 1, 1) := by decide +kernel
theorem d_law_1544 : decode code 1544 = .ok (.iadd, 1) := by decide +kernel
theorem d_law_1545 : decode code 1545 = .ok (.iaload, 1) := by decide +kernel
theorem d_law_1546 : decode code 1546 = .ok (.invokevirtual 228, 3) := by decide +kernel
theorem d_law_1549 : decode code 1549 = .ok (.aload_n 2, 1) := by decide +kernel
theorem d_law_1550 : decode code 1550 = .ok (.aload_n 0, 1) := by decide +kernel
theorem d_law_1551 : decode code 1551 = .ok (.iload_n 3, 1) := by decide +kernel
theorem d_law_1552 : decode code 1552 = .ok (.iconst 1, 1) := by decide +kernel
theorem d_law_1553 : decode code 1553 = .ok (.iadd, 1) := by decide +kernel
theorem d_law_1554 : decode code 1554 = .ok (.iaload, 1) := by decide +kernel
theorem d_law_1555 : decode code 1555 = .ok (.invokevirtual 231, 3) := by decide +kernel
theorem d_law_1558 : decode code 1558 = .ok (.if_icmp .eq 5, 3) := by decide +kernel
theorem d_law_1561 : decode code 1561 = .ok (.iconst 0, 1) := by decide +kernel
theorem d_law_1562 : decode code 1562 = .ok (.ireturn, 1) := by decide +kernel
theorem d_law_1563 : decode code 1563 = .ok (.iinc 3 7, 3) := by decide +kernel
theorem d_law_1566 : decode code 1566 = .ok (.goto (-1548), 3) := by decide +kernel
theorem d_law_1569 : decode code 1569 = .ok (.iconst 1, 1) := by decide +kernel
theorem d_law_1570 : decode code 1570 = .ok (.ireturn, 1) := by decide +kernel
theorem ml_law_13 : ev_LV "WithoutELaw" 13 mX10_feed 5 := ⟨lbX10_feed, (ev_t2 218 rfl rfl), imX10_feed, seX10_feed⟩
theorem ml_law_17 : ev_LV "WithoutELaw" 17 mX11_feed 5 := ⟨lbX11_feed, (ev_t6 130 rfl rfl), imX11_feed, seX11_feed⟩
theorem ml_law_18 : ev_LV "WithoutELaw" 18 mX10_end 1 := ⟨lbX10_end, (ev_t2 226 rfl rfl), imX10_end, seX10_end⟩
theorem ml_law_22 : ev_LV "WithoutELaw" 22 mX11_end 1 := ⟨lbX11_end, (ev_t6 138 rfl rfl), imX11_end, seX11_end⟩
theorem ml_law_23 : ev_LV "WithoutELaw" 23 mX10_text 0 := ⟨lbX10_text, (ev_t2 230 rfl rfl), imX10_text, seX10_text⟩
theorem ml_law_27 : ev_LV "WithoutELaw" 27 mX11_text 0 := ⟨lbX11_text, (ev_t6 145 rfl rfl), imX11_text, seX11_text⟩
theorem ml_law_28 : ev_LV "WithoutELaw" 28 mX10_fault 1 := ⟨lbX10_fault, (ev_t3 194 rfl rfl), imX10_fault, seX10_fault⟩
theorem ml_law_31 : ev_LV "WithoutELaw" 31 mX11_fault 1 := ⟨lbX11_fault, (ev_t7 61 rfl rfl), imX11_fault, seX11_fault⟩
theorem ml_law_32 : ev_LV "WithoutELaw" 32 mX10_by 1 := ⟨lbX10_by, (ev_t3 198 rfl rfl), imX10_by, seX10_by⟩
theorem ml_law_36 : ev_LV "WithoutELaw" 36 mX11_by 1 := ⟨lbX11_by, (ev_t7 65 rfl rfl), imX11_by, seX11_by⟩
theorem ml_law_37 : ev_LV "WithoutELaw" 37 mX10_played 1 := ⟨lbX10_played, (ev_t3 206 rfl rfl), imX10_played, seX10_played⟩
theorem ml_law_40 : ev_LV "WithoutELaw" 40 mX11_played 1 := ⟨lbX11_played, (ev_t8 36 rfl rfl), imX11_played, seX11_played⟩
theorem ml_law_41 : ev_LV "WithoutELaw" 41 mX10_word 3 := ⟨lbX10_word, (ev_t4 197 rfl rfl), imX10_word, seX10_word⟩
theorem ml_law_45 : ev_LV "WithoutELaw" 45 mX11_word 3 := ⟨lbX11_word, (ev_t7 69 rfl rfl), imX11_word, seX11_word⟩
theorem ml_law_46 : ev_LV "WithoutELaw" 46 mX10_turn 1 := ⟨lbX10_turn, (ev_t4 209 rfl rfl), imX10_turn, seX10_turn⟩
theorem ml_law_49 : ev_LV "WithoutELaw" 49 mX11_turn 1 := ⟨lbX11_turn, (ev_t7 88 rfl rfl), imX11_turn, seX11_turn⟩
theorem ml_law_50 : ev_LV "WithoutELaw" 50 mX10_sense 6 := ⟨lbX10_sense, (ev_t4 210 rfl rfl), imX10_sense, seX10_sense⟩
theorem ml_law_54 : ev_LV "WithoutELaw" 54 mX11_sense 6 := ⟨lbX11_sense, (ev_t7 100 rfl rfl), imX11_sense, seX11_sense⟩
theorem ml_law_55 : ev_LV "WithoutELaw" 55 mX10_made 3 := ⟨lbX10_made, (ev_t4 214 rfl rfl), imX10_made, seX10_made⟩
theorem ml_law_59 : ev_LV "WithoutELaw" 59 mX11_made 3 := ⟨lbX11_made, (ev_t7 108 rfl rfl), imX11_made, seX11_made⟩
theorem ml_law_60 : ev_LV "WithoutELaw" 60 mX10_key 1 := ⟨lbX10_key, (ev_t4 215 rfl rfl), imX10_key, seX10_key⟩
theorem ml_law_63 : ev_LV "WithoutELaw" 63 mX11_key 1 := ⟨lbX11_key, (ev_t7 119 rfl rfl), imX11_key, seX11_key⟩
theorem ml_law_64 : ev_LV "WithoutELaw" 64 mX10_write 1 := ⟨lbX10_write, (ev_t4 216 rfl rfl), imX10_write, seX10_write⟩
theorem ml_law_67 : ev_LV "WithoutELaw" 67 mX11_write 1 := ⟨lbX11_write, (ev_t7 131 rfl rfl), imX11_write, seX11_write⟩
theorem ml_law_68 : ev_LV "WithoutELaw" 68 mX10_week 1 := ⟨lbX10_week, (ev_t4 217 rfl rfl), imX10_week, seX10_week⟩
theorem ml_law_71 : ev_LV "WithoutELaw" 71 mX11_week 1 := ⟨lbX11_week, (ev_t8 9 rfl rfl), imX11_week, seX11_week⟩
theorem ml_law_72 : ev_LV "WithoutELaw" 72 mX10_undo 0 := ⟨lbX10_undo, (ev_t4 222 rfl rfl), imX10_undo, seX10_undo⟩
theorem ml_law_75 : ev_LV "WithoutELaw" 75 mX11_undo 0 := ⟨lbX11_undo, (ev_t7 115 rfl rfl), imX11_undo, seX11_undo⟩
theorem ml_law_76 : ev_LV "WithoutELaw" 76 mX10_told 2 := ⟨lbX10_told, (ev_t4 230 rfl rfl), imX10_told, seX10_told⟩
theorem ml_law_80 : ev_LV "WithoutELaw" 80 mX11_told 2 := ⟨lbX11_told, (ev_t8 60 rfl rfl), imX11_told, seX11_told⟩
theorem ml_law_81 : ev_LV "WithoutELaw" 81 mX10_stiff 1 := ⟨lbX10_stiff, (ev_t4 238 rfl rfl), imX10_stiff, seX10_stiff⟩
theorem ml_law_84 : ev_LV "WithoutELaw" 84 mX11_stiff 1 := ⟨lbX11_stiff, (ev_t8 64 rfl rfl), imX11_stiff, seX11_stiff⟩
theorem ml_law_85 : ev_LV "WithoutELaw" 85 mX10_least 2 := ⟨lbX10_least, (ev_t5 7 rfl rfl), imX10_least, seX10_least⟩
theorem ml_law_88 : ev_LV "WithoutELaw" 88 mX11_least 2 := ⟨lbX11_least, (ev_t8 85 rfl rfl), imX11_least, seX11_least⟩
theorem ml_law_89 : ev_LV "WithoutELaw" 89 mX10_sentence 2 := ⟨lbX10_sentence, (ev_t5 15 rfl rfl), imX10_sentence, seX10_sentence⟩
theorem ml_law_92 : ev_LV "WithoutELaw" 92 mX11_sentence 2 := ⟨lbX11_sentence, (ev_t8 93 rfl rfl), imX11_sentence, seX11_sentence⟩
theorem ml_law_93 : ev_LV "WithoutELaw" 93 mX10_states 3 := ⟨lbX10_states, (ev_t5 19 rfl rfl), imX10_states, seX10_states⟩
theorem ml_law_96 : ev_LV "WithoutELaw" 96 mX11_states 3 := ⟨lbX11_states, (ev_t8 97 rfl rfl), imX11_states, seX11_states⟩
theorem ml_law_97 : ev_LV "WithoutELaw" 97 mX10_none 0 := ⟨lbX10_none, (ev_t5 28 rfl rfl), imX10_none, seX10_none⟩
theorem ml_law_100 : ev_LV "WithoutELaw" 100 mX11_none 0 := ⟨lbX11_none, (ev_t8 105 rfl rfl), imX11_none, seX11_none⟩
theorem ml_law_101 : ev_LV "WithoutELaw" 101 mX10_worst 0 := ⟨lbX10_worst, (ev_t5 33 rfl rfl), imX10_worst, seX10_worst⟩
theorem ml_law_104 : ev_LV "WithoutELaw" 104 mX11_worst 0 := ⟨lbX11_worst, (ev_t8 109 rfl rfl), imX11_worst, seX11_worst⟩
theorem ml_law_105 : ev_LV "WithoutELaw" 105 mX10_few 1 := ⟨lbX10_few, (ev_t5 41 rfl rfl), imX10_few, seX10_few⟩
theorem ml_law_109 : ev_LV "WithoutELaw" 109 mX11_few 1 := ⟨lbX11_few, (ev_t8 117 rfl rfl), imX11_few, seX11_few⟩
theorem ml_law_110 : ev_LV "WithoutELaw" 110 mX10_spare 0 := ⟨lbX10_spare, (ev_t5 45 rfl rfl), imX10_spare, seX10_spare⟩
theorem ml_law_113 : ev_LV "WithoutELaw" 113 mX11_spare 0 := ⟨lbX11_spare, (ev_t8 129 rfl rfl), imX11_spare, seX11_spare⟩
theorem ml_law_114 : ev_LV "WithoutELaw" 114 mX10_now 1 := ⟨lbX10_now, (ev_t5 62 rfl rfl), imX10_now, seX10_now⟩
theorem ml_law_117 : ev_LV "WithoutELaw" 117 mX11_now 1 := ⟨lbX11_now, (ev_t8 121 rfl rfl), imX11_now, seX11_now⟩
theorem ml_law_118 : ev_LV "WithoutELaw" 118 mX10_exact 1 := ⟨lbX10_exact, (ev_t5 66 rfl rfl), imX10_exact, seX10_exact⟩
theorem ml_law_121 : ev_LV "WithoutELaw" 121 mX11_exact 1 := ⟨lbX11_exact, (ev_t8 133 rfl rfl), imX11_exact, seX11_exact⟩
theorem ml_law_122 : ev_LV "WithoutELaw" 122 mX10_longer 0 := ⟨lbX10_longer, (ev_t5 70 rfl rfl), imX10_longer, seX10_longer⟩
theorem ml_law_125 : ev_LV "WithoutELaw" 125 mX11_longer 0 := ⟨lbX11_longer, (ev_t8 137 rfl rfl), imX11_longer, seX11_longer⟩
theorem ml_law_126 : ev_LV "WithoutELaw" 126 mX10_law 0 := ⟨lbX10_law, (ev_t5 74 rfl rfl), imX10_law, seX10_law⟩
theorem ml_law_129 : ev_LV "WithoutELaw" 129 mX11_law 0 := ⟨lbX11_law, (ev_t9 20 rfl rfl), imX11_law, seX11_law⟩
theorem ml_law_130 : ev_LV "WithoutELaw" 130 mX10_stiffs 2 := ⟨lbX10_stiffs, (ev_t5 82 rfl rfl), imX10_stiffs, seX10_stiffs⟩
theorem ml_law_133 : ev_LV "WithoutELaw" 133 mX11_stiffs 2 := ⟨lbX11_stiffs, (ev_t9 16 rfl rfl), imX11_stiffs, seX11_stiffs⟩
theorem ml_law_134 : ev_LV "WithoutELaw" 134 mX10_notices 2 := ⟨lbX10_notices, (ev_t5 86 rfl rfl), imX10_notices, seX10_notices⟩
theorem ml_law_138 : ev_LV "WithoutELaw" 138 mX11_notices 2 := ⟨lbX11_notices, (ev_t8 141 rfl rfl), imX11_notices, seX11_notices⟩
theorem ml_law_139 : ev_LV "WithoutELaw" 139 mX10_lines 1 := ⟨lbX10_lines, (ev_t5 113 rfl rfl), imX10_lines, seX10_lines⟩
theorem ml_law_142 : ev_LV "WithoutELaw" 142 mX11_lines 1 := ⟨lbX11_lines, (ev_t8 165 rfl rfl), imX11_lines, seX11_lines⟩
theorem ml_law_143 : ev_LV "WithoutELaw" 143 mX10_held 0 := ⟨lbX10_held, (ev_t5 118 rfl rfl), imX10_held, seX10_held⟩
theorem ml_law_146 : ev_LV "WithoutELaw" 146 mX11_held 0 := ⟨lbX11_held, (ev_t8 170 rfl rfl), imX11_held, seX11_held⟩
theorem ml_law_147 : ev_LV "WithoutELaw" 147 mX10_page 1 := ⟨lbX10_page, (ev_t5 122 rfl rfl), imX10_page, seX10_page⟩
theorem ml_law_150 : ev_LV "WithoutELaw" 150 mX11_page 1 := ⟨lbX11_page, (ev_t8 174 rfl rfl), imX11_page, seX11_page⟩
theorem ml_law_151 : ev_LV "WithoutELaw" 151 mX10_wrote 1 := ⟨lbX10_wrote, (ev_t5 126 rfl rfl), imX10_wrote, seX10_wrote⟩
theorem ml_law_154 : ev_LV "WithoutELaw" 154 mX11_wrote 1 := ⟨lbX11_wrote, (ev_t8 178 rfl rfl), imX11_wrote, seX11_wrote⟩
theorem ml_law_155 : ev_LV "WithoutELaw" 155 mX10_fewest 0 := ⟨lbX10_fewest, (ev_t5 139 rfl rfl), imX10_fewest, seX10_fewest⟩
theorem ml_law_158 : ev_LV "WithoutELaw" 158 mX11_fewest 0 := ⟨lbX11_fewest, (ev_t8 191 rfl rfl), imX11_fewest, seX11_fewest⟩
theorem ml_law_159 : ev_LV "WithoutELaw" 159 mX10_letters 1 := ⟨lbX10_letters, (ev_t5 143 rfl rfl), imX10_letters, seX10_letters⟩
theorem ml_law_162 : ev_LV "WithoutELaw" 162 mX11_letters 1 := ⟨lbX11_letters, (ev_t8 195 rfl rfl), imX11_letters, seX11_letters⟩
theorem ml_law_163 : ev_LV "WithoutELaw" 163 mX10_lot 1 := ⟨lbX10_lot, (ev_t5 147 rfl rfl), imX10_lot, seX10_lot⟩
theorem ml_law_166 : ev_LV "WithoutELaw" 166 mX11_lot 1 := ⟨lbX11_lot, (ev_t8 199 rfl rfl), imX11_lot, seX11_lot⟩
theorem ml_law_167 : ev_LV "WithoutELaw" 167 mX10_wire 1 := ⟨lbX10_wire, (ev_t5 155 rfl rfl), imX10_wire, seX10_wire⟩
theorem ml_law_170 : ev_LV "WithoutELaw" 170 mX11_wire 1 := ⟨lbX11_wire, (ev_t8 203 rfl rfl), imX11_wire, seX11_wire⟩
theorem ml_law_171 : ev_LV "WithoutELaw" 171 mX10_worth 1 := ⟨lbX10_worth, (ev_t5 159 rfl rfl), imX10_worth, seX10_worth⟩
theorem ml_law_174 : ev_LV "WithoutELaw" 174 mX11_worth 1 := ⟨lbX11_worth, (ev_t8 211 rfl rfl), imX11_worth, seX11_worth⟩
theorem ml_law_175 : ev_LV "WithoutELaw" 175 mX10_line 2 := ⟨lbX10_line, (ev_t5 163 rfl rfl), imX10_line, seX10_line⟩
theorem ml_law_179 : ev_LV "WithoutELaw" 179 mX11_line 2 := ⟨lbX11_line, (ev_t8 216 rfl rfl), imX11_line, seX11_line⟩
theorem ml_law_180 : ev_LV "WithoutELaw" 180 mX10_all 0 := ⟨lbX10_all, (ev_t5 174 rfl rfl), imX10_all, seX10_all⟩
theorem ml_law_183 : ev_LV "WithoutELaw" 183 mX11_all 0 := ⟨lbX11_all, (ev_t8 227 rfl rfl), imX11_all, seX11_all⟩
theorem ml_law_184 : ev_LV "WithoutELaw" 184 mX10_senses 0 := ⟨lbX10_senses, (ev_t5 182 rfl rfl), imX10_senses, seX10_senses⟩
theorem ml_law_187 : ev_LV "WithoutELaw" 187 mX11_senses 0 := ⟨lbX11_senses, (ev_t8 223 rfl rfl), imX11_senses, seX11_senses⟩
theorem ml_law_188 : ev_LV "WithoutELaw" 188 mX10_report 0 := ⟨lbX10_report, (ev_t5 183 rfl rfl), imX10_report, seX10_report⟩
theorem ml_law_191 : ev_LV "WithoutELaw" 191 mX11_report 0 := ⟨lbX11_report, (ev_t8 232 rfl rfl), imX11_report, seX11_report⟩
theorem ml_law_192 : ev_LV "WithoutELaw" 192 mX10_clear 0 := ⟨lbX10_clear, (ev_t5 187 rfl rfl), imX10_clear, seX10_clear⟩
theorem ml_law_195 : ev_LV "WithoutELaw" 195 mX11_clear 0 := ⟨lbX11_clear, (ev_t8 236 rfl rfl), imX11_clear, seX11_clear⟩
theorem ml_law_196 : ev_LV "WithoutELaw" 196 mX10_meant 1 := ⟨lbX10_meant, (ev_t5 191 rfl rfl), imX10_meant, seX10_meant⟩
theorem ml_law_199 : ev_LV "WithoutELaw" 199 mX11_meant 1 := ⟨lbX11_meant, (ev_t9 0 rfl rfl), imX11_meant, seX11_meant⟩
theorem ml_law_200 : ev_LV "WithoutELaw" 200 mX10_fits 0 := ⟨lbX10_fits, (ev_t5 198 rfl rfl), imX10_fits, seX10_fits⟩
theorem ml_law_203 : ev_LV "WithoutELaw" 203 mX11_fits 0 := ⟨lbX11_fits, (ev_t9 8 rfl rfl), imX11_fits, seX11_fits⟩
theorem ml_law_204 : ev_LV "WithoutELaw" 204 mX10_is 1 := ⟨lbX10_is, (ev_t5 207 rfl rfl), imX10_is, seX10_is⟩
theorem ml_law_207 : ev_LV "WithoutELaw" 207 mX11_is 1 := ⟨lbX11_is, (ev_t8 68 rfl rfl), imX11_is, seX11_is⟩
theorem ml_law_208 : ev_LV "WithoutELaw" 208 mX10_use 1 := ⟨lbX10_use, (ev_t5 211 rfl rfl), imX10_use, seX10_use⟩
theorem ml_law_211 : ev_LV "WithoutELaw" 211 mX11_use 1 := ⟨lbX11_use, (ev_t8 72 rfl rfl), imX11_use, seX11_use⟩
theorem ml_law_212 : ev_LV "WithoutELaw" 212 mX10_book 2 := ⟨lbX10_book, (ev_t5 215 rfl rfl), imX10_book, seX10_book⟩
theorem ml_law_215 : ev_LV "WithoutELaw" 215 mX11_book 2 := ⟨lbX11_book, (ev_t8 76 rfl rfl), imX11_book, seX11_book⟩
theorem ml_law_216 : ev_LV "WithoutELaw" 216 mX10_image 0 := ⟨lbX10_image, (ev_t5 229 rfl rfl), imX10_image, seX10_image⟩
theorem ml_law_219 : ev_LV "WithoutELaw" 219 mX11_image 0 := ⟨lbX11_image, (ev_t9 24 rfl rfl), imX11_image, seX11_image⟩
theorem ml_law_220 : ev_LV "WithoutELaw" 220 mX10_restore 0 := ⟨lbX10_restore, (ev_t6 2 rfl rfl), imX10_restore, seX10_restore⟩
theorem ml_law_223 : ev_LV "WithoutELaw" 223 mX11_restore 0 := ⟨lbX11_restore, (ev_t9 28 rfl rfl), imX11_restore, seX11_restore⟩
theorem ml_law_224 : ev_LV "WithoutELaw" 224 mX10_status 1 := ⟨lbX10_status, (ev_t6 6 rfl rfl), imX10_status, seX10_status⟩
theorem ml_law_227 : ev_LV "WithoutELaw" 227 mX11_status 1 := ⟨lbX11_status, (ev_t8 81 rfl rfl), imX11_status, seX11_status⟩
theorem ml_law_228 : ev_LV "WithoutELaw" 228 mX10_about 1 := ⟨lbX10_about, (ev_t6 10 rfl rfl), imX10_about, seX10_about⟩
theorem ml_law_231 : ev_LV "WithoutELaw" 231 mX11_about 1 := ⟨lbX11_about, (ev_t9 32 rfl rfl), imX11_about, seX11_about⟩
