theorem dL_law_320 : decode code 320 = .ok (.aload_n 1, 1) := by decide +kernel
theorem dL_law_321 : decode code 321 = .ok (.aload_n 0, 1) := by decide +kernel
theorem dL_law_322 : decode code 322 = .ok (.iload_n 3, 1) := by decide +kernel
theorem dL_law_323 : decode code 323 = .ok (.iconst 1, 1) := by decide +kernel
theorem dL_law_324 : decode code 324 = .ok (.iadd, 1) := by decide +kernel
theorem dL_law_325 : decode code 325 = .ok (.iaload, 1) := by decide +kernel
theorem dL_law_326 : decode code 326 = .ok (.aload_n 0, 1) := by decide +kernel
theorem dL_law_327 : decode code 327 = .ok (.iload_n 3, 1) := by decide +kernel
theorem dL_law_328 : decode code 328 = .ok (.iconst 2, 1) := by decide +kernel
theorem dL_law_329 : decode code 329 = .ok (.iadd, 1) := by decide +kernel
theorem dL_law_330 : decode code 330 = .ok (.iaload, 1) := by decide +kernel
theorem dL_law_331 : decode code 331 = .ok (.aload_n 0, 1) := by decide +kernel
theorem dL_law_332 : decode code 332 = .ok (.iload_n 3, 1) := by decide +kernel
theorem dL_law_333 : decode code 333 = .ok (.iconst 3, 1) := by decide +kernel
theorem dL_law_334 : decode code 334 = .ok (.iadd, 1) := by decide +kernel
theorem dL_law_335 : decode code 335 = .ok (.iaload, 1) := by decide +kernel
theorem dL_law_336 : decode code 336 = .ok (.aload_n 0, 1) := by decide +kernel
theorem dL_law_337 : decode code 337 = .ok (.iload_n 3, 1) := by decide +kernel
theorem dL_law_338 : decode code 338 = .ok (.iconst 4, 1) := by decide +kernel
theorem dL_law_339 : decode code 339 = .ok (.iadd, 1) := by decide +kernel
theorem dL_law_340 : decode code 340 = .ok (.iaload, 1) := by decide +kernel
theorem dL_law_341 : decode code 341 = .ok (.aload_n 0, 1) := by decide +kernel
theorem dL_law_342 : decode code 342 = .ok (.iload_n 3, 1) := by decide +kernel
theorem dL_law_343 : decode code 343 = .ok (.iconst 5, 1) := by decide +kernel
theorem dL_law_344 : decode code 344 = .ok (.iadd, 1) := by decide +kernel
theorem dL_law_345 : decode code 345 = .ok (.iaload, 1) := by decide +kernel
theorem dL_law_346 : decode code 346 = .ok (.invokevirtual 13, 3) := by decide +kernel
theorem dL_law_349 : decode code 349 = .ok (.aload_n 2, 1) := by decide +kernel
theorem dL_law_350 : decode code 350 = .ok (.aload_n 0, 1) := by decide +kernel
theorem dL_law_351 : decode code 351 = .ok (.iload_n 3, 1) := by decide +kernel
theorem dL_law_352 : decode code 352 = .ok (.iconst 1, 1) := by decide +kernel
theorem dL_law_353 : decode code 353 = .ok (.iadd, 1) := by decide +kernel
theorem dL_law_354 : decode code 354 = .ok (.iaload, 1) := by decide +kernel
theorem dL_law_355 : decode code 355 = .ok (.aload_n 0, 1) := by decide +kernel
theorem dL_law_356 : decode code 356 = .ok (.iload_n 3, 1) := by decide +kernel
theorem dL_law_357 : decode code 357 = .ok (.iconst 2, 1) := by decide +kernel
theorem dL_law_358 : decode code 358 = .ok (.iadd, 1) := by decide +kernel
theorem dL_law_359 : decode code 359 = .ok (.iaload, 1) := by decide +kernel
theorem dL_law_360 : decode code 360 = .ok (.aload_n 0, 1) := by decide +kernel
theorem dL_law_361 : decode code 361 = .ok (.iload_n 3, 1) := by decide +kernel
theorem dL_law_362 : decode code 362 = .ok (.iconst 3, 1) := by decide +kernel
theorem dL_law_363 : decode code 363 = .ok (.iadd, 1) := by decide +kernel
theorem dL_law_364 : decode code 364 = .ok (.iaload, 1) := by decide +kernel
theorem dL_law_365 : decode code 365 = .ok (.aload_n 0, 1) := by decide +kernel
theorem dL_law_366 : decode code 366 = .ok (.iload_n 3, 1) := by decide +kernel
theorem dL_law_367 : decode code 367 = .ok (.iconst 4, 1) := by decide +kernel
theorem dL_law_368 : decode code 368 = .ok (.iadd, 1) := by decide +kernel
theorem dL_law_369 : decode code 369 = .ok (.iaload, 1) := by decide +kernel
theorem dL_law_370 : decode code 370 = .ok (.aload_n 0, 1) := by decide +kernel
theorem dL_law_371 : decode code 371 = .ok (.iload_n 3, 1) := by decide +kernel
theorem dL_law_372 : decode code 372 = .ok (.iconst 5, 1) := by decide +kernel
theorem dL_law_373 : decode code 373 = .ok (.iadd, 1) := by decide +kernel
theorem dL_law_374 : decode code 374 = .ok (.iaload, 1) := by decide +kernel
theorem dL_law_375 : decode code 375 = .ok (.invokevirtual 17, 3) := by decide +kernel
theorem dL_law_378 : decode code 378 = .ok (.if_icmp .eq 1848, 3) := by decide +kernel
theorem dL_law_383 : decode code 383 = .ok (.aload_n 1, 1) := by decide +kernel
theorem dL_law_384 : decode code 384 = .ok (.aload_n 0, 1) := by decide +kernel
theorem dL_law_385 : decode code 385 = .ok (.iload_n 3, 1) := by decide +kernel
theorem dL_law_386 : decode code 386 = .ok (.iconst 1, 1) := by decide +kernel
theorem dL_law_387 : decode code 387 = .ok (.iadd, 1) := by decide +kernel
theorem dL_law_388 : decode code 388 = .ok (.iaload, 1) := by decide +kernel
theorem dL_law_389 : decode code 389 = .ok (.invokevirtual 18, 3) := by decide +kernel
theorem dL_law_392 : decode code 392 = .ok (.aload_n 2, 1) := by decide +kernel
theorem dL_law_393 : decode code 393 = .ok (.aload_n 0, 1) := by decide +kernel
theorem dL_law_394 : decode code 394 = .ok (.iload_n 3, 1) := by decide +kernel
theorem dL_law_395 : decode code 395 = .ok (.iconst 1, 1) := by decide +kernel
theorem dL_law_396 : decode code 396 = .ok (.iadd, 1) := by decide +kernel
theorem dL_law_397 : decode code 397 = .ok (.iaload, 1) := by decide +kernel
theorem dL_law_398 : decode code 398 = .ok (.invokevirtual 22, 3) := by decide +kernel
theorem dL_law_401 : decode code 401 = .ok (.if_icmp .eq 1825, 3) := by decide +kernel
theorem dL_law_406 : decode code 406 = .ok (.aload_n 1, 1) := by decide +kernel
theorem dL_law_407 : decode code 407 = .ok (.invokevirtual 23, 3) := by decide +kernel
theorem dL_law_410 : decode code 410 = .ok (.aload_n 2, 1) := by decide +kernel
theorem dL_law_411 : decode code 411 = .ok (.invokevirtual 27, 3) := by decide +kernel
theorem dL_law_414 : decode code 414 = .ok (.if_icmp .eq 1812, 3) := by decide +kernel
theorem dL_law_419 : decode code 419 = .ok (.aload_n 1, 1) := by decide +kernel
theorem dL_law_420 : decode code 420 = .ok (.aload_n 0, 1) := by decide +kernel
theorem dL_law_421 : decode code 421 = .ok (.iload_n 3, 1) := by decide +kernel
theorem dL_law_422 : decode code 422 = .ok (.iconst 1, 1) := by decide +kernel
theorem dL_law_423 : decode code 423 = .ok (.iadd, 1) := by decide +kernel
theorem dL_law_424 : decode code 424 = .ok (.iaload, 1) := by decide +kernel
theorem dL_law_425 : decode code 425 = .ok (.invokevirtual 28, 3) := by decide +kernel
theorem dL_law_428 : decode code 428 = .ok (.aload_n 2, 1) := by decide +kernel
theorem dL_law_429 : decode code 429 = .ok (.aload_n 0, 1) := by decide +kernel
theorem dL_law_430 : decode code 430 = .ok (.iload_n 3, 1) := by decide +kernel
theorem dL_law_431 : decode code 431 = .ok (.iconst 1, 1) := by decide +kernel
theorem dL_law_432 : decode code 432 = .ok (.iadd, 1) := by decide +kernel
theorem dL_law_433 : decode code 433 = .ok (.iaload, 1) := by decide +kernel
theorem dL_law_434 : decode code 434 = .ok (.invokevirtual 31, 3) := by decide +kernel
theorem dL_law_437 : decode code 437 = .ok (.if_icmp .eq 1789, 3) := by decide +kernel
theorem dL_law_442 : decode code 442 = .ok (.aload_n 1, 1) := by decide +kernel
theorem dL_law_443 : decode code 443 = .ok (.aload_n 0, 1) := by decide +kernel
theorem dL_law_444 : decode code 444 = .ok (.iload_n 3, 1) := by decide +kernel
theorem dL_law_445 : decode code 445 = .ok (.iconst 1, 1) := by decide +kernel
theorem dL_law_446 : decode code 446 = .ok (.iadd, 1) := by decide +kernel
theorem dL_law_447 : decode code 447 = .ok (.iaload, 1) := by decide +kernel
theorem dL_law_448 : decode code 448 = .ok (.invokevirtual 32, 3) := by decide +kernel
theorem dL_law_451 : decode code 451 = .ok (.aload_n 2, 1) := by decide +kernel
theorem dL_law_452 : decode code 452 = .ok (.aload_n 0, 1) := by decide +kernel
theorem dL_law_453 : decode code 453 = .ok (.iload_n 3, 1) := by decide +kernel
theorem dL_law_454 : decode code 454 = .ok (.iconst 1, 1) := by decide +kernel
theorem dL_law_455 : decode code 455 = .ok (.iadd, 1) := by decide +kernel
theorem dL_law_456 : decode code 456 = .ok (.iaload, 1) := by decide +kernel
theorem dL_law_457 : decode code 457 = .ok (.invokevirtual 35, 3) := by decide +kernel
theorem dL_law_460 : decode code 460 = .ok (.if_icmp .eq 1766, 3) := by decide +kernel
theorem dL_law_465 : decode code 465 = .ok (.aload_n 1, 1) := by decide +kernel
theorem dL_law_466 : decode code 466 = .ok (.aload_n 0, 1) := by decide +kernel
theorem dL_law_467 : decode code 467 = .ok (.iload_n 3, 1) := by decide +kernel
theorem dL_law_468 : decode code 468 = .ok (.iconst 1, 1) := by decide +kernel
theorem dL_law_469 : decode code 469 = .ok (.iadd, 1) := by decide +kernel
theorem dL_law_470 : decode code 470 = .ok (.iaload, 1) := by decide +kernel
theorem dL_law_471 : decode code 471 = .ok (.aload_n 0, 1) := by decide +kernel
theorem dL_law_472 : decode code 472 = .ok (.iload_n 3, 1) := by decide +kernel
theorem dL_law_473 : decode code 473 = .ok (.iconst 2, 1) := by decide +kernel
theorem dL_law_474 : decode code 474 = .ok (.iadd, 1) := by decide +kernel
theorem dL_law_475 : decode code 475 = .ok (.iaload, 1) := by decide +kernel
theorem dL_law_476 : decode code 476 = .ok (.invokevirtual 36, 3) := by decide +kernel
theorem dL_law_479 : decode code 479 = .ok (.aload_n 2, 1) := by decide +kernel
theorem dL_law_480 : decode code 480 = .ok (.aload_n 0, 1) := by decide +kernel
theorem dL_law_481 : decode code 481 = .ok (.iload_n 3, 1) := by decide +kernel
theorem dL_law_482 : decode code 482 = .ok (.iconst 1, 1) := by decide +kernel
theorem dL_law_483 : decode code 483 = .ok (.iadd, 1) := by decide +kernel
theorem dL_law_484 : decode code 484 = .ok (.iaload, 1) := by decide +kernel
theorem dL_law_485 : decode code 485 = .ok (.aload_n 0, 1) := by decide +kernel
theorem dL_law_486 : decode code 486 = .ok (.iload_n 3, 1) := by decide +kernel
theorem dL_law_487 : decode code 487 = .ok (.iconst 2, 1) := by decide +kernel
theorem dL_law_488 : decode code 488 = .ok (.iadd, 1) := by decide +kernel
theorem dL_law_489 : decode code 489 = .ok (.iaload, 1) := by decide +kernel
theorem dL_law_490 : decode code 490 = .ok (.invokevirtual 40, 3) := by decide +kernel
theorem dL_law_493 : decode code 493 = .ok (.if_icmp .eq 1733, 3) := by decide +kernel
theorem dL_law_498 : decode code 498 = .ok (.aload_n 1, 1) := by decide +kernel
theorem dL_law_499 : decode code 499 = .ok (.aload_n 0, 1) := by decide +kernel
theorem dL_law_500 : decode code 500 = .ok (.iload_n 3, 1) := by decide +kernel
theorem dL_law_501 : decode code 501 = .ok (.iconst 1, 1) := by decide +kernel
theorem dL_law_502 : decode code 502 = .ok (.iadd, 1) := by decide +kernel
theorem dL_law_503 : decode code 503 = .ok (.iaload, 1) := by decide +kernel
theorem dL_law_504 : decode code 504 = .ok (.aload_n 0, 1) := by decide +kernel
theorem dL_law_505 : decode code 505 = .ok (.iload_n 3, 1) := by decide +kernel
theorem dL_law_506 : decode code 506 = .ok (.iconst 2, 1) := by decide +kernel
theorem dL_law_507 : decode code 507 = .ok (.iadd, 1) := by decide +kernel
theorem dL_law_508 : decode code 508 = .ok (.iaload, 1) := by decide +kernel
theorem dL_law_509 : decode code 509 = .ok (.invokevirtual 41, 3) := by decide +kernel
theorem dL_law_512 : decode code 512 = .ok (.aload_n 2, 1) := by decide +kernel
theorem dL_law_513 : decode code 513 = .ok (.aload_n 0, 1) := by decide +kernel
theorem dL_law_514 : decode code 514 = .ok (.iload_n 3, 1) := by decide +kernel
theorem dL_law_515 : decode code 515 = .ok (.iconst 1, 1) := by decide +kernel
theorem dL_law_516 : decode code 516 = .ok (.iadd, 1) := by decide +kernel
theorem dL_law_517 : decode code 517 = .ok (.iaload, 1) := by decide +kernel
theorem dL_law_518 : decode code 518 = .ok (.aload_n 0, 1) := by decide +kernel
theorem dL_law_519 : decode code 519 = .ok (.iload_n 3, 1) := by decide +kernel
theorem dL_law_520 : decode code 520 = .ok (.iconst 2, 1) := by decide +kernel
theorem dL_law_521 : decode code 521 = .ok (.iadd, 1) := by decide +kernel
theorem dL_law_522 : decode code 522 = .ok (.iaload, 1) := by decide +kernel
theorem dL_law_523 : decode code 523 = .ok (.invokevirtual 44, 3) := by decide +kernel
theorem dL_law_526 : decode code 526 = .ok (.if_icmp .eq 1700, 3) := by decide +kernel
theorem dL_law_531 : decode code 531 = .ok (.aload_n 1, 1) := by decide +kernel
theorem dL_law_532 : decode code 532 = .ok (.aload_n 0, 1) := by decide +kernel
theorem dL_law_533 : decode code 533 = .ok (.iload_n 3, 1) := by decide +kernel
theorem dL_law_534 : decode code 534 = .ok (.iconst 1, 1) := by decide +kernel
theorem dL_law_535 : decode code 535 = .ok (.iadd, 1) := by decide +kernel
theorem dL_law_536 : decode code 536 = .ok (.iaload, 1) := by decide +kernel
theorem dL_law_537 : decode code 537 = .ok (.aload_n 0, 1) := by decide +kernel
theorem dL_law_538 : decode code 538 = .ok (.iload_n 3, 1) := by decide +kernel
theorem dL_law_539 : decode code 539 = .ok (.iconst 2, 1) := by decide +kernel
theorem dL_law_540 : decode code 540 = .ok (.iadd, 1) := by decide +kernel
theorem dL_law_541 : decode code 541 = .ok (.iaload, 1) := by decide +kernel
theorem dL_law_542 : decode code 542 = .ok (.invokevirtual 45, 3) := by decide +kernel
theorem dL_law_545 : decode code 545 = .ok (.aload_n 2, 1) := by decide +kernel
theorem dL_law_546 : decode code 546 = .ok (.aload_n 0, 1) := by decide +kernel
theorem dL_law_547 : decode code 547 = .ok (.iload_n 3, 1) := by decide +kernel
theorem dL_law_548 : decode code 548 = .ok (.iconst 1, 1) := by decide +kernel
theorem dL_law_549 : decode code 549 = .ok (.iadd, 1) := by decide +kernel
theorem dL_law_550 : decode code 550 = .ok (.iaload, 1) := by decide +kernel
theorem dL_law_551 : decode code 551 = .ok (.aload_n 0, 1) := by decide +kernel
theorem dL_law_552 : decode code 552 = .ok (.iload_n 3, 1) := by decide +kernel
theorem dL_law_553 : decode code 553 = .ok (.iconst 2, 1) := by decide +kernel
theorem dL_law_554 : decode code 554 = .ok (.iadd, 1) := by decide +kernel
theorem dL_law_555 : decode code 555 = .ok (.iaload, 1) := by decide +kernel
theorem dL_law_556 : decode code 556 = .ok (.invokevirtual 48, 3) := by decide +kernel
theorem dL_law_559 : decode code 559 = .ok (.if_icmp .eq 1667, 3) := by decide +kernel
theorem dL_law_564 : decode code 564 = .ok (.aload_n 1, 1) := by decide +kernel
theorem dL_law_565 : decode code 565 = .ok (.aload_n 0, 1) := by decide +kernel
theorem dL_law_566 : decode code 566 = .ok (.iload_n 3, 1) := by decide +kernel
theorem dL_law_567 : decode code 567 = .ok (.iconst 1, 1) := by decide +kernel
theorem dL_law_568 : decode code 568 = .ok (.iadd, 1) := by decide +kernel
theorem dL_law_569 : decode code 569 = .ok (.iaload, 1) := by decide +kernel
theorem dL_law_570 : decode code 570 = .ok (.invokevirtual 49, 3) := by decide +kernel
theorem dL_law_573 : decode code 573 = .ok (.aload_n 2, 1) := by decide +kernel
theorem dL_law_574 : decode code 574 = .ok (.aload_n 0, 1) := by decide +kernel
theorem dL_law_575 : decode code 575 = .ok (.iload_n 3, 1) := by decide +kernel
theorem dL_law_576 : decode code 576 = .ok (.iconst 1, 1) := by decide +kernel
theorem dL_law_577 : decode code 577 = .ok (.iadd, 1) := by decide +kernel
theorem dL_law_578 : decode code 578 = .ok (.iaload, 1) := by decide +kernel
theorem dL_law_579 : decode code 579 = .ok (.invokevirtual 52, 3) := by decide +kernel
theorem dL_law_582 : decode code 582 = .ok (.if_icmp .eq 1644, 3) := by decide +kernel
theorem dL_law_587 : decode code 587 = .ok (.aload_n 1, 1) := by decide +kernel
theorem dL_law_588 : decode code 588 = .ok (.aload_n 0, 1) := by decide +kernel
theorem dL_law_589 : decode code 589 = .ok (.iload_n 3, 1) := by decide +kernel
theorem dL_law_590 : decode code 590 = .ok (.iconst 1, 1) := by decide +kernel
theorem dL_law_591 : decode code 591 = .ok (.iadd, 1) := by decide +kernel
theorem dL_law_592 : decode code 592 = .ok (.iaload, 1) := by decide +kernel
theorem dL_law_593 : decode code 593 = .ok (.invokevirtual 53, 3) := by decide +kernel
theorem dL_law_596 : decode code 596 = .ok (.aload_n 2, 1) := by decide +kernel
theorem dL_law_597 : decode code 597 = .ok (.aload_n 0, 1) := by decide +kernel
theorem dL_law_598 : decode code 598 = .ok (.iload_n 3, 1) := by decide +kernel
theorem dL_law_599 : decode code 599 = .ok (.iconst 1, 1) := by decide +kernel
theorem dL_law_600 : decode code 600 = .ok (.iadd, 1) := by decide +kernel
theorem dL_law_601 : decode code 601 = .ok (.iaload, 1) := by decide +kernel
theorem dL_law_602 : decode code 602 = .ok (.invokevirtual 56, 3) := by decide +kernel
theorem dL_law_605 : decode code 605 = .ok (.if_icmp .eq 1621, 3) := by decide +kernel
theorem dL_law_610 : decode code 610 = .ok (.aload_n 1, 1) := by decide +kernel
theorem dL_law_611 : decode code 611 = .ok (.aload_n 0, 1) := by decide +kernel
theorem dL_law_612 : decode code 612 = .ok (.iload_n 3, 1) := by decide +kernel
theorem dL_law_613 : decode code 613 = .ok (.iconst 1, 1) := by decide +kernel
theorem dL_law_614 : decode code 614 = .ok (.iadd, 1) := by decide +kernel
theorem dL_law_615 : decode code 615 = .ok (.iaload, 1) := by decide +kernel
theorem dL_law_616 : decode code 616 = .ok (.invokevirtual 57, 3) := by decide +kernel
theorem dL_law_619 : decode code 619 = .ok (.aload_n 2, 1) := by decide +kernel
theorem dL_law_620 : decode code 620 = .ok (.aload_n 0, 1) := by decide +kernel
theorem dL_law_621 : decode code 621 = .ok (.iload_n 3, 1) := by decide +kernel
theorem dL_law_622 : decode code 622 = .ok (.iconst 1, 1) := by decide +kernel
theorem dL_law_623 : decode code 623 = .ok (.iadd, 1) := by decide +kernel
theorem dL_law_624 : decode code 624 = .ok (.iaload, 1) := by decide +kernel
theorem dL_law_625 : decode code 625 = .ok (.invokevirtual 60, 3) := by decide +kernel
theorem dL_law_628 : decode code 628 = .ok (.if_icmp .eq 1598, 3) := by decide +kernel
set_option maxHeartbeats 4000000 in
set_option maxRecDepth 100000 in
theorem law_out {p : Program} {e : Env} {s : State} {m : MethodId} {below : List Frame} {meth : Method} {c : Code} {l : Launch} {sb L : Nat} {xs : Nat → Int32} {A : Nat → Prop} {G : va_G} {cI cJ cZ cB cQ : ClassId} (h0 : Nat) (b : Nat → Nat) (br : Nat → Nat) (bt : Nat → Nat) (bi : Nat → Nat) (bc : Nat → Nat) (bn : Nat → Nat) (bs : Nat → Nat) (be : Nat → Nat) (bw : Nat → Nat) (h1 : Nat) (bm : Nat → Nat) {H : Heap} {locs : List Loc} (hL : L = 6) (C0 : lw_At p s m meth c sb L xs) (hAe : A = fun q => s.heap.size ≤ q) (hK : va_K G vwCl (TY cI cJ cZ cB cQ) s) (hZ : nz s) (hP : va_P G vwCl (wX cI cJ cZ cB cQ h0 b br bt bi bc bn bs be bw ++ wM cI cJ cZ cB cQ h1 bm) H) (hD : va_D A (wX cI cJ cZ cB cQ h0 b br bt bi bc bn bs be bw ++ wM cI cJ cZ cB cQ h1 bm)) (hS : va_S A s.heap H locs) (ls : Array Slot) (hl : lv_has ls 4 [(3, .int 0), (2, .ref h1), (1, .ref h0), (0, .ref sb)]) (v : Int32) (hv : v.toInt < 0 ∨ 67 < v.toInt) : W p l e room_1 s m #[Value.ref sb] below meth c H locs 88 8166 (lw_Z below #[Value.ref sb] s) (F0 m 33 ls [.int v]) := by
  have hL6 : L ≤ 6 := by omega
  obtain ⟨hx, hb, hr, hml, hown, hts0, hX, hbl, hlocks, hgv⟩ := id C0
  have hown : s.vm.findClass RL = some m.cls := hown
  have hts : ∀ q ∈ GW, q.before #[Value.ref sb] s = true := fun q h => hts0 q (List.mem_filter.mp h).1
  have hA : ∀ q : Nat, s.heap.size ≤ q → A q := fun q h => by rw [hAe]; exact h
  have hbA : ¬ A sb := by rw [hAe]; exact Nat.not_le.mpr hbl
  have hLT : (Int32.ofNat L).toInt = (L : Int) := nI_toInt (by omega)
  have hLi : (L : Int) = 6 := by omega
  refine lv_tableOut (tgt := 2226) hx hb dL_law_33 hv (by decide) ?_
  refine lv_iinc (v := 6) (lv' := [(3, .int 6), (2, .ref h1), (1, .ref h0), (0, .ref sb)]) hx hb dL_law_2226 hl (k := 0) rfl (by decide) (by decide) rfl (fun ls hl => ?_)
  refine lv_goto (tgt := 18) hx hb dL_law_2229 (by decide) ?_
  exact law_exit hL6 C0 hAe hS ls (lv_sub hl [3, 0] rfl) (by decide) (by decide)
set_option maxHeartbeats 4000000 in
set_option maxRecDepth 100000 in
theorem law_0 {p : Program} {e : Env} {s : State} {m : MethodId} {below : List Frame} {meth : Method} {c : Code} {l : Launch} {sb L : Nat} {xs : Nat → Int32} {A : Nat → Prop} {G : va_G} {cI cJ cZ cB cQ : ClassId} (h0 : Nat) (b : Nat → Nat) (br : Nat → Nat) (bt : Nat → Nat) (bi : Nat → Nat) (bc : Nat → Nat) (bn : Nat → Nat) (bs : Nat → Nat) (be : Nat → Nat) (bw : Nat → Nat) (h1 : Nat) (bm : Nat → Nat) {H : Heap} {locs : List Loc} (hL : L = 6) (C0 : lw_At p s m meth c sb L xs) (hAe : A = fun q => s.heap.size ≤ q) (hK : va_K G vwCl (TY cI cJ cZ cB cQ) s) (hZ : nz s) (hP : va_P G vwCl (wX cI cJ cZ cB cQ h0 b br bt bi bc bn bs be bw ++ wM cI cJ cZ cB cQ h1 bm) H) (hD : va_D A (wX cI cJ cZ cB cQ h0 b br bt bi bc bn bs be bw ++ wM cI cJ cZ cB cQ h1 bm)) (hS : va_S A s.heap H locs) (ls : Array Slot) (hl : lv_has ls 4 [(3, .int 0), (2, .ref h1), (1, .ref h0), (0, .ref sb)]) (v : Int32) (hv : v.toInt = 0) : W p l e room_1 s m #[Value.ref sb] below meth c H locs 88 8166 (lw_Z below #[Value.ref sb] s) (F0 m 33 ls [.int v]) := by
  have hL6 : L ≤ 6 := by omega
  obtain ⟨hx, hb, hr, hml, hown, hts0, hX, hbl, hlocks, hgv⟩ := id C0
  have hown : s.vm.findClass RL = some m.cls := hown
  have hts : ∀ q ∈ GW, q.before #[Value.ref sb] s = true := fun q h => hts0 q (List.mem_filter.mp h).1
  have hA : ∀ q : Nat, s.heap.size ≤ q → A q := fun q h => by rw [hAe]; exact h
  have hbA : ¬ A sb := by rw [hAe]; exact Nat.not_le.mpr hbl
  have hLT : (Int32.ofNat L).toInt = (L : Int) := nI_toInt (by omega)
  have hLi : (L : Int) = 6 := by omega
  refine lv_tableIn (off := 287) (tgt := 320) hx hb dL_law_33 (by rw [hv]; decide) (by rw [hv]; decide) (by rw [hv]; rfl) (by decide) ?_
  have hP : va_P G vwCl [(h0, oX9 b), (b 0, oX4 br 0 (-1) 0 0 0), (br 2, oX8 bt 0), (bt 0, .inl (cB, 900, .inl (fun _ => 0))), (h1, oX10 bm 0 0 0 0 0 0 0 0 (-1) 0 0 0 0 0 0 0 0 0), (bm 4, .inl (cB, 900, .inl (fun _ => 0))), (bm 6, .inl (cI, 5, .inl (fun _ => 0)))] H := hP.sub [0, 1, 2, 3, 59, 63, 64] rfl
  have hD : va_D A [(h0, oX9 b), (b 0, oX4 br 0 (-1) 0 0 0), (br 2, oX8 bt 0), (bt 0, .inl (cB, 900, .inl (fun _ => 0))), (h1, oX10 bm 0 0 0 0 0 0 0 0 (-1) 0 0 0 0 0 0 0 0 0), (bm 4, .inl (cB, 900, .inl (fun _ => 0))), (bm 6, .inl (cI, 5, .inl (fun _ => 0)))] := hD.sub [0, 1, 2, 3, 59, 63, 64] rfl rfl
  refine lv_aload_n hx hb dL_law_320 rfl (lv_at hl 2 rfl) ?_
  refine lv_aload_n hx hb dL_law_321 rfl (lv_at hl 3 rfl) ?_
  refine lv_iload_n hx hb dL_law_322 rfl (lv_at hl 0 rfl) ?_
  refine lv_iconst (v := 1) hx hb dL_law_323 (by decide) ?_
  refine lv_iadd hx hb dL_law_324 ?_
  refine lv_topi (fun v1 ev1 => ?_)
  obtain rfl : v1 = 1 := ev1.trans (by decide)
  refine va_sld hx hb hX hbl hbA hS (ix_in ki_1 (by omega) (by omega)) dL_law_325 ?_
  refine W.eq (g2 := F0 m 326 ls [.int (xs 1), .ref h0]) rfl ?_
  refine lv_aload_n hx hb dL_law_326 rfl (lv_at hl 3 rfl) ?_
  refine lv_iload_n hx hb dL_law_327 rfl (lv_at hl 0 rfl) ?_
  refine lv_iconst (v := 2) hx hb dL_law_328 (by decide) ?_
  refine lv_iadd hx hb dL_law_329 ?_
  refine lv_topi (fun v2 ev2 => ?_)
  obtain rfl : v2 = 2 := ev2.trans (by decide)
  refine va_sld hx hb hX hbl hbA hS (ix_in ki_2 (by omega) (by omega)) dL_law_330 ?_
  refine W.eq (g2 := F0 m 331 ls [.int (xs 2), .int (xs 1), .ref h0]) rfl ?_
  refine lv_aload_n hx hb dL_law_331 rfl (lv_at hl 3 rfl) ?_
  refine lv_iload_n hx hb dL_law_332 rfl (lv_at hl 0 rfl) ?_
  refine lv_iconst (v := 3) hx hb dL_law_333 (by decide) ?_
  refine lv_iadd hx hb dL_law_334 ?_
  refine lv_topi (fun v3 ev3 => ?_)
  obtain rfl : v3 = 3 := ev3.trans (by decide)
  refine va_sld hx hb hX hbl hbA hS (ix_in ki_3 (by omega) (by omega)) dL_law_335 ?_
  refine W.eq (g2 := F0 m 336 ls [.int (xs 3), .int (xs 2), .int (xs 1), .ref h0]) rfl ?_
  refine lv_aload_n hx hb dL_law_336 rfl (lv_at hl 3 rfl) ?_
  refine lv_iload_n hx hb dL_law_337 rfl (lv_at hl 0 rfl) ?_
  refine lv_iconst (v := 4) hx hb dL_law_338 (by decide) ?_
  refine lv_iadd hx hb dL_law_339 ?_
  refine lv_topi (fun v4 ev4 => ?_)
  obtain rfl : v4 = 4 := ev4.trans (by decide)
  refine va_sld hx hb hX hbl hbA hS (ix_in ki_4 (by omega) (by omega)) dL_law_340 ?_
  refine W.eq (g2 := F0 m 341 ls [.int (xs 4), .int (xs 3), .int (xs 2), .int (xs 1), .ref h0]) rfl ?_
  refine lv_aload_n hx hb dL_law_341 rfl (lv_at hl 3 rfl) ?_
  refine lv_iload_n hx hb dL_law_342 rfl (lv_at hl 0 rfl) ?_
  refine lv_iconst (v := 5) hx hb dL_law_343 (by decide) ?_
  refine lv_iadd hx hb dL_law_344 ?_
  refine lv_topi (fun v5 ev5 => ?_)
  obtain rfl : v5 = 5 := ev5.trans (by decide)
  refine va_sld hx hb hX hbl hbA hS (ix_in ki_5 (by omega) (by omega)) dL_law_345 ?_
  refine W.eq (g2 := F0 m 346 ls [.int (xs 5), .int (xs 4), .int (xs 3), .int (xs 2), .int (xs 1), .ref h0]) rfl ?_
  refine k_i (wc := [(h0, oX9 b), (b 0, oX4 br 0 (-1) 0 0 0), (br 2, oX8 bt 0), (bt 0, .inl (cB, 900, .inl (fun _ => 0)))]) (wr := [(h1, oX10 bm 0 0 0 0 0 0 0 0 (-1) 0 0 0 0 0 0 0 0 0), (bm 4, .inl (cB, 900, .inl (fun _ => 0))), (bm 6, .inl (cI, 5, .inl (fun _ => 0)))]) hP hD hS hA [0, 1, 2, 3] [4, 5, 6] rfl rfl rfl (by decide) (va_runV (As := [.int (xs 1), .int (xs 2), .int (xs 3), .int (xs 4), .int (xs 5)]) (rest := []) ⟨hx, hb, hml, hown, hts⟩ (f_X9_feed l G cI cJ cZ cB cQ _ h0 b br bt (xs 1) (xs 2) (xs 3) (xs 4) (xs 5)) (cwV 5 hts (gV w_385 w_386 w_387 w_1 w_388) rfl rfl rfl ⟨rfl, hd_X9_feed⟩ ⟨Nat.le_of_ble_eq_true rfl, Nat.le_of_ble_eq_true rfl⟩) (mV hK hZ hP hD [0, 1, 2, 3] rfl rfl [.int (xs 1), .int (xs 2), .int (xs 3), .int (xs 4), .int (xs 5)] 0 9 rfl rfl) rfl rfl hl.1 rfl (lv_room (Nat.le_of_ble_eq_true rfl)) dL_law_346 ⟨Nat.le_of_ble_eq_true rfl, Nat.le_of_ble_eq_true rfl⟩) (fun r6 u7 H locs hw8 hP hD hS => ?_)
  obtain ⟨l19, f110⟩ := u7
  try dsimp only at hw8
  have hP : va_P G vwCl [(h1, oX10 bm 0 0 0 0 0 0 0 0 (-1) 0 0 0 0 0 0 0 0 0), (bm 4, .inl (cB, 900, .inl (fun _ => 0))), (bm 6, .inl (cI, 5, .inl (fun _ => 0))), (h0, oX9 b), (b 0, oX4 br 0 (-1) 0 0 0), (br 2, oX8 bt l19), (bt 0, .inl (cB, 900, .inl f110))] H := hP
  have hD : va_D A [(h1, oX10 bm 0 0 0 0 0 0 0 0 (-1) 0 0 0 0 0 0 0 0 0), (bm 4, .inl (cB, 900, .inl (fun _ => 0))), (bm 6, .inl (cI, 5, .inl (fun _ => 0))), (h0, oX9 b), (b 0, oX4 br 0 (-1) 0 0 0), (br 2, oX8 bt l19), (bt 0, .inl (cB, 900, .inl f110))] := hD
  obtain rfl : r6 = 20 := hw8
  refine lv_aload_n hx hb dL_law_349 rfl (lv_at hl 1 rfl) ?_
  refine lv_aload_n hx hb dL_law_350 rfl (lv_at hl 3 rfl) ?_
  refine lv_iload_n hx hb dL_law_351 rfl (lv_at hl 0 rfl) ?_
  refine lv_iconst (v := 1) hx hb dL_law_352 (by decide) ?_
  refine lv_iadd hx hb dL_law_353 ?_
  refine lv_topi (fun v11 ev11 => ?_)
  obtain rfl : v11 = 1 := ev11.trans (by decide)
  refine va_sld hx hb hX hbl hbA hS (ix_in ki_1 (by omega) (by omega)) dL_law_354 ?_
  refine W.eq (g2 := F0 m 355 ls [.int (xs 1), .ref h1, .int 20]) rfl ?_
  refine lv_aload_n hx hb dL_law_355 rfl (lv_at hl 3 rfl) ?_
  refine lv_iload_n hx hb dL_law_356 rfl (lv_at hl 0 rfl) ?_
  refine lv_iconst (v := 2) hx hb dL_law_357 (by decide) ?_
  refine lv_iadd hx hb dL_law_358 ?_
  refine lv_topi (fun v12 ev12 => ?_)
  obtain rfl : v12 = 2 := ev12.trans (by decide)
  refine va_sld hx hb hX hbl hbA hS (ix_in ki_2 (by omega) (by omega)) dL_law_359 ?_
  refine W.eq (g2 := F0 m 360 ls [.int (xs 2), .int (xs 1), .ref h1, .int 20]) rfl ?_
  refine lv_aload_n hx hb dL_law_360 rfl (lv_at hl 3 rfl) ?_
  refine lv_iload_n hx hb dL_law_361 rfl (lv_at hl 0 rfl) ?_
  refine lv_iconst (v := 3) hx hb dL_law_362 (by decide) ?_
  refine lv_iadd hx hb dL_law_363 ?_
  refine lv_topi (fun v13 ev13 => ?_)
  obtain rfl : v13 = 3 := ev13.trans (by decide)
  refine va_sld hx hb hX hbl hbA hS (ix_in ki_3 (by omega) (by omega)) dL_law_364 ?_
  refine W.eq (g2 := F0 m 365 ls [.int (xs 3), .int (xs 2), .int (xs 1), .ref h1, .int 20]) rfl ?_
  refine lv_aload_n hx hb dL_law_365 rfl (lv_at hl 3 rfl) ?_
  refine lv_iload_n hx hb dL_law_366 rfl (lv_at hl 0 rfl) ?_
  refine lv_iconst (v := 4) hx hb dL_law_367 (by decide) ?_
  refine lv_iadd hx hb dL_law_368 ?_
  refine lv_topi (fun v14 ev14 => ?_)
  obtain rfl : v14 = 4 := ev14.trans (by decide)
  refine va_sld hx hb hX hbl hbA hS (ix_in ki_4 (by omega) (by omega)) dL_law_369 ?_
  refine W.eq (g2 := F0 m 370 ls [.int (xs 4), .int (xs 3), .int (xs 2), .int (xs 1), .ref h1, .int 20]) rfl ?_
  refine lv_aload_n hx hb dL_law_370 rfl (lv_at hl 3 rfl) ?_
  refine lv_iload_n hx hb dL_law_371 rfl (lv_at hl 0 rfl) ?_
  refine lv_iconst (v := 5) hx hb dL_law_372 (by decide) ?_
  refine lv_iadd hx hb dL_law_373 ?_
  refine lv_topi (fun v15 ev15 => ?_)
  obtain rfl : v15 = 5 := ev15.trans (by decide)
  refine va_sld hx hb hX hbl hbA hS (ix_in ki_5 (by omega) (by omega)) dL_law_374 ?_
  refine W.eq (g2 := F0 m 375 ls [.int (xs 5), .int (xs 4), .int (xs 3), .int (xs 2), .int (xs 1), .ref h1, .int 20]) rfl ?_
  refine k_i (wc := [(h1, oX10 bm 0 0 0 0 0 0 0 0 (-1) 0 0 0 0 0 0 0 0 0), (bm 4, .inl (cB, 900, .inl (fun _ => 0))), (bm 6, .inl (cI, 5, .inl (fun _ => 0)))]) (wr := [(h0, oX9 b), (b 0, oX4 br 0 (-1) 0 0 0), (br 2, oX8 bt l19), (bt 0, .inl (cB, 900, .inl f110))]) hP hD hS hA [0, 1, 2] [3, 4, 5, 6] rfl rfl rfl (by decide) (va_runV (As := [.int (xs 1), .int (xs 2), .int (xs 3), .int (xs 4), .int (xs 5)]) (rest := [.int 20]) ⟨hx, hb, hml, hown, hts⟩ (f_X10_feed l G cI cJ cZ cB cQ _ h1 bm (xs 1) (xs 2) (xs 3) (xs 4) (xs 5)) (cwV 5 hts (gV w_1343 w_1344 w_1345 w_11 w_1346) rfl rfl rfl ⟨rfl, hd_X10_feed⟩ ⟨Nat.le_of_ble_eq_true rfl, Nat.le_of_ble_eq_true rfl⟩) (mV hK hZ hP hD [0, 1, 2] rfl rfl [.int (xs 1), .int (xs 2), .int (xs 3), .int (xs 4), .int (xs 5)] 0 10 rfl rfl) rfl rfl hl.1 rfl (lv_room (Nat.le_of_ble_eq_true rfl)) dL_law_375 ⟨Nat.le_of_ble_eq_true rfl, Nat.le_of_ble_eq_true rfl⟩) (fun r16 u17 H locs hw18 hP hD hS => ?_)
  obtain ⟨f119, f220⟩ := u17
  try dsimp only at hw18
  have hP : va_P G vwCl [(h0, oX9 b), (b 0, oX4 br 0 (-1) 0 0 0), (br 2, oX8 bt l19), (bt 0, .inl (cB, 900, .inl f110)), (h1, oX10 bm 0 20 0 0 0 0 0 0 (-1) 0 0 0 0 0 0 0 0 0), (bm 4, .inl (cB, 900, .inl f119)), (bm 6, .inl (cI, 5, .inl f220))] H := hP
  have hD : va_D A [(h0, oX9 b), (b 0, oX4 br 0 (-1) 0 0 0), (br 2, oX8 bt l19), (bt 0, .inl (cB, 900, .inl f110)), (h1, oX10 bm 0 20 0 0 0 0 0 0 (-1) 0 0 0 0 0 0 0 0 0), (bm 4, .inl (cB, 900, .inl f119)), (bm 6, .inl (cI, 5, .inl f220))] := hD
  obtain rfl : r16 = 20 := hw18
  refine lv_icmp_eq (tgt := 2226) hx hb dL_law_378 (by decide) (fun c21 => ?_) (fun c21 => absurd (by decide) c21)
  refine lv_iinc (v := 6) (lv' := [(3, .int 6), (2, .ref h1), (1, .ref h0), (0, .ref sb)]) hx hb dL_law_2226 hl (k := 0) rfl (by decide) (by decide) rfl (fun ls hl => ?_)
  refine lv_goto (tgt := 18) hx hb dL_law_2229 (by decide) ?_
  exact law_exit hL6 C0 hAe hS ls (lv_sub hl [3, 0] rfl) (by decide) (by decide)
set_option maxHeartbeats 4000000 in
set_option maxRecDepth 100000 in
theorem law_1 {p : Program} {e : Env} {s : State} {m : MethodId} {below : List Frame} {meth : Method} {c : Code} {l : Launch} {sb L : Nat} {xs : Nat → Int32} {A : Nat → Prop} {G : va_G} {cI cJ cZ cB cQ : ClassId} (h0 : Nat) (b : Nat → Nat) (br : Nat → Nat) (bt : Nat → Nat) (bi : Nat → Nat) (bc : Nat → Nat) (bn : Nat → Nat) (bs : Nat → Nat) (be : Nat → Nat) (bw : Nat → Nat) (h1 : Nat) (bm : Nat → Nat) {H : Heap} {locs : List Loc} (hL : L = 6) (C0 : lw_At p s m meth c sb L xs) (hAe : A = fun q => s.heap.size ≤ q) (hK : va_K G vwCl (TY cI cJ cZ cB cQ) s) (hZ : nz s) (hP : va_P G vwCl (wX cI cJ cZ cB cQ h0 b br bt bi bc bn bs be bw ++ wM cI cJ cZ cB cQ h1 bm) H) (hD : va_D A (wX cI cJ cZ cB cQ h0 b br bt bi bc bn bs be bw ++ wM cI cJ cZ cB cQ h1 bm)) (hS : va_S A s.heap H locs) (ls : Array Slot) (hl : lv_has ls 4 [(3, .int 0), (2, .ref h1), (1, .ref h0), (0, .ref sb)]) (v : Int32) (hv : v.toInt = 1) : W p l e room_1 s m #[Value.ref sb] below meth c H locs 88 8166 (lw_Z below #[Value.ref sb] s) (F0 m 33 ls [.int v]) := by
  have hL6 : L ≤ 6 := by omega
  obtain ⟨hx, hb, hr, hml, hown, hts0, hX, hbl, hlocks, hgv⟩ := id C0
  have hown : s.vm.findClass RL = some m.cls := hown
  have hts : ∀ q ∈ GW, q.before #[Value.ref sb] s = true := fun q h => hts0 q (List.mem_filter.mp h).1
  have hA : ∀ q : Nat, s.heap.size ≤ q → A q := fun q h => by rw [hAe]; exact h
  have hbA : ¬ A sb := by rw [hAe]; exact Nat.not_le.mpr hbl
  have hLT : (Int32.ofNat L).toInt = (L : Int) := nI_toInt (by omega)
  have hLi : (L : Int) = 6 := by omega
  refine lv_tableIn (off := 350) (tgt := 383) hx hb dL_law_33 (by rw [hv]; decide) (by rw [hv]; decide) (by rw [hv]; rfl) (by decide) ?_
  have hP : va_P G vwCl [(h0, oX9 b), (b 0, oX4 br 0 (-1) 0 0 0), (br 2, oX8 bt 0), (h1, oX10 bm 0 0 0 0 0 0 0 0 (-1) 0 0 0 0 0 0 0 0 0)] H := hP.sub [0, 1, 2, 59] rfl
  have hD : va_D A [(h0, oX9 b), (b 0, oX4 br 0 (-1) 0 0 0), (br 2, oX8 bt 0), (h1, oX10 bm 0 0 0 0 0 0 0 0 (-1) 0 0 0 0 0 0 0 0 0)] := hD.sub [0, 1, 2, 59] rfl rfl
  refine lv_aload_n hx hb dL_law_383 rfl (lv_at hl 2 rfl) ?_
  refine lv_aload_n hx hb dL_law_384 rfl (lv_at hl 3 rfl) ?_
  refine lv_iload_n hx hb dL_law_385 rfl (lv_at hl 0 rfl) ?_
  refine lv_iconst (v := 1) hx hb dL_law_386 (by decide) ?_
  refine lv_iadd hx hb dL_law_387 ?_
  refine lv_topi (fun v1 ev1 => ?_)
  obtain rfl : v1 = 1 := ev1.trans (by decide)
  refine va_sld hx hb hX hbl hbA hS (ix_in ki_1 (by omega) (by omega)) dL_law_388 ?_
  refine W.eq (g2 := F0 m 389 ls [.int (xs 1), .ref h0]) rfl ?_
  refine k_i (wc := [(h0, oX9 b), (b 0, oX4 br 0 (-1) 0 0 0), (br 2, oX8 bt 0)]) (wr := [(h1, oX10 bm 0 0 0 0 0 0 0 0 (-1) 0 0 0 0 0 0 0 0 0)]) hP hD hS hA [0, 1, 2] [3] rfl rfl rfl (by decide) (va_runV (As := [.int (xs 1)]) (rest := []) ⟨hx, hb, hml, hown, hts⟩ (f_X9_end l G cI cJ cZ cB cQ _ h0 b br bt (xs 1)) (cwV 1 hts (gV w_393 w_394 w_395 w_1 w_396) rfl rfl rfl ⟨rfl, hd_X9_end⟩ ⟨Nat.le_of_ble_eq_true rfl, Nat.le_of_ble_eq_true rfl⟩) (mV hK hZ hP hD [0, 1, 2] rfl rfl [.int (xs 1)] 0 9 rfl rfl) rfl rfl hl.1 rfl (lv_room (Nat.le_of_ble_eq_true rfl)) dL_law_389 ⟨Nat.le_of_ble_eq_true rfl, Nat.le_of_ble_eq_true rfl⟩) (fun r2 u3 H locs hw4 hP hD hS => ?_)
  obtain ⟨l15, rfl⟩ : ∃ z, z = u3 := ⟨_, rfl⟩
  try dsimp only at hw4
  have hP : va_P G vwCl [(h1, oX10 bm 0 0 0 0 0 0 0 0 (-1) 0 0 0 0 0 0 0 0 0), (h0, oX9 b), (b 0, oX4 br 0 (-1) 0 0 0), (br 2, oX8 bt l15)] H := hP
  have hD : va_D A [(h1, oX10 bm 0 0 0 0 0 0 0 0 (-1) 0 0 0 0 0 0 0 0 0), (h0, oX9 b), (b 0, oX4 br 0 (-1) 0 0 0), (br 2, oX8 bt l15)] := hD
  refine lv_aload_n hx hb dL_law_392 rfl (lv_at hl 1 rfl) ?_
  refine lv_aload_n hx hb dL_law_393 rfl (lv_at hl 3 rfl) ?_
  refine lv_iload_n hx hb dL_law_394 rfl (lv_at hl 0 rfl) ?_
  refine lv_iconst (v := 1) hx hb dL_law_395 (by decide) ?_
  refine lv_iadd hx hb dL_law_396 ?_
  refine lv_topi (fun v6 ev6 => ?_)
  obtain rfl : v6 = 1 := ev6.trans (by decide)
  refine va_sld hx hb hX hbl hbA hS (ix_in ki_1 (by omega) (by omega)) dL_law_397 ?_
  refine W.eq (g2 := F0 m 398 ls [.int (xs 1), .ref h1, .int r2]) rfl ?_
  refine k_i (wc := [(h1, oX10 bm 0 0 0 0 0 0 0 0 (-1) 0 0 0 0 0 0 0 0 0)]) (wr := [(h0, oX9 b), (b 0, oX4 br 0 (-1) 0 0 0), (br 2, oX8 bt l15)]) hP hD hS hA [0] [1, 2, 3] rfl rfl rfl (by decide) (va_runV (As := [.int (xs 1)]) (rest := [.int r2]) ⟨hx, hb, hml, hown, hts⟩ (f_X10_end l G cI cJ cZ cB cQ _ h1 bm (xs 1)) (cwV 1 hts (gV w_1347 w_1348 w_1349 w_11 w_1350) rfl rfl rfl ⟨rfl, hd_X10_end⟩ ⟨Nat.le_of_ble_eq_true rfl, Nat.le_of_ble_eq_true rfl⟩) (mV hK hZ hP hD [0] rfl rfl [.int (xs 1)] 0 10 rfl rfl) rfl rfl hl.1 rfl (lv_room (Nat.le_of_ble_eq_true rfl)) dL_law_398 ⟨Nat.le_of_ble_eq_true rfl, Nat.le_of_ble_eq_true rfl⟩) (fun r7 u8 H locs hw9 hP hD hS => ?_)
  obtain ⟨l110, rfl⟩ : ∃ z, z = u8 := ⟨_, rfl⟩
  try dsimp only at hw9
  have hP : va_P G vwCl [(h0, oX9 b), (b 0, oX4 br 0 (-1) 0 0 0), (br 2, oX8 bt l15), (h1, oX10 bm 0 l110 0 0 0 0 0 0 (-1) 0 0 0 0 0 0 0 0 0)] H := hP
  have hD : va_D A [(h0, oX9 b), (b 0, oX4 br 0 (-1) 0 0 0), (br 2, oX8 bt l15), (h1, oX10 bm 0 l110 0 0 0 0 0 0 (-1) 0 0 0 0 0 0 0 0 0)] := hD
  refine lv_icmp_eq (tgt := 2226) hx hb dL_law_401 (by decide) (fun c11 => ?_) (fun c11 => absurd (hw4.trans hw9.symm) c11)
  refine lv_iinc (v := 6) (lv' := [(3, .int 6), (2, .ref h1), (1, .ref h0), (0, .ref sb)]) hx hb dL_law_2226 hl (k := 0) rfl (by decide) (by decide) rfl (fun ls hl => ?_)
  refine lv_goto (tgt := 18) hx hb dL_law_2229 (by decide) ?_
  exact law_exit hL6 C0 hAe hS ls (lv_sub hl [3, 0] rfl) (by decide) (by decide)
set_option maxHeartbeats 4000000 in
set_option maxRecDepth 100000 in
theorem law_2 {p : Program} {e : Env} {s : State} {m : MethodId} {below : List Frame} {meth : Method} {c : Code} {l : Launch} {sb L : Nat} {xs : Nat → Int32} {A : Nat → Prop} {G : va_G} {cI cJ cZ cB cQ : ClassId} (h0 : Nat) (b : Nat → Nat) (br : Nat → Nat) (bt : Nat → Nat) (bi : Nat → Nat) (bc : Nat → Nat) (bn : Nat → Nat) (bs : Nat → Nat) (be : Nat → Nat) (bw : Nat → Nat) (h1 : Nat) (bm : Nat → Nat) {H : Heap} {locs : List Loc} (hL : L = 6) (C0 : lw_At p s m meth c sb L xs) (hAe : A = fun q => s.heap.size ≤ q) (hK : va_K G vwCl (TY cI cJ cZ cB cQ) s) (hZ : nz s) (hP : va_P G vwCl (wX cI cJ cZ cB cQ h0 b br bt bi bc bn bs be bw ++ wM cI cJ cZ cB cQ h1 bm) H) (hD : va_D A (wX cI cJ cZ cB cQ h0 b br bt bi bc bn bs be bw ++ wM cI cJ cZ cB cQ h1 bm)) (hS : va_S A s.heap H locs) (ls : Array Slot) (hl : lv_has ls 4 [(3, .int 0), (2, .ref h1), (1, .ref h0), (0, .ref sb)]) (v : Int32) (hv : v.toInt = 2) : W p l e room_1 s m #[Value.ref sb] below meth c H locs 88 8166 (lw_Z below #[Value.ref sb] s) (F0 m 33 ls [.int v]) := by
  have hL6 : L ≤ 6 := by omega
  obtain ⟨hx, hb, hr, hml, hown, hts0, hX, hbl, hlocks, hgv⟩ := id C0
  have hown : s.vm.findClass RL = some m.cls := hown
  have hts : ∀ q ∈ GW, q.before #[Value.ref sb] s = true := fun q h => hts0 q (List.mem_filter.mp h).1
  have hA : ∀ q : Nat, s.heap.size ≤ q → A q := fun q h => by rw [hAe]; exact h
  have hbA : ¬ A sb := by rw [hAe]; exact Nat.not_le.mpr hbl
  have hLT : (Int32.ofNat L).toInt = (L : Int) := nI_toInt (by omega)
  have hLi : (L : Int) = 6 := by omega
  refine lv_tableIn (off := 373) (tgt := 406) hx hb dL_law_33 (by rw [hv]; decide) (by rw [hv]; decide) (by rw [hv]; rfl) (by decide) ?_
  have hP : va_P G vwCl [(h0, oX9 b), (b 0, oX4 br 0 (-1) 0 0 0), (br 2, oX8 bt 0), (br 3, oX0 bi 0 0 0 0 0 0 0 0 0 0), (bi 10, .inl (cI, 12, .inl (fun _ => 0))), (bi 11, .inl (cI, 6, .inl (fun _ => 0))), (bi 12, .inl (cI, 7, .inl (fun _ => 0))), (bi 13, .inl (cI, 7, .inl (fun _ => 0))), (bi 14, .inl (cI, 7, .inl (fun _ => 0))), (bi 15, .inl (cI, 7, .inl (fun _ => 0))), (bi 16, .inl (cI, 7, .inl (fun _ => 0))), (bi 17, .inl (cI, 56, .inl (fun _ => 0))), (bi 18, .inl (cI, 30, .inl (fun _ => 0))), (b 1, oX0 bc 0 0 0 0 0 0 0 0 0 0), (bc 10, .inl (cI, 12, .inl (fun _ => 0))), (bc 11, .inl (cI, 6, .inl (fun _ => 0))), (bc 12, .inl (cI, 7, .inl (fun _ => 0))), (bc 13, .inl (cI, 7, .inl (fun _ => 0))), (bc 14, .inl (cI, 7, .inl (fun _ => 0))), (bc 15, .inl (cI, 7, .inl (fun _ => 0))), (bc 16, .inl (cI, 7, .inl (fun _ => 0))), (bc 17, .inl (cI, 56, .inl (fun _ => 0))), (bc 18, .inl (cI, 30, .inl (fun _ => 0))), (b 3, oX7 z0 0 0 0 0 0 0), (b 4, oX6 bn 0 0), (bn 1, .inl (cI, 7, .inl (fun _ => 0))), (bn 2, .inl (cI, 7, .inl (fun _ => 0))), (bn 3, .inl (cJ, 7, .inr (.inl (fun _ => 0)))), (bn 4, .inl (cI, 7, .inl (fun _ => 0))), (bn 5, .inl (cI, 6, .inl (fun _ => 0))), (bn 6, .inl (cI, 78, .inl (fun _ => 0))), (bn 7, .inl (cJ, 13, .inr (.inl (fun _ => 0)))), (bn 8, .inl (cJ, 13, .inr (.inl (fun _ => 0)))), (bn 9, .inl (cJ, 13, .inr (.inl (fun _ => 0)))), (b 6, oX1 be 0), (h1, oX10 bm 0 0 0 0 0 0 0 0 (-1) 0 0 0 0 0 0 0 0 0), (bm 14, .inl (cI, 149, .inl (fun _ => 0))), (bm 1, .inl (cI, 149, .inl (fun _ => 0)))] H := hP.sub [0, 1, 2, 4, 5, 6, 7, 8, 9, 10, 11, 12, 13, 14, 15, 16, 17, 18, 19, 20, 21, 22, 23, 25, 26, 28, 29, 30, 31, 32, 33, 34, 35, 36, 48, 59, 65, 60] rfl
  have hD : va_D A [(h0, oX9 b), (b 0, oX4 br 0 (-1) 0 0 0), (br 2, oX8 bt 0), (br 3, oX0 bi 0 0 0 0 0 0 0 0 0 0), (bi 10, .inl (cI, 12, .inl (fun _ => 0))), (bi 11, .inl (cI, 6, .inl (fun _ => 0))), (bi 12, .inl (cI, 7, .inl (fun _ => 0))), (bi 13, .inl (cI, 7, .inl (fun _ => 0))), (bi 14, .inl (cI, 7, .inl (fun _ => 0))), (bi 15, .inl (cI, 7, .inl (fun _ => 0))), (bi 16, .inl (cI, 7, .inl (fun _ => 0))), (bi 17, .inl (cI, 56, .inl (fun _ => 0))), (bi 18, .inl (cI, 30, .inl (fun _ => 0))), (b 1, oX0 bc 0 0 0 0 0 0 0 0 0 0), (bc 10, .inl (cI, 12, .inl (fun _ => 0))), (bc 11, .inl (cI, 6, .inl (fun _ => 0))), (bc 12, .inl (cI, 7, .inl (fun _ => 0))), (bc 13, .inl (cI, 7, .inl (fun _ => 0))), (bc 14, .inl (cI, 7, .inl (fun _ => 0))), (bc 15, .inl (cI, 7, .inl (fun _ => 0))), (bc 16, .inl (cI, 7, .inl (fun _ => 0))), (bc 17, .inl (cI, 56, .inl (fun _ => 0))), (bc 18, .inl (cI, 30, .inl (fun _ => 0))), (b 3, oX7 z0 0 0 0 0 0 0), (b 4, oX6 bn 0 0), (bn 1, .inl (cI, 7, .inl (fun _ => 0))), (bn 2, .inl (cI, 7, .inl (fun _ => 0))), (bn 3, .inl (cJ, 7, .inr (.inl (fun _ => 0)))), (bn 4, .inl (cI, 7, .inl (fun _ => 0))), (bn 5, .inl (cI, 6, .inl (fun _ => 0))), (bn 6, .inl (cI, 78, .inl (fun _ => 0))), (bn 7, .inl (cJ, 13, .inr (.inl (fun _ => 0)))), (bn 8, .inl (cJ, 13, .inr (.inl (fun _ => 0)))), (bn 9, .inl (cJ, 13, .inr (.inl (fun _ => 0)))), (b 6, oX1 be 0), (h1, oX10 bm 0 0 0 0 0 0 0 0 (-1) 0 0 0 0 0 0 0 0 0), (bm 14, .inl (cI, 149, .inl (fun _ => 0))), (bm 1, .inl (cI, 149, .inl (fun _ => 0)))] := hD.sub [0, 1, 2, 4, 5, 6, 7, 8, 9, 10, 11, 12, 13, 14, 15, 16, 17, 18, 19, 20, 21, 22, 23, 25, 26, 28, 29, 30, 31, 32, 33, 34, 35, 36, 48, 59, 65, 60] rfl rfl
  refine lv_aload_n hx hb dL_law_406 rfl (lv_at hl 2 rfl) ?_
  refine k_i (wc := [(h0, oX9 b), (b 0, oX4 br 0 (-1) 0 0 0), (br 2, oX8 bt 0), (br 3, oX0 bi 0 0 0 0 0 0 0 0 0 0), (bi 10, .inl (cI, 12, .inl (fun _ => 0))), (bi 11, .inl (cI, 6, .inl (fun _ => 0))), (bi 12, .inl (cI, 7, .inl (fun _ => 0))), (bi 13, .inl (cI, 7, .inl (fun _ => 0))), (bi 14, .inl (cI, 7, .inl (fun _ => 0))), (bi 15, .inl (cI, 7, .inl (fun _ => 0))), (bi 16, .inl (cI, 7, .inl (fun _ => 0))), (bi 17, .inl (cI, 56, .inl (fun _ => 0))), (bi 18, .inl (cI, 30, .inl (fun _ => 0))), (b 1, oX0 bc 0 0 0 0 0 0 0 0 0 0), (bc 10, .inl (cI, 12, .inl (fun _ => 0))), (bc 11, .inl (cI, 6, .inl (fun _ => 0))), (bc 12, .inl (cI, 7, .inl (fun _ => 0))), (bc 13, .inl (cI, 7, .inl (fun _ => 0))), (bc 14, .inl (cI, 7, .inl (fun _ => 0))), (bc 15, .inl (cI, 7, .inl (fun _ => 0))), (bc 16, .inl (cI, 7, .inl (fun _ => 0))), (bc 17, .inl (cI, 56, .inl (fun _ => 0))), (bc 18, .inl (cI, 30, .inl (fun _ => 0))), (b 3, oX7 z0 0 0 0 0 0 0), (b 4, oX6 bn 0 0), (bn 1, .inl (cI, 7, .inl (fun _ => 0))), (bn 2, .inl (cI, 7, .inl (fun _ => 0))), (bn 3, .inl (cJ, 7, .inr (.inl (fun _ => 0)))), (bn 4, .inl (cI, 7, .inl (fun _ => 0))), (bn 5, .inl (cI, 6, .inl (fun _ => 0))), (bn 6, .inl (cI, 78, .inl (fun _ => 0))), (bn 7, .inl (cJ, 13, .inr (.inl (fun _ => 0)))), (bn 8, .inl (cJ, 13, .inr (.inl (fun _ => 0)))), (bn 9, .inl (cJ, 13, .inr (.inl (fun _ => 0)))), (b 6, oX1 be 0)]) (wr := [(h1, oX10 bm 0 0 0 0 0 0 0 0 (-1) 0 0 0 0 0 0 0 0 0), (bm 14, .inl (cI, 149, .inl (fun _ => 0))), (bm 1, .inl (cI, 149, .inl (fun _ => 0)))]) hP hD hS hA [0, 1, 2, 3, 4, 5, 6, 7, 8, 9, 10, 11, 12, 13, 14, 15, 16, 17, 18, 19, 20, 21, 22, 23, 24, 25, 26, 27, 28, 29, 30, 31, 32, 33, 34] [35, 36, 37] rfl rfl rfl (by decide) (va_runV (As := []) (rest := []) ⟨hx, hb, hml, hown, hts⟩ (f_X9_colony l G cI cJ cZ cB cQ _ h0 b br bt bi bc bn be) (cwV 0 hts (gV w_397 w_398 w_399 w_1 w_400) rfl rfl rfl ⟨rfl, hd_X9_colony⟩ ⟨Nat.le_of_ble_eq_true rfl, Nat.le_of_ble_eq_true rfl⟩) (mV hK hZ hP hD [0, 1, 2, 3, 4, 5, 6, 7, 8, 9, 10, 11, 12, 13, 14, 15, 16, 17, 18, 19, 20, 21, 22, 23, 24, 25, 26, 27, 28, 29, 30, 31, 32, 33, 34] rfl rfl [] 0 9 rfl rfl) rfl rfl hl.1 rfl (lv_room (Nat.le_of_ble_eq_true rfl)) dL_law_407 ⟨Nat.le_of_ble_eq_true rfl, Nat.le_of_ble_eq_true rfl⟩) (fun r1 u2 H locs hw3 hP hD hS => ?_)
  obtain ⟨f14, f65⟩ := u2
  try dsimp only at hw3
  have hP : va_P G vwCl [(h1, oX10 bm 0 0 0 0 0 0 0 0 (-1) 0 0 0 0 0 0 0 0 0), (bm 14, .inl (cI, 149, .inl (fun _ => 0))), (bm 1, .inl (cI, 149, .inl (fun _ => 0))), (h0, oX9 b), (b 0, oX4 br 0 (-1) 0 0 1), (br 2, oX8 bt 0), (br 3, oX0 bi 0 0 0 0 0 0 0 0 0 0), (bi 10, .inl (cI, 12, .inl (fun _ => 0))), (bi 11, .inl (cI, 6, .inl (fun _ => 0))), (bi 12, .inl (cI, 7, .inl (fun _ => 0))), (bi 13, .inl (cI, 7, .inl (fun _ => 0))), (bi 14, .inl (cI, 7, .inl (fun _ => 0))), (bi 15, .inl (cI, 7, .inl (fun _ => 0))), (bi 16, .inl (cI, 7, .inl (fun _ => 0))), (bi 17, .inl (cI, 56, .inl (fun _ => 0))), (bi 18, .inl (cI, 30, .inl (fun _ => 0))), (b 1, oX0 bc 0 0 0 0 0 0 0 0 0 0), (bc 10, .inl (cI, 12, .inl (fun _ => 0))), (bc 11, .inl (cI, 6, .inl (fun _ => 0))), (bc 12, .inl (cI, 7, .inl (fun _ => 0))), (bc 13, .inl (cI, 7, .inl (fun _ => 0))), (bc 14, .inl (cI, 7, .inl (fun _ => 0))), (bc 15, .inl (cI, 7, .inl (fun _ => 0))), (bc 16, .inl (cI, 7, .inl (fun _ => 0))), (bc 17, .inl (cI, 56, .inl (fun _ => 0))), (bc 18, .inl (cI, 30, .inl (fun _ => 0))), (b 3, oX7 z0 0 0 0 (-1) (-1) (-1)), (b 4, oX6 bn 0 0), (bn 1, .inl (cI, 7, .inl f14)), (bn 2, .inl (cI, 7, .inl (fun _ => 0))), (bn 3, .inl (cJ, 7, .inr (.inl (fun _ => 0)))), (bn 4, .inl (cI, 7, .inl (fun _ => 0))), (bn 5, .inl (cI, 6, .inl (fun _ => 0))), (bn 6, .inl (cI, 78, .inl f65)), (bn 7, .inl (cJ, 13, .inr (.inl (fun _ => 0)))), (bn 8, .inl (cJ, 13, .inr (.inl (fun _ => 0)))), (bn 9, .inl (cJ, 13, .inr (.inl (fun _ => 0)))), (b 6, oX1 be 0)] H := hP
  have hD : va_D A [(h1, oX10 bm 0 0 0 0 0 0 0 0 (-1) 0 0 0 0 0 0 0 0 0), (bm 14, .inl (cI, 149, .inl (fun _ => 0))), (bm 1, .inl (cI, 149, .inl (fun _ => 0))), (h0, oX9 b), (b 0, oX4 br 0 (-1) 0 0 1), (br 2, oX8 bt 0), (br 3, oX0 bi 0 0 0 0 0 0 0 0 0 0), (bi 10, .inl (cI, 12, .inl (fun _ => 0))), (bi 11, .inl (cI, 6, .inl (fun _ => 0))), (bi 12, .inl (cI, 7, .inl (fun _ => 0))), (bi 13, .inl (cI, 7, .inl (fun _ => 0))), (bi 14, .inl (cI, 7, .inl (fun _ => 0))), (bi 15, .inl (cI, 7, .inl (fun _ => 0))), (bi 16, .inl (cI, 7, .inl (fun _ => 0))), (bi 17, .inl (cI, 56, .inl (fun _ => 0))), (bi 18, .inl (cI, 30, .inl (fun _ => 0))), (b 1, oX0 bc 0 0 0 0 0 0 0 0 0 0), (bc 10, .inl (cI, 12, .inl (fun _ => 0))), (bc 11, .inl (cI, 6, .inl (fun _ => 0))), (bc 12, .inl (cI, 7, .inl (fun _ => 0))), (bc 13, .inl (cI, 7, .inl (fun _ => 0))), (bc 14, .inl (cI, 7, .inl (fun _ => 0))), (bc 15, .inl (cI, 7, .inl (fun _ => 0))), (bc 16, .inl (cI, 7, .inl (fun _ => 0))), (bc 17, .inl (cI, 56, .inl (fun _ => 0))), (bc 18, .inl (cI, 30, .inl (fun _ => 0))), (b 3, oX7 z0 0 0 0 (-1) (-1) (-1)), (b 4, oX6 bn 0 0), (bn 1, .inl (cI, 7, .inl f14)), (bn 2, .inl (cI, 7, .inl (fun _ => 0))), (bn 3, .inl (cJ, 7, .inr (.inl (fun _ => 0)))), (bn 4, .inl (cI, 7, .inl (fun _ => 0))), (bn 5, .inl (cI, 6, .inl (fun _ => 0))), (bn 6, .inl (cI, 78, .inl f65)), (bn 7, .inl (cJ, 13, .inr (.inl (fun _ => 0)))), (bn 8, .inl (cJ, 13, .inr (.inl (fun _ => 0)))), (bn 9, .inl (cJ, 13, .inr (.inl (fun _ => 0)))), (b 6, oX1 be 0)] := hD
  obtain rfl : r1 = 0 := hw3
  refine lv_aload_n hx hb dL_law_410 rfl (lv_at hl 1 rfl) ?_
  refine k_i (wc := [(h1, oX10 bm 0 0 0 0 0 0 0 0 (-1) 0 0 0 0 0 0 0 0 0), (bm 14, .inl (cI, 149, .inl (fun _ => 0))), (bm 1, .inl (cI, 149, .inl (fun _ => 0)))]) (wr := [(h0, oX9 b), (b 0, oX4 br 0 (-1) 0 0 1), (br 2, oX8 bt 0), (br 3, oX0 bi 0 0 0 0 0 0 0 0 0 0), (bi 10, .inl (cI, 12, .inl (fun _ => 0))), (bi 11, .inl (cI, 6, .inl (fun _ => 0))), (bi 12, .inl (cI, 7, .inl (fun _ => 0))), (bi 13, .inl (cI, 7, .inl (fun _ => 0))), (bi 14, .inl (cI, 7, .inl (fun _ => 0))), (bi 15, .inl (cI, 7, .inl (fun _ => 0))), (bi 16, .inl (cI, 7, .inl (fun _ => 0))), (bi 17, .inl (cI, 56, .inl (fun _ => 0))), (bi 18, .inl (cI, 30, .inl (fun _ => 0))), (b 1, oX0 bc 0 0 0 0 0 0 0 0 0 0), (bc 10, .inl (cI, 12, .inl (fun _ => 0))), (bc 11, .inl (cI, 6, .inl (fun _ => 0))), (bc 12, .inl (cI, 7, .inl (fun _ => 0))), (bc 13, .inl (cI, 7, .inl (fun _ => 0))), (bc 14, .inl (cI, 7, .inl (fun _ => 0))), (bc 15, .inl (cI, 7, .inl (fun _ => 0))), (bc 16, .inl (cI, 7, .inl (fun _ => 0))), (bc 17, .inl (cI, 56, .inl (fun _ => 0))), (bc 18, .inl (cI, 30, .inl (fun _ => 0))), (b 3, oX7 z0 0 0 0 (-1) (-1) (-1)), (b 4, oX6 bn 0 0), (bn 1, .inl (cI, 7, .inl f14)), (bn 2, .inl (cI, 7, .inl (fun _ => 0))), (bn 3, .inl (cJ, 7, .inr (.inl (fun _ => 0)))), (bn 4, .inl (cI, 7, .inl (fun _ => 0))), (bn 5, .inl (cI, 6, .inl (fun _ => 0))), (bn 6, .inl (cI, 78, .inl f65)), (bn 7, .inl (cJ, 13, .inr (.inl (fun _ => 0)))), (bn 8, .inl (cJ, 13, .inr (.inl (fun _ => 0)))), (bn 9, .inl (cJ, 13, .inr (.inl (fun _ => 0)))), (b 6, oX1 be 0)]) hP hD hS hA [0, 1, 2] [3, 4, 5, 6, 7, 8, 9, 10, 11, 12, 13, 14, 15, 16, 17, 18, 19, 20, 21, 22, 23, 24, 25, 26, 27, 28, 29, 30, 31, 32, 33, 34, 35, 36, 37] rfl rfl rfl (by decide) (va_runV (As := []) (rest := [.int 0]) ⟨hx, hb, hml, hown, hts⟩ (f_X10_colony l G cI cJ cZ cB cQ _ h1 bm) (cwV 0 hts (gV w_1355 w_1356 w_1357 w_11 w_1358) rfl rfl rfl ⟨rfl, hd_X10_colony⟩ ⟨Nat.le_of_ble_eq_true rfl, Nat.le_of_ble_eq_true rfl⟩) (mV hK hZ hP hD [0, 1, 2] rfl rfl [] 0 10 rfl rfl) rfl rfl hl.1 rfl (lv_room (Nat.le_of_ble_eq_true rfl)) dL_law_411 ⟨Nat.le_of_ble_eq_true rfl, Nat.le_of_ble_eq_true rfl⟩) (fun r6 u7 H locs hw8 hP hD hS => ?_)
  try dsimp only at hw8
  have hP : va_P G vwCl [(h0, oX9 b), (b 0, oX4 br 0 (-1) 0 0 1), (br 2, oX8 bt 0), (br 3, oX0 bi 0 0 0 0 0 0 0 0 0 0), (bi 10, .inl (cI, 12, .inl (fun _ => 0))), (bi 11, .inl (cI, 6, .inl (fun _ => 0))), (bi 12, .inl (cI, 7, .inl (fun _ => 0))), (bi 13, .inl (cI, 7, .inl (fun _ => 0))), (bi 14, .inl (cI, 7, .inl (fun _ => 0))), (bi 15, .inl (cI, 7, .inl (fun _ => 0))), (bi 16, .inl (cI, 7, .inl (fun _ => 0))), (bi 17, .inl (cI, 56, .inl (fun _ => 0))), (bi 18, .inl (cI, 30, .inl (fun _ => 0))), (b 1, oX0 bc 0 0 0 0 0 0 0 0 0 0), (bc 10, .inl (cI, 12, .inl (fun _ => 0))), (bc 11, .inl (cI, 6, .inl (fun _ => 0))), (bc 12, .inl (cI, 7, .inl (fun _ => 0))), (bc 13, .inl (cI, 7, .inl (fun _ => 0))), (bc 14, .inl (cI, 7, .inl (fun _ => 0))), (bc 15, .inl (cI, 7, .inl (fun _ => 0))), (bc 16, .inl (cI, 7, .inl (fun _ => 0))), (bc 17, .inl (cI, 56, .inl (fun _ => 0))), (bc 18, .inl (cI, 30, .inl (fun _ => 0))), (b 3, oX7 z0 0 0 0 (-1) (-1) (-1)), (b 4, oX6 bn 0 0), (bn 1, .inl (cI, 7, .inl f14)), (bn 2, .inl (cI, 7, .inl (fun _ => 0))), (bn 3, .inl (cJ, 7, .inr (.inl (fun _ => 0)))), (bn 4, .inl (cI, 7, .inl (fun _ => 0))), (bn 5, .inl (cI, 6, .inl (fun _ => 0))), (bn 6, .inl (cI, 78, .inl f65)), (bn 7, .inl (cJ, 13, .inr (.inl (fun _ => 0)))), (bn 8, .inl (cJ, 13, .inr (.inl (fun _ => 0)))), (bn 9, .inl (cJ, 13, .inr (.inl (fun _ => 0)))), (b 6, oX1 be 0), (h1, oX10 bm 0 0 0 0 0 0 0 0 (-1) 0 0 0 0 0 0 0 0 0), (bm 14, .inl (cI, 149, .inl (fun _ => 0))), (bm 1, .inl (cI, 149, .inl (fun _ => 0)))] H := hP
  have hD : va_D A [(h0, oX9 b), (b 0, oX4 br 0 (-1) 0 0 1), (br 2, oX8 bt 0), (br 3, oX0 bi 0 0 0 0 0 0 0 0 0 0), (bi 10, .inl (cI, 12, .inl (fun _ => 0))), (bi 11, .inl (cI, 6, .inl (fun _ => 0))), (bi 12, .inl (cI, 7, .inl (fun _ => 0))), (bi 13, .inl (cI, 7, .inl (fun _ => 0))), (bi 14, .inl (cI, 7, .inl (fun _ => 0))), (bi 15, .inl (cI, 7, .inl (fun _ => 0))), (bi 16, .inl (cI, 7, .inl (fun _ => 0))), (bi 17, .inl (cI, 56, .inl (fun _ => 0))), (bi 18, .inl (cI, 30, .inl (fun _ => 0))), (b 1, oX0 bc 0 0 0 0 0 0 0 0 0 0), (bc 10, .inl (cI, 12, .inl (fun _ => 0))), (bc 11, .inl (cI, 6, .inl (fun _ => 0))), (bc 12, .inl (cI, 7, .inl (fun _ => 0))), (bc 13, .inl (cI, 7, .inl (fun _ => 0))), (bc 14, .inl (cI, 7, .inl (fun _ => 0))), (bc 15, .inl (cI, 7, .inl (fun _ => 0))), (bc 16, .inl (cI, 7, .inl (fun _ => 0))), (bc 17, .inl (cI, 56, .inl (fun _ => 0))), (bc 18, .inl (cI, 30, .inl (fun _ => 0))), (b 3, oX7 z0 0 0 0 (-1) (-1) (-1)), (b 4, oX6 bn 0 0), (bn 1, .inl (cI, 7, .inl f14)), (bn 2, .inl (cI, 7, .inl (fun _ => 0))), (bn 3, .inl (cJ, 7, .inr (.inl (fun _ => 0)))), (bn 4, .inl (cI, 7, .inl (fun _ => 0))), (bn 5, .inl (cI, 6, .inl (fun _ => 0))), (bn 6, .inl (cI, 78, .inl f65)), (bn 7, .inl (cJ, 13, .inr (.inl (fun _ => 0)))), (bn 8, .inl (cJ, 13, .inr (.inl (fun _ => 0)))), (bn 9, .inl (cJ, 13, .inr (.inl (fun _ => 0)))), (b 6, oX1 be 0), (h1, oX10 bm 0 0 0 0 0 0 0 0 (-1) 0 0 0 0 0 0 0 0 0), (bm 14, .inl (cI, 149, .inl (fun _ => 0))), (bm 1, .inl (cI, 149, .inl (fun _ => 0)))] := hD
  obtain rfl : r6 = 0 := hw8
  refine lv_icmp_eq (tgt := 2226) hx hb dL_law_414 (by decide) (fun c9 => ?_) (fun c9 => absurd (by decide) c9)
  refine lv_iinc (v := 6) (lv' := [(3, .int 6), (2, .ref h1), (1, .ref h0), (0, .ref sb)]) hx hb dL_law_2226 hl (k := 0) rfl (by decide) (by decide) rfl (fun ls hl => ?_)
  refine lv_goto (tgt := 18) hx hb dL_law_2229 (by decide) ?_
  exact law_exit hL6 C0 hAe hS ls (lv_sub hl [3, 0] rfl) (by decide) (by decide)
set_option maxHeartbeats 4000000 in
set_option maxRecDepth 100000 in
theorem law_3 {p : Program} {e : Env} {s : State} {m : MethodId} {below : List Frame} {meth : Method} {c : Code} {l : Launch} {sb L : Nat} {xs : Nat → Int32} {A : Nat → Prop} {G : va_G} {cI cJ cZ cB cQ : ClassId} (h0 : Nat) (b : Nat → Nat) (br : Nat → Nat) (bt : Nat → Nat) (bi : Nat → Nat) (bc : Nat → Nat) (bn : Nat → Nat) (bs : Nat → Nat) (be : Nat → Nat) (bw : Nat → Nat) (h1 : Nat) (bm : Nat → Nat) {H : Heap} {locs : List Loc} (hL : L = 6) (C0 : lw_At p s m meth c sb L xs) (hAe : A = fun q => s.heap.size ≤ q) (hK : va_K G vwCl (TY cI cJ cZ cB cQ) s) (hZ : nz s) (hP : va_P G vwCl (wX cI cJ cZ cB cQ h0 b br bt bi bc bn bs be bw ++ wM cI cJ cZ cB cQ h1 bm) H) (hD : va_D A (wX cI cJ cZ cB cQ h0 b br bt bi bc bn bs be bw ++ wM cI cJ cZ cB cQ h1 bm)) (hS : va_S A s.heap H locs) (ls : Array Slot) (hl : lv_has ls 4 [(3, .int 0), (2, .ref h1), (1, .ref h0), (0, .ref sb)]) (v : Int32) (hv : v.toInt = 3) : W p l e room_1 s m #[Value.ref sb] below meth c H locs 88 8166 (lw_Z below #[Value.ref sb] s) (F0 m 33 ls [.int v]) := by
  have hL6 : L ≤ 6 := by omega
  obtain ⟨hx, hb, hr, hml, hown, hts0, hX, hbl, hlocks, hgv⟩ := id C0
  have hown : s.vm.findClass RL = some m.cls := hown
  have hts : ∀ q ∈ GW, q.before #[Value.ref sb] s = true := fun q h => hts0 q (List.mem_filter.mp h).1
  have hA : ∀ q : Nat, s.heap.size ≤ q → A q := fun q h => by rw [hAe]; exact h
  have hbA : ¬ A sb := by rw [hAe]; exact Nat.not_le.mpr hbl
  have hLT : (Int32.ofNat L).toInt = (L : Int) := nI_toInt (by omega)
  have hLi : (L : Int) = 6 := by omega
  refine lv_tableIn (off := 386) (tgt := 419) hx hb dL_law_33 (by rw [hv]; decide) (by rw [hv]; decide) (by rw [hv]; rfl) (by decide) ?_
  have hP : va_P G vwCl [(h0, oX9 b), (b 0, oX4 br 0 (-1) 0 0 0), (h1, oX10 bm 0 0 0 0 0 0 0 0 (-1) 0 0 0 0 0 0 0 0 0)] H := hP.sub [0, 1, 59] rfl
  have hD : va_D A [(h0, oX9 b), (b 0, oX4 br 0 (-1) 0 0 0), (h1, oX10 bm 0 0 0 0 0 0 0 0 (-1) 0 0 0 0 0 0 0 0 0)] := hD.sub [0, 1, 59] rfl rfl
  refine lv_aload_n hx hb dL_law_419 rfl (lv_at hl 2 rfl) ?_
  refine lv_aload_n hx hb dL_law_420 rfl (lv_at hl 3 rfl) ?_
  refine lv_iload_n hx hb dL_law_421 rfl (lv_at hl 0 rfl) ?_
  refine lv_iconst (v := 1) hx hb dL_law_422 (by decide) ?_
  refine lv_iadd hx hb dL_law_423 ?_
  refine lv_topi (fun v1 ev1 => ?_)
  obtain rfl : v1 = 1 := ev1.trans (by decide)
  refine va_sld hx hb hX hbl hbA hS (ix_in ki_1 (by omega) (by omega)) dL_law_424 ?_
  refine W.eq (g2 := F0 m 425 ls [.int (xs 1), .ref h0]) rfl ?_
  refine k_i (wc := [(h0, oX9 b), (b 0, oX4 br 0 (-1) 0 0 0)]) (wr := [(h1, oX10 bm 0 0 0 0 0 0 0 0 (-1) 0 0 0 0 0 0 0 0 0)]) hP hD hS hA [0, 1] [2] rfl rfl rfl (by decide) (va_runV (As := [.int (xs 1)]) (rest := []) ⟨hx, hb, hml, hown, hts⟩ (f_X9_fault l G cI cJ cZ cB cQ _ h0 b br (xs 1)) (cwV 1 hts (gV w_645 w_646 w_647 w_1 w_648) rfl rfl rfl ⟨rfl, hd_X9_fault⟩ ⟨Nat.le_of_ble_eq_true rfl, Nat.le_of_ble_eq_true rfl⟩) (mV hK hZ hP hD [0, 1] rfl rfl [.int (xs 1)] 0 9 rfl rfl) rfl rfl hl.1 rfl (lv_room (Nat.le_of_ble_eq_true rfl)) dL_law_425 ⟨Nat.le_of_ble_eq_true rfl, Nat.le_of_ble_eq_true rfl⟩) (fun r2 u3 H locs hw4 hP hD hS => ?_)
  try dsimp only at hw4
  have hP : va_P G vwCl [(h1, oX10 bm 0 0 0 0 0 0 0 0 (-1) 0 0 0 0 0 0 0 0 0), (h0, oX9 b), (b 0, oX4 br 0 (-1) 0 0 0)] H := hP
  have hD : va_D A [(h1, oX10 bm 0 0 0 0 0 0 0 0 (-1) 0 0 0 0 0 0 0 0 0), (h0, oX9 b), (b 0, oX4 br 0 (-1) 0 0 0)] := hD
  refine lv_aload_n hx hb dL_law_428 rfl (lv_at hl 1 rfl) ?_
  refine lv_aload_n hx hb dL_law_429 rfl (lv_at hl 3 rfl) ?_
  refine lv_iload_n hx hb dL_law_430 rfl (lv_at hl 0 rfl) ?_
  refine lv_iconst (v := 1) hx hb dL_law_431 (by decide) ?_
  refine lv_iadd hx hb dL_law_432 ?_
  refine lv_topi (fun v5 ev5 => ?_)
  obtain rfl : v5 = 1 := ev5.trans (by decide)
  refine va_sld hx hb hX hbl hbA hS (ix_in ki_1 (by omega) (by omega)) dL_law_433 ?_
  refine W.eq (g2 := F0 m 434 ls [.int (xs 1), .ref h1, .int r2]) rfl ?_
  refine k_i (wc := [(h1, oX10 bm 0 0 0 0 0 0 0 0 (-1) 0 0 0 0 0 0 0 0 0)]) (wr := [(h0, oX9 b), (b 0, oX4 br 0 (-1) 0 0 0)]) hP hD hS hA [0] [1, 2] rfl rfl rfl (by decide) (va_runV (As := [.int (xs 1)]) (rest := [.int r2]) ⟨hx, hb, hml, hown, hts⟩ (f_X10_fault l G cI cJ cZ cB cQ _ h1 bm (xs 1)) (cwV 1 hts (gV w_1351 w_1352 w_1353 w_11 w_1354) rfl rfl rfl ⟨rfl, hd_X10_fault⟩ ⟨Nat.le_of_ble_eq_true rfl, Nat.le_of_ble_eq_true rfl⟩) (mV hK hZ hP hD [0] rfl rfl [.int (xs 1)] 0 10 rfl rfl) rfl rfl hl.1 rfl (lv_room (Nat.le_of_ble_eq_true rfl)) dL_law_434 ⟨Nat.le_of_ble_eq_true rfl, Nat.le_of_ble_eq_true rfl⟩) (fun r6 u7 H locs hw8 hP hD hS => ?_)
  try dsimp only at hw8
  have hP : va_P G vwCl [(h0, oX9 b), (b 0, oX4 br 0 (-1) 0 0 0), (h1, oX10 bm 0 0 0 0 0 0 0 0 (-1) 0 0 0 0 0 0 0 0 0)] H := hP
  have hD : va_D A [(h0, oX9 b), (b 0, oX4 br 0 (-1) 0 0 0), (h1, oX10 bm 0 0 0 0 0 0 0 0 (-1) 0 0 0 0 0 0 0 0 0)] := hD
  refine lv_icmp_eq (tgt := 2226) hx hb dL_law_437 (by decide) (fun c9 => ?_) (fun c9 => absurd (hw4.trans hw8.symm) c9)
  refine lv_iinc (v := 6) (lv' := [(3, .int 6), (2, .ref h1), (1, .ref h0), (0, .ref sb)]) hx hb dL_law_2226 hl (k := 0) rfl (by decide) (by decide) rfl (fun ls hl => ?_)
  refine lv_goto (tgt := 18) hx hb dL_law_2229 (by decide) ?_
  exact law_exit hL6 C0 hAe hS ls (lv_sub hl [3, 0] rfl) (by decide) (by decide)
set_option maxHeartbeats 4000000 in
set_option maxRecDepth 100000 in
theorem law_4 {p : Program} {e : Env} {s : State} {m : MethodId} {below : List Frame} {meth : Method} {c : Code} {l : Launch} {sb L : Nat} {xs : Nat → Int32} {A : Nat → Prop} {G : va_G} {cI cJ cZ cB cQ : ClassId} (h0 : Nat) (b : Nat → Nat) (br : Nat → Nat) (bt : Nat → Nat) (bi : Nat → Nat) (bc : Nat → Nat) (bn : Nat → Nat) (bs : Nat → Nat) (be : Nat → Nat) (bw : Nat → Nat) (h1 : Nat) (bm : Nat → Nat) {H : Heap} {locs : List Loc} (hL : L = 6) (C0 : lw_At p s m meth c sb L xs) (hAe : A = fun q => s.heap.size ≤ q) (hK : va_K G vwCl (TY cI cJ cZ cB cQ) s) (hZ : nz s) (hP : va_P G vwCl (wX cI cJ cZ cB cQ h0 b br bt bi bc bn bs be bw ++ wM cI cJ cZ cB cQ h1 bm) H) (hD : va_D A (wX cI cJ cZ cB cQ h0 b br bt bi bc bn bs be bw ++ wM cI cJ cZ cB cQ h1 bm)) (hS : va_S A s.heap H locs) (ls : Array Slot) (hl : lv_has ls 4 [(3, .int 0), (2, .ref h1), (1, .ref h0), (0, .ref sb)]) (v : Int32) (hv : v.toInt = 4) : W p l e room_1 s m #[Value.ref sb] below meth c H locs 88 8166 (lw_Z below #[Value.ref sb] s) (F0 m 33 ls [.int v]) := by
  have hL6 : L ≤ 6 := by omega
  obtain ⟨hx, hb, hr, hml, hown, hts0, hX, hbl, hlocks, hgv⟩ := id C0
  have hown : s.vm.findClass RL = some m.cls := hown
  have hts : ∀ q ∈ GW, q.before #[Value.ref sb] s = true := fun q h => hts0 q (List.mem_filter.mp h).1
  have hA : ∀ q : Nat, s.heap.size ≤ q → A q := fun q h => by rw [hAe]; exact h
  have hbA : ¬ A sb := by rw [hAe]; exact Nat.not_le.mpr hbl
  have hLT : (Int32.ofNat L).toInt = (L : Int) := nI_toInt (by omega)
  have hLi : (L : Int) = 6 := by omega
  refine lv_tableIn (off := 409) (tgt := 442) hx hb dL_law_33 (by rw [hv]; decide) (by rw [hv]; decide) (by rw [hv]; rfl) (by decide) ?_
  have hP : va_P G vwCl [(h0, oX9 b), (b 1, oX0 bc 0 0 0 0 0 0 0 0 0 0), (h1, oX10 bm 0 0 0 0 0 0 0 0 (-1) 0 0 0 0 0 0 0 0 0), (bm 1, .inl (cI, 149, .inl (fun _ => 0))), (bm 15, .inl (cZ, 80, .inl (fun _ => 0))), (bm 16, .inl (cI, 7, .inl (fun _ => 0))), (bm 21, .inl (cZ, 80, .inl (fun _ => 0))), (bm 24, .inl (cI, 80, .inl (fun _ => 0))), (bm 25, .inl (cI, 6, .inl (fun _ => 0))), (bm 29, .inl (cI, 6, .inl (fun _ => 0))), (bm 30, .inl (cZ, 1040, .inl (fun _ => 0))), (bm 31, .inl (cI, 1040, .inl (fun _ => 0))), (bm 32, .inl (cI, 78, .inl (fun _ => 0))), (bm 27, .inl (cI, 7, .inl (fun _ => 0)))] H := hP.sub [0, 14, 59, 60, 66, 67, 68, 71, 72, 76, 77, 78, 79, 74] rfl
  have hD : va_D A [(h0, oX9 b), (b 1, oX0 bc 0 0 0 0 0 0 0 0 0 0), (h1, oX10 bm 0 0 0 0 0 0 0 0 (-1) 0 0 0 0 0 0 0 0 0), (bm 1, .inl (cI, 149, .inl (fun _ => 0))), (bm 15, .inl (cZ, 80, .inl (fun _ => 0))), (bm 16, .inl (cI, 7, .inl (fun _ => 0))), (bm 21, .inl (cZ, 80, .inl (fun _ => 0))), (bm 24, .inl (cI, 80, .inl (fun _ => 0))), (bm 25, .inl (cI, 6, .inl (fun _ => 0))), (bm 29, .inl (cI, 6, .inl (fun _ => 0))), (bm 30, .inl (cZ, 1040, .inl (fun _ => 0))), (bm 31, .inl (cI, 1040, .inl (fun _ => 0))), (bm 32, .inl (cI, 78, .inl (fun _ => 0))), (bm 27, .inl (cI, 7, .inl (fun _ => 0)))] := hD.sub [0, 14, 59, 60, 66, 67, 68, 71, 72, 76, 77, 78, 79, 74] rfl rfl
  refine lv_aload_n hx hb dL_law_442 rfl (lv_at hl 2 rfl) ?_
  refine lv_aload_n hx hb dL_law_443 rfl (lv_at hl 3 rfl) ?_
  refine lv_iload_n hx hb dL_law_444 rfl (lv_at hl 0 rfl) ?_
  refine lv_iconst (v := 1) hx hb dL_law_445 (by decide) ?_
  refine lv_iadd hx hb dL_law_446 ?_
  refine lv_topi (fun v1 ev1 => ?_)
  obtain rfl : v1 = 1 := ev1.trans (by decide)
  refine va_sld hx hb hX hbl hbA hS (ix_in ki_1 (by omega) (by omega)) dL_law_447 ?_
  refine W.eq (g2 := F0 m 448 ls [.int (xs 1), .ref h0]) rfl ?_
  refine k_i (wc := [(h0, oX9 b), (b 1, oX0 bc 0 0 0 0 0 0 0 0 0 0)]) (wr := [(h1, oX10 bm 0 0 0 0 0 0 0 0 (-1) 0 0 0 0 0 0 0 0 0), (bm 1, .inl (cI, 149, .inl (fun _ => 0))), (bm 15, .inl (cZ, 80, .inl (fun _ => 0))), (bm 16, .inl (cI, 7, .inl (fun _ => 0))), (bm 21, .inl (cZ, 80, .inl (fun _ => 0))), (bm 24, .inl (cI, 80, .inl (fun _ => 0))), (bm 25, .inl (cI, 6, .inl (fun _ => 0))), (bm 29, .inl (cI, 6, .inl (fun _ => 0))), (bm 30, .inl (cZ, 1040, .inl (fun _ => 0))), (bm 31, .inl (cI, 1040, .inl (fun _ => 0))), (bm 32, .inl (cI, 78, .inl (fun _ => 0))), (bm 27, .inl (cI, 7, .inl (fun _ => 0)))]) hP hD hS hA [0, 1] [2, 3, 4, 5, 6, 7, 8, 9, 10, 11, 12, 13] rfl rfl rfl (by decide) (va_runV (As := [.int (xs 1)]) (rest := []) ⟨hx, hb, hml, hown, hts⟩ (f_X9_creek l G cI cJ cZ cB cQ _ h0 b bc (xs 1)) (cwV 1 hts (gV w_649 w_650 w_651 w_1 w_652) rfl rfl rfl ⟨rfl, hd_X9_creek⟩ ⟨Nat.le_of_ble_eq_true rfl, Nat.le_of_ble_eq_true rfl⟩) (mV hK hZ hP hD [0, 1] rfl rfl [.int (xs 1)] 0 9 rfl rfl) rfl rfl hl.1 rfl (lv_room (Nat.le_of_ble_eq_true rfl)) dL_law_448 ⟨Nat.le_of_ble_eq_true rfl, Nat.le_of_ble_eq_true rfl⟩) (fun r2 u3 H locs hw4 hP hD hS => ?_)
  try dsimp only at hw4
  have hP : va_P G vwCl [(h1, oX10 bm 0 0 0 0 0 0 0 0 (-1) 0 0 0 0 0 0 0 0 0), (bm 1, .inl (cI, 149, .inl (fun _ => 0))), (bm 15, .inl (cZ, 80, .inl (fun _ => 0))), (bm 16, .inl (cI, 7, .inl (fun _ => 0))), (bm 21, .inl (cZ, 80, .inl (fun _ => 0))), (bm 24, .inl (cI, 80, .inl (fun _ => 0))), (bm 25, .inl (cI, 6, .inl (fun _ => 0))), (bm 29, .inl (cI, 6, .inl (fun _ => 0))), (bm 30, .inl (cZ, 1040, .inl (fun _ => 0))), (bm 31, .inl (cI, 1040, .inl (fun _ => 0))), (bm 32, .inl (cI, 78, .inl (fun _ => 0))), (bm 27, .inl (cI, 7, .inl (fun _ => 0))), (h0, oX9 b), (b 1, oX0 bc 0 0 0 0 0 0 0 0 0 0)] H := hP
  have hD : va_D A [(h1, oX10 bm 0 0 0 0 0 0 0 0 (-1) 0 0 0 0 0 0 0 0 0), (bm 1, .inl (cI, 149, .inl (fun _ => 0))), (bm 15, .inl (cZ, 80, .inl (fun _ => 0))), (bm 16, .inl (cI, 7, .inl (fun _ => 0))), (bm 21, .inl (cZ, 80, .inl (fun _ => 0))), (bm 24, .inl (cI, 80, .inl (fun _ => 0))), (bm 25, .inl (cI, 6, .inl (fun _ => 0))), (bm 29, .inl (cI, 6, .inl (fun _ => 0))), (bm 30, .inl (cZ, 1040, .inl (fun _ => 0))), (bm 31, .inl (cI, 1040, .inl (fun _ => 0))), (bm 32, .inl (cI, 78, .inl (fun _ => 0))), (bm 27, .inl (cI, 7, .inl (fun _ => 0))), (h0, oX9 b), (b 1, oX0 bc 0 0 0 0 0 0 0 0 0 0)] := hD
  obtain rfl : r2 = (-2) := hw4
  refine lv_aload_n hx hb dL_law_451 rfl (lv_at hl 1 rfl) ?_
  refine lv_aload_n hx hb dL_law_452 rfl (lv_at hl 3 rfl) ?_
  refine lv_iload_n hx hb dL_law_453 rfl (lv_at hl 0 rfl) ?_
  refine lv_iconst (v := 1) hx hb dL_law_454 (by decide) ?_
  refine lv_iadd hx hb dL_law_455 ?_
  refine lv_topi (fun v5 ev5 => ?_)
  obtain rfl : v5 = 1 := ev5.trans (by decide)
  refine va_sld hx hb hX hbl hbA hS (ix_in ki_1 (by omega) (by omega)) dL_law_456 ?_
  refine W.eq (g2 := F0 m 457 ls [.int (xs 1), .ref h1, .int (-2)]) rfl ?_
  refine k_i (wc := [(h1, oX10 bm 0 0 0 0 0 0 0 0 (-1) 0 0 0 0 0 0 0 0 0), (bm 1, .inl (cI, 149, .inl (fun _ => 0))), (bm 15, .inl (cZ, 80, .inl (fun _ => 0))), (bm 16, .inl (cI, 7, .inl (fun _ => 0))), (bm 21, .inl (cZ, 80, .inl (fun _ => 0))), (bm 24, .inl (cI, 80, .inl (fun _ => 0))), (bm 25, .inl (cI, 6, .inl (fun _ => 0))), (bm 29, .inl (cI, 6, .inl (fun _ => 0))), (bm 30, .inl (cZ, 1040, .inl (fun _ => 0))), (bm 31, .inl (cI, 1040, .inl (fun _ => 0))), (bm 32, .inl (cI, 78, .inl (fun _ => 0))), (bm 27, .inl (cI, 7, .inl (fun _ => 0)))]) (wr := [(h0, oX9 b), (b 1, oX0 bc 0 0 0 0 0 0 0 0 0 0)]) hP hD hS hA [0, 1, 2, 3, 4, 5, 6, 7, 8, 9, 10, 11] [12, 13] rfl rfl rfl (by decide) (va_runV (As := [.int (xs 1)]) (rest := [.int (-2)]) ⟨hx, hb, hml, hown, hts⟩ (f_X10_creek l G cI cJ cZ cB cQ _ h1 bm (xs 1)) (cwV 1 hts (gV w_1477 w_1478 w_1479 w_11 w_1480) rfl rfl rfl ⟨rfl, hd_X10_creek⟩ ⟨Nat.le_of_ble_eq_true rfl, Nat.le_of_ble_eq_true rfl⟩) (mV hK hZ hP hD [0, 1, 2, 3, 4, 5, 6, 7, 8, 9, 10, 11] rfl rfl [.int (xs 1)] 0 10 rfl rfl) rfl rfl hl.1 rfl (lv_room (Nat.le_of_ble_eq_true rfl)) dL_law_457 ⟨Nat.le_of_ble_eq_true rfl, Nat.le_of_ble_eq_true rfl⟩) (fun r6 u7 H locs hw8 hP hD hS => ?_)
  obtain ⟨f09, rfl⟩ : ∃ z, z = u7 := ⟨_, rfl⟩
  try dsimp only at hw8
  have hP : va_P G vwCl [(h0, oX9 b), (b 1, oX0 bc 0 0 0 0 0 0 0 0 0 0), (h1, oX10 bm 0 0 0 0 0 0 0 0 (-1) 0 0 (-1) 0 0 0 0 0 0), (bm 1, .inl (cI, 149, .inl (fun _ => 0))), (bm 15, .inl (cZ, 80, .inl (fun _ => 0))), (bm 16, .inl (cI, 7, .inl (fun _ => 0))), (bm 21, .inl (cZ, 80, .inl (fun _ => 0))), (bm 24, .inl (cI, 80, .inl (fun _ => 0))), (bm 25, .inl (cI, 6, .inl (fun _ => 0))), (bm 29, .inl (cI, 6, .inl (fun _ => 0))), (bm 30, .inl (cZ, 1040, .inl (fun _ => 0))), (bm 31, .inl (cI, 1040, .inl (fun _ => 0))), (bm 32, .inl (cI, 78, .inl (fun _ => 0))), (bm 27, .inl (cI, 7, .inl f09))] H := hP
  have hD : va_D A [(h0, oX9 b), (b 1, oX0 bc 0 0 0 0 0 0 0 0 0 0), (h1, oX10 bm 0 0 0 0 0 0 0 0 (-1) 0 0 (-1) 0 0 0 0 0 0), (bm 1, .inl (cI, 149, .inl (fun _ => 0))), (bm 15, .inl (cZ, 80, .inl (fun _ => 0))), (bm 16, .inl (cI, 7, .inl (fun _ => 0))), (bm 21, .inl (cZ, 80, .inl (fun _ => 0))), (bm 24, .inl (cI, 80, .inl (fun _ => 0))), (bm 25, .inl (cI, 6, .inl (fun _ => 0))), (bm 29, .inl (cI, 6, .inl (fun _ => 0))), (bm 30, .inl (cZ, 1040, .inl (fun _ => 0))), (bm 31, .inl (cI, 1040, .inl (fun _ => 0))), (bm 32, .inl (cI, 78, .inl (fun _ => 0))), (bm 27, .inl (cI, 7, .inl f09))] := hD
  obtain rfl : r6 = (-2) := hw8
  refine lv_icmp_eq (tgt := 2226) hx hb dL_law_460 (by decide) (fun c10 => ?_) (fun c10 => absurd (by decide) c10)
  refine lv_iinc (v := 6) (lv' := [(3, .int 6), (2, .ref h1), (1, .ref h0), (0, .ref sb)]) hx hb dL_law_2226 hl (k := 0) rfl (by decide) (by decide) rfl (fun ls hl => ?_)
  refine lv_goto (tgt := 18) hx hb dL_law_2229 (by decide) ?_
  exact law_exit hL6 C0 hAe hS ls (lv_sub hl [3, 0] rfl) (by decide) (by decide)
set_option maxHeartbeats 4000000 in
set_option maxRecDepth 100000 in
theorem law_5 {p : Program} {e : Env} {s : State} {m : MethodId} {below : List Frame} {meth : Method} {c : Code} {l : Launch} {sb L : Nat} {xs : Nat → Int32} {A : Nat → Prop} {G : va_G} {cI cJ cZ cB cQ : ClassId} (h0 : Nat) (b : Nat → Nat) (br : Nat → Nat) (bt : Nat → Nat) (bi : Nat → Nat) (bc : Nat → Nat) (bn : Nat → Nat) (bs : Nat → Nat) (be : Nat → Nat) (bw : Nat → Nat) (h1 : Nat) (bm : Nat → Nat) {H : Heap} {locs : List Loc} (hL : L = 6) (C0 : lw_At p s m meth c sb L xs) (hAe : A = fun q => s.heap.size ≤ q) (hK : va_K G vwCl (TY cI cJ cZ cB cQ) s) (hZ : nz s) (hP : va_P G vwCl (wX cI cJ cZ cB cQ h0 b br bt bi bc bn bs be bw ++ wM cI cJ cZ cB cQ h1 bm) H) (hD : va_D A (wX cI cJ cZ cB cQ h0 b br bt bi bc bn bs be bw ++ wM cI cJ cZ cB cQ h1 bm)) (hS : va_S A s.heap H locs) (ls : Array Slot) (hl : lv_has ls 4 [(3, .int 0), (2, .ref h1), (1, .ref h0), (0, .ref sb)]) (v : Int32) (hv : v.toInt = 5) : W p l e room_1 s m #[Value.ref sb] below meth c H locs 88 8166 (lw_Z below #[Value.ref sb] s) (F0 m 33 ls [.int v]) := by
  have hL6 : L ≤ 6 := by omega
  obtain ⟨hx, hb, hr, hml, hown, hts0, hX, hbl, hlocks, hgv⟩ := id C0
  have hown : s.vm.findClass RL = some m.cls := hown
  have hts : ∀ q ∈ GW, q.before #[Value.ref sb] s = true := fun q h => hts0 q (List.mem_filter.mp h).1
  have hA : ∀ q : Nat, s.heap.size ≤ q → A q := fun q h => by rw [hAe]; exact h
  have hbA : ¬ A sb := by rw [hAe]; exact Nat.not_le.mpr hbl
  have hLT : (Int32.ofNat L).toInt = (L : Int) := nI_toInt (by omega)
  have hLi : (L : Int) = 6 := by omega
  refine lv_tableIn (off := 432) (tgt := 465) hx hb dL_law_33 (by rw [hv]; decide) (by rw [hv]; decide) (by rw [hv]; rfl) (by decide) ?_
  have hP : va_P G vwCl [(h0, oX9 b), (b 1, oX0 bc 0 0 0 0 0 0 0 0 0 0), (h1, oX10 bm 0 0 0 0 0 0 0 0 (-1) 0 0 0 0 0 0 0 0 0), (bm 1, .inl (cI, 149, .inl (fun _ => 0)))] H := hP.sub [0, 14, 59, 60] rfl
  have hD : va_D A [(h0, oX9 b), (b 1, oX0 bc 0 0 0 0 0 0 0 0 0 0), (h1, oX10 bm 0 0 0 0 0 0 0 0 (-1) 0 0 0 0 0 0 0 0 0), (bm 1, .inl (cI, 149, .inl (fun _ => 0)))] := hD.sub [0, 14, 59, 60] rfl rfl
  refine lv_aload_n hx hb dL_law_465 rfl (lv_at hl 2 rfl) ?_
  refine lv_aload_n hx hb dL_law_466 rfl (lv_at hl 3 rfl) ?_
  refine lv_iload_n hx hb dL_law_467 rfl (lv_at hl 0 rfl) ?_
  refine lv_iconst (v := 1) hx hb dL_law_468 (by decide) ?_
  refine lv_iadd hx hb dL_law_469 ?_
  refine lv_topi (fun v1 ev1 => ?_)
  obtain rfl : v1 = 1 := ev1.trans (by decide)
  refine va_sld hx hb hX hbl hbA hS (ix_in ki_1 (by omega) (by omega)) dL_law_470 ?_
  refine W.eq (g2 := F0 m 471 ls [.int (xs 1), .ref h0]) rfl ?_
  refine lv_aload_n hx hb dL_law_471 rfl (lv_at hl 3 rfl) ?_
  refine lv_iload_n hx hb dL_law_472 rfl (lv_at hl 0 rfl) ?_
  refine lv_iconst (v := 2) hx hb dL_law_473 (by decide) ?_
  refine lv_iadd hx hb dL_law_474 ?_
  refine lv_topi (fun v2 ev2 => ?_)
  obtain rfl : v2 = 2 := ev2.trans (by decide)
  refine va_sld hx hb hX hbl hbA hS (ix_in ki_2 (by omega) (by omega)) dL_law_475 ?_
  refine W.eq (g2 := F0 m 476 ls [.int (xs 2), .int (xs 1), .ref h0]) rfl ?_
  refine k_i (wc := [(h0, oX9 b), (b 1, oX0 bc 0 0 0 0 0 0 0 0 0 0)]) (wr := [(h1, oX10 bm 0 0 0 0 0 0 0 0 (-1) 0 0 0 0 0 0 0 0 0), (bm 1, .inl (cI, 149, .inl (fun _ => 0)))]) hP hD hS hA [0, 1] [2, 3] rfl rfl rfl (by decide) (va_runV (As := [.int (xs 1), .int (xs 2)]) (rest := []) ⟨hx, hb, hml, hown, hts⟩ (f_X9_widow l G cI cJ cZ cB cQ _ h0 b bc (xs 1) (xs 2)) (cwV 2 hts (gV w_664 w_665 w_666 w_1 w_667) rfl rfl rfl ⟨rfl, hd_X9_widow⟩ ⟨Nat.le_of_ble_eq_true rfl, Nat.le_of_ble_eq_true rfl⟩) (mV hK hZ hP hD [0, 1] rfl rfl [.int (xs 1), .int (xs 2)] 0 9 rfl rfl) rfl rfl hl.1 rfl (lv_room (Nat.le_of_ble_eq_true rfl)) dL_law_476 ⟨Nat.le_of_ble_eq_true rfl, Nat.le_of_ble_eq_true rfl⟩) (fun r3 u4 H locs hw5 hP hD hS => ?_)
  try dsimp only at hw5
  have hP : va_P G vwCl [(h1, oX10 bm 0 0 0 0 0 0 0 0 (-1) 0 0 0 0 0 0 0 0 0), (bm 1, .inl (cI, 149, .inl (fun _ => 0))), (h0, oX9 b), (b 1, oX0 bc 0 0 0 0 0 0 0 0 0 0)] H := hP
  have hD : va_D A [(h1, oX10 bm 0 0 0 0 0 0 0 0 (-1) 0 0 0 0 0 0 0 0 0), (bm 1, .inl (cI, 149, .inl (fun _ => 0))), (h0, oX9 b), (b 1, oX0 bc 0 0 0 0 0 0 0 0 0 0)] := hD
  obtain rfl : r3 = (-2) := hw5
  refine lv_aload_n hx hb dL_law_479 rfl (lv_at hl 1 rfl) ?_
  refine lv_aload_n hx hb dL_law_480 rfl (lv_at hl 3 rfl) ?_
  refine lv_iload_n hx hb dL_law_481 rfl (lv_at hl 0 rfl) ?_
  refine lv_iconst (v := 1) hx hb dL_law_482 (by decide) ?_
  refine lv_iadd hx hb dL_law_483 ?_
  refine lv_topi (fun v6 ev6 => ?_)
  obtain rfl : v6 = 1 := ev6.trans (by decide)
  refine va_sld hx hb hX hbl hbA hS (ix_in ki_1 (by omega) (by omega)) dL_law_484 ?_
  refine W.eq (g2 := F0 m 485 ls [.int (xs 1), .ref h1, .int (-2)]) rfl ?_
  refine lv_aload_n hx hb dL_law_485 rfl (lv_at hl 3 rfl) ?_
  refine lv_iload_n hx hb dL_law_486 rfl (lv_at hl 0 rfl) ?_
  refine lv_iconst (v := 2) hx hb dL_law_487 (by decide) ?_
  refine lv_iadd hx hb dL_law_488 ?_
  refine lv_topi (fun v7 ev7 => ?_)
  obtain rfl : v7 = 2 := ev7.trans (by decide)
  refine va_sld hx hb hX hbl hbA hS (ix_in ki_2 (by omega) (by omega)) dL_law_489 ?_
  refine W.eq (g2 := F0 m 490 ls [.int (xs 2), .int (xs 1), .ref h1, .int (-2)]) rfl ?_
  refine k_i (wc := [(h1, oX10 bm 0 0 0 0 0 0 0 0 (-1) 0 0 0 0 0 0 0 0 0), (bm 1, .inl (cI, 149, .inl (fun _ => 0)))]) (wr := [(h0, oX9 b), (b 1, oX0 bc 0 0 0 0 0 0 0 0 0 0)]) hP hD hS hA [0, 1] [2, 3] rfl rfl rfl (by decide) (va_runV (As := [.int (xs 1), .int (xs 2)]) (rest := [.int (-2)]) ⟨hx, hb, hml, hown, hts⟩ (f_X10_widow l G cI cJ cZ cB cQ _ h1 bm (xs 1) (xs 2)) (cwV 2 hts (gV w_1456 w_1457 w_1458 w_11 w_1459) rfl rfl rfl ⟨rfl, hd_X10_widow⟩ ⟨Nat.le_of_ble_eq_true rfl, Nat.le_of_ble_eq_true rfl⟩) (mV hK hZ hP hD [0, 1] rfl rfl [.int (xs 1), .int (xs 2)] 0 10 rfl rfl) rfl rfl hl.1 rfl (lv_room (Nat.le_of_ble_eq_true rfl)) dL_law_490 ⟨Nat.le_of_ble_eq_true rfl, Nat.le_of_ble_eq_true rfl⟩) (fun r8 u9 H locs hw10 hP hD hS => ?_)
  try dsimp only at hw10
  have hP : va_P G vwCl [(h0, oX9 b), (b 1, oX0 bc 0 0 0 0 0 0 0 0 0 0), (h1, oX10 bm 0 0 0 0 0 0 0 0 (-1) 0 0 0 0 0 0 0 0 0), (bm 1, .inl (cI, 149, .inl (fun _ => 0)))] H := hP
  have hD : va_D A [(h0, oX9 b), (b 1, oX0 bc 0 0 0 0 0 0 0 0 0 0), (h1, oX10 bm 0 0 0 0 0 0 0 0 (-1) 0 0 0 0 0 0 0 0 0), (bm 1, .inl (cI, 149, .inl (fun _ => 0)))] := hD
  obtain rfl : r8 = (-2) := hw10
  refine lv_icmp_eq (tgt := 2226) hx hb dL_law_493 (by decide) (fun c11 => ?_) (fun c11 => absurd (by decide) c11)
  refine lv_iinc (v := 6) (lv' := [(3, .int 6), (2, .ref h1), (1, .ref h0), (0, .ref sb)]) hx hb dL_law_2226 hl (k := 0) rfl (by decide) (by decide) rfl (fun ls hl => ?_)
  refine lv_goto (tgt := 18) hx hb dL_law_2229 (by decide) ?_
  exact law_exit hL6 C0 hAe hS ls (lv_sub hl [3, 0] rfl) (by decide) (by decide)
set_option maxHeartbeats 4000000 in
set_option maxRecDepth 100000 in
theorem law_6 {p : Program} {e : Env} {s : State} {m : MethodId} {below : List Frame} {meth : Method} {c : Code} {l : Launch} {sb L : Nat} {xs : Nat → Int32} {A : Nat → Prop} {G : va_G} {cI cJ cZ cB cQ : ClassId} (h0 : Nat) (b : Nat → Nat) (br : Nat → Nat) (bt : Nat → Nat) (bi : Nat → Nat) (bc : Nat → Nat) (bn : Nat → Nat) (bs : Nat → Nat) (be : Nat → Nat) (bw : Nat → Nat) (h1 : Nat) (bm : Nat → Nat) {H : Heap} {locs : List Loc} (hL : L = 6) (C0 : lw_At p s m meth c sb L xs) (hAe : A = fun q => s.heap.size ≤ q) (hK : va_K G vwCl (TY cI cJ cZ cB cQ) s) (hZ : nz s) (hP : va_P G vwCl (wX cI cJ cZ cB cQ h0 b br bt bi bc bn bs be bw ++ wM cI cJ cZ cB cQ h1 bm) H) (hD : va_D A (wX cI cJ cZ cB cQ h0 b br bt bi bc bn bs be bw ++ wM cI cJ cZ cB cQ h1 bm)) (hS : va_S A s.heap H locs) (ls : Array Slot) (hl : lv_has ls 4 [(3, .int 0), (2, .ref h1), (1, .ref h0), (0, .ref sb)]) (v : Int32) (hv : v.toInt = 6) : W p l e room_1 s m #[Value.ref sb] below meth c H locs 88 8166 (lw_Z below #[Value.ref sb] s) (F0 m 33 ls [.int v]) := by
  have hL6 : L ≤ 6 := by omega
  obtain ⟨hx, hb, hr, hml, hown, hts0, hX, hbl, hlocks, hgv⟩ := id C0
  have hown : s.vm.findClass RL = some m.cls := hown
  have hts : ∀ q ∈ GW, q.before #[Value.ref sb] s = true := fun q h => hts0 q (List.mem_filter.mp h).1
  have hA : ∀ q : Nat, s.heap.size ≤ q → A q := fun q h => by rw [hAe]; exact h
  have hbA : ¬ A sb := by rw [hAe]; exact Nat.not_le.mpr hbl
  have hLT : (Int32.ofNat L).toInt = (L : Int) := nI_toInt (by omega)
  have hLi : (L : Int) = 6 := by omega
  refine lv_tableIn (off := 465) (tgt := 498) hx hb dL_law_33 (by rw [hv]; decide) (by rw [hv]; decide) (by rw [hv]; rfl) (by decide) ?_
  have hP : va_P G vwCl [(h0, oX9 b), (b 1, oX0 bc 0 0 0 0 0 0 0 0 0 0), (h1, oX10 bm 0 0 0 0 0 0 0 0 (-1) 0 0 0 0 0 0 0 0 0), (bm 1, .inl (cI, 149, .inl (fun _ => 0)))] H := hP.sub [0, 14, 59, 60] rfl
  have hD : va_D A [(h0, oX9 b), (b 1, oX0 bc 0 0 0 0 0 0 0 0 0 0), (h1, oX10 bm 0 0 0 0 0 0 0 0 (-1) 0 0 0 0 0 0 0 0 0), (bm 1, .inl (cI, 149, .inl (fun _ => 0)))] := hD.sub [0, 14, 59, 60] rfl rfl
  refine lv_aload_n hx hb dL_law_498 rfl (lv_at hl 2 rfl) ?_
  refine lv_aload_n hx hb dL_law_499 rfl (lv_at hl 3 rfl) ?_
  refine lv_iload_n hx hb dL_law_500 rfl (lv_at hl 0 rfl) ?_
  refine lv_iconst (v := 1) hx hb dL_law_501 (by decide) ?_
  refine lv_iadd hx hb dL_law_502 ?_
  refine lv_topi (fun v1 ev1 => ?_)
  obtain rfl : v1 = 1 := ev1.trans (by decide)
  refine va_sld hx hb hX hbl hbA hS (ix_in ki_1 (by omega) (by omega)) dL_law_503 ?_
  refine W.eq (g2 := F0 m 504 ls [.int (xs 1), .ref h0]) rfl ?_
  refine lv_aload_n hx hb dL_law_504 rfl (lv_at hl 3 rfl) ?_
  refine lv_iload_n hx hb dL_law_505 rfl (lv_at hl 0 rfl) ?_
  refine lv_iconst (v := 2) hx hb dL_law_506 (by decide) ?_
  refine lv_iadd hx hb dL_law_507 ?_
  refine lv_topi (fun v2 ev2 => ?_)
  obtain rfl : v2 = 2 := ev2.trans (by decide)
  refine va_sld hx hb hX hbl hbA hS (ix_in ki_2 (by omega) (by omega)) dL_law_508 ?_
  refine W.eq (g2 := F0 m 509 ls [.int (xs 2), .int (xs 1), .ref h0]) rfl ?_
  refine k_i (wc := [(h0, oX9 b), (b 1, oX0 bc 0 0 0 0 0 0 0 0 0 0)]) (wr := [(h1, oX10 bm 0 0 0 0 0 0 0 0 (-1) 0 0 0 0 0 0 0 0 0), (bm 1, .inl (cI, 149, .inl (fun _ => 0)))]) hP hD hS hA [0, 1] [2, 3] rfl rfl rfl (by decide) (va_runV (As := [.int (xs 1), .int (xs 2)]) (rest := []) ⟨hx, hb, hml, hown, hts⟩ (f_X9_grief l G cI cJ cZ cB cQ _ h0 b bc (xs 1) (xs 2)) (cwV 2 hts (gV w_675 w_676 w_677 w_1 w_678) rfl rfl rfl ⟨rfl, hd_X9_grief⟩ ⟨Nat.le_of_ble_eq_true rfl, Nat.le_of_ble_eq_true rfl⟩) (mV hK hZ hP hD [0, 1] rfl rfl [.int (xs 1), .int (xs 2)] 0 9 rfl rfl) rfl rfl hl.1 rfl (lv_room (Nat.le_of_ble_eq_true rfl)) dL_law_509 ⟨Nat.le_of_ble_eq_true rfl, Nat.le_of_ble_eq_true rfl⟩) (fun r3 u4 H locs hw5 hP hD hS => ?_)
  try dsimp only at hw5
  have hP : va_P G vwCl [(h1, oX10 bm 0 0 0 0 0 0 0 0 (-1) 0 0 0 0 0 0 0 0 0), (bm 1, .inl (cI, 149, .inl (fun _ => 0))), (h0, oX9 b), (b 1, oX0 bc 0 0 0 0 0 0 0 0 0 0)] H := hP
  have hD : va_D A [(h1, oX10 bm 0 0 0 0 0 0 0 0 (-1) 0 0 0 0 0 0 0 0 0), (bm 1, .inl (cI, 149, .inl (fun _ => 0))), (h0, oX9 b), (b 1, oX0 bc 0 0 0 0 0 0 0 0 0 0)] := hD
  obtain rfl : r3 = (-2) := hw5
  refine lv_aload_n hx hb dL_law_512 rfl (lv_at hl 1 rfl) ?_
  refine lv_aload_n hx hb dL_law_513 rfl (lv_at hl 3 rfl) ?_
  refine lv_iload_n hx hb dL_law_514 rfl (lv_at hl 0 rfl) ?_
  refine lv_iconst (v := 1) hx hb dL_law_515 (by decide) ?_
  refine lv_iadd hx hb dL_law_516 ?_
  refine lv_topi (fun v6 ev6 => ?_)
  obtain rfl : v6 = 1 := ev6.trans (by decide)
  refine va_sld hx hb hX hbl hbA hS (ix_in ki_1 (by omega) (by omega)) dL_law_517 ?_
  refine W.eq (g2 := F0 m 518 ls [.int (xs 1), .ref h1, .int (-2)]) rfl ?_
  refine lv_aload_n hx hb dL_law_518 rfl (lv_at hl 3 rfl) ?_
  refine lv_iload_n hx hb dL_law_519 rfl (lv_at hl 0 rfl) ?_
  refine lv_iconst (v := 2) hx hb dL_law_520 (by decide) ?_
  refine lv_iadd hx hb dL_law_521 ?_
  refine lv_topi (fun v7 ev7 => ?_)
  obtain rfl : v7 = 2 := ev7.trans (by decide)
  refine va_sld hx hb hX hbl hbA hS (ix_in ki_2 (by omega) (by omega)) dL_law_522 ?_
  refine W.eq (g2 := F0 m 523 ls [.int (xs 2), .int (xs 1), .ref h1, .int (-2)]) rfl ?_
  refine k_i (wc := [(h1, oX10 bm 0 0 0 0 0 0 0 0 (-1) 0 0 0 0 0 0 0 0 0), (bm 1, .inl (cI, 149, .inl (fun _ => 0)))]) (wr := [(h0, oX9 b), (b 1, oX0 bc 0 0 0 0 0 0 0 0 0 0)]) hP hD hS hA [0, 1] [2, 3] rfl rfl rfl (by decide) (va_runV (As := [.int (xs 1), .int (xs 2)]) (rest := [.int (-2)]) ⟨hx, hb, hml, hown, hts⟩ (f_X10_grief l G cI cJ cZ cB cQ _ h1 bm (xs 1) (xs 2)) (cwV 2 hts (gV w_1473 w_1474 w_1475 w_11 w_1476) rfl rfl rfl ⟨rfl, hd_X10_grief⟩ ⟨Nat.le_of_ble_eq_true rfl, Nat.le_of_ble_eq_true rfl⟩) (mV hK hZ hP hD [0, 1] rfl rfl [.int (xs 1), .int (xs 2)] 0 10 rfl rfl) rfl rfl hl.1 rfl (lv_room (Nat.le_of_ble_eq_true rfl)) dL_law_523 ⟨Nat.le_of_ble_eq_true rfl, Nat.le_of_ble_eq_true rfl⟩) (fun r8 u9 H locs hw10 hP hD hS => ?_)
  try dsimp only at hw10
  have hP : va_P G vwCl [(h0, oX9 b), (b 1, oX0 bc 0 0 0 0 0 0 0 0 0 0), (h1, oX10 bm 0 0 0 0 0 0 0 0 (-1) 0 0 0 0 0 0 0 0 0), (bm 1, .inl (cI, 149, .inl (fun _ => 0)))] H := hP
  have hD : va_D A [(h0, oX9 b), (b 1, oX0 bc 0 0 0 0 0 0 0 0 0 0), (h1, oX10 bm 0 0 0 0 0 0 0 0 (-1) 0 0 0 0 0 0 0 0 0), (bm 1, .inl (cI, 149, .inl (fun _ => 0)))] := hD
  obtain rfl : r8 = (-2) := hw10
  refine lv_icmp_eq (tgt := 2226) hx hb dL_law_526 (by decide) (fun c11 => ?_) (fun c11 => absurd (by decide) c11)
  refine lv_iinc (v := 6) (lv' := [(3, .int 6), (2, .ref h1), (1, .ref h0), (0, .ref sb)]) hx hb dL_law_2226 hl (k := 0) rfl (by decide) (by decide) rfl (fun ls hl => ?_)
  refine lv_goto (tgt := 18) hx hb dL_law_2229 (by decide) ?_
  exact law_exit hL6 C0 hAe hS ls (lv_sub hl [3, 0] rfl) (by decide) (by decide)
set_option maxHeartbeats 4000000 in
set_option maxRecDepth 100000 in
theorem law_7 {p : Program} {e : Env} {s : State} {m : MethodId} {below : List Frame} {meth : Method} {c : Code} {l : Launch} {sb L : Nat} {xs : Nat → Int32} {A : Nat → Prop} {G : va_G} {cI cJ cZ cB cQ : ClassId} (h0 : Nat) (b : Nat → Nat) (br : Nat → Nat) (bt : Nat → Nat) (bi : Nat → Nat) (bc : Nat → Nat) (bn : Nat → Nat) (bs : Nat → Nat) (be : Nat → Nat) (bw : Nat → Nat) (h1 : Nat) (bm : Nat → Nat) {H : Heap} {locs : List Loc} (hL : L = 6) (C0 : lw_At p s m meth c sb L xs) (hAe : A = fun q => s.heap.size ≤ q) (hK : va_K G vwCl (TY cI cJ cZ cB cQ) s) (hZ : nz s) (hP : va_P G vwCl (wX cI cJ cZ cB cQ h0 b br bt bi bc bn bs be bw ++ wM cI cJ cZ cB cQ h1 bm) H) (hD : va_D A (wX cI cJ cZ cB cQ h0 b br bt bi bc bn bs be bw ++ wM cI cJ cZ cB cQ h1 bm)) (hS : va_S A s.heap H locs) (ls : Array Slot) (hl : lv_has ls 4 [(3, .int 0), (2, .ref h1), (1, .ref h0), (0, .ref sb)]) (v : Int32) (hv : v.toInt = 7) : W p l e room_1 s m #[Value.ref sb] below meth c H locs 88 8166 (lw_Z below #[Value.ref sb] s) (F0 m 33 ls [.int v]) := by
  have hL6 : L ≤ 6 := by omega
  obtain ⟨hx, hb, hr, hml, hown, hts0, hX, hbl, hlocks, hgv⟩ := id C0
  have hown : s.vm.findClass RL = some m.cls := hown
  have hts : ∀ q ∈ GW, q.before #[Value.ref sb] s = true := fun q h => hts0 q (List.mem_filter.mp h).1
  have hA : ∀ q : Nat, s.heap.size ≤ q → A q := fun q h => by rw [hAe]; exact h
  have hbA : ¬ A sb := by rw [hAe]; exact Nat.not_le.mpr hbl
  have hLT : (Int32.ofNat L).toInt = (L : Int) := nI_toInt (by omega)
  have hLi : (L : Int) = 6 := by omega
  refine lv_tableIn (off := 498) (tgt := 531) hx hb dL_law_33 (by rw [hv]; decide) (by rw [hv]; decide) (by rw [hv]; rfl) (by decide) ?_
  have hP : va_P G vwCl [(h0, oX9 b), (b 1, oX0 bc 0 0 0 0 0 0 0 0 0 0), (h1, oX10 bm 0 0 0 0 0 0 0 0 (-1) 0 0 0 0 0 0 0 0 0), (bm 1, .inl (cI, 149, .inl (fun _ => 0))), (bm 15, .inl (cZ, 80, .inl (fun _ => 0))), (bm 16, .inl (cI, 7, .inl (fun _ => 0))), (bm 21, .inl (cZ, 80, .inl (fun _ => 0))), (bm 24, .inl (cI, 80, .inl (fun _ => 0))), (bm 25, .inl (cI, 6, .inl (fun _ => 0))), (bm 29, .inl (cI, 6, .inl (fun _ => 0))), (bm 30, .inl (cZ, 1040, .inl (fun _ => 0))), (bm 31, .inl (cI, 1040, .inl (fun _ => 0))), (bm 32, .inl (cI, 78, .inl (fun _ => 0))), (bm 27, .inl (cI, 7, .inl (fun _ => 0)))] H := hP.sub [0, 14, 59, 60, 66, 67, 68, 71, 72, 76, 77, 78, 79, 74] rfl
  have hD : va_D A [(h0, oX9 b), (b 1, oX0 bc 0 0 0 0 0 0 0 0 0 0), (h1, oX10 bm 0 0 0 0 0 0 0 0 (-1) 0 0 0 0 0 0 0 0 0), (bm 1, .inl (cI, 149, .inl (fun _ => 0))), (bm 15, .inl (cZ, 80, .inl (fun _ => 0))), (bm 16, .inl (cI, 7, .inl (fun _ => 0))), (bm 21, .inl (cZ, 80, .inl (fun _ => 0))), (bm 24, .inl (cI, 80, .inl (fun _ => 0))), (bm 25, .inl (cI, 6, .inl (fun _ => 0))), (bm 29, .inl (cI, 6, .inl (fun _ => 0))), (bm 30, .inl (cZ, 1040, .inl (fun _ => 0))), (bm 31, .inl (cI, 1040, .inl (fun _ => 0))), (bm 32, .inl (cI, 78, .inl (fun _ => 0))), (bm 27, .inl (cI, 7, .inl (fun _ => 0)))] := hD.sub [0, 14, 59, 60, 66, 67, 68, 71, 72, 76, 77, 78, 79, 74] rfl rfl
  refine lv_aload_n hx hb dL_law_531 rfl (lv_at hl 2 rfl) ?_
  refine lv_aload_n hx hb dL_law_532 rfl (lv_at hl 3 rfl) ?_
  refine lv_iload_n hx hb dL_law_533 rfl (lv_at hl 0 rfl) ?_
  refine lv_iconst (v := 1) hx hb dL_law_534 (by decide) ?_
  refine lv_iadd hx hb dL_law_535 ?_
  refine lv_topi (fun v1 ev1 => ?_)
  obtain rfl : v1 = 1 := ev1.trans (by decide)
  refine va_sld hx hb hX hbl hbA hS (ix_in ki_1 (by omega) (by omega)) dL_law_536 ?_
  refine W.eq (g2 := F0 m 537 ls [.int (xs 1), .ref h0]) rfl ?_
  refine lv_aload_n hx hb dL_law_537 rfl (lv_at hl 3 rfl) ?_
  refine lv_iload_n hx hb dL_law_538 rfl (lv_at hl 0 rfl) ?_
  refine lv_iconst (v := 2) hx hb dL_law_539 (by decide) ?_
  refine lv_iadd hx hb dL_law_540 ?_
  refine lv_topi (fun v2 ev2 => ?_)
  obtain rfl : v2 = 2 := ev2.trans (by decide)
  refine va_sld hx hb hX hbl hbA hS (ix_in ki_2 (by omega) (by omega)) dL_law_541 ?_
  refine W.eq (g2 := F0 m 542 ls [.int (xs 2), .int (xs 1), .ref h0]) rfl ?_
  refine k_i (wc := [(h0, oX9 b), (b 1, oX0 bc 0 0 0 0 0 0 0 0 0 0)]) (wr := [(h1, oX10 bm 0 0 0 0 0 0 0 0 (-1) 0 0 0 0 0 0 0 0 0), (bm 1, .inl (cI, 149, .inl (fun _ => 0))), (bm 15, .inl (cZ, 80, .inl (fun _ => 0))), (bm 16, .inl (cI, 7, .inl (fun _ => 0))), (bm 21, .inl (cZ, 80, .inl (fun _ => 0))), (bm 24, .inl (cI, 80, .inl (fun _ => 0))), (bm 25, .inl (cI, 6, .inl (fun _ => 0))), (bm 29, .inl (cI, 6, .inl (fun _ => 0))), (bm 30, .inl (cZ, 1040, .inl (fun _ => 0))), (bm 31, .inl (cI, 1040, .inl (fun _ => 0))), (bm 32, .inl (cI, 78, .inl (fun _ => 0))), (bm 27, .inl (cI, 7, .inl (fun _ => 0)))]) hP hD hS hA [0, 1] [2, 3, 4, 5, 6, 7, 8, 9, 10, 11, 12, 13] rfl rfl rfl (by decide) (va_runV (As := [.int (xs 1), .int (xs 2)]) (rest := []) ⟨hx, hb, hml, hown, hts⟩ (f_X9_at l G cI cJ cZ cB cQ _ h0 b bc (xs 1) (xs 2)) (cwV 2 hts (gV w_679 w_680 w_681 w_1 w_682) rfl rfl rfl ⟨rfl, hd_X9_at⟩ ⟨Nat.le_of_ble_eq_true rfl, Nat.le_of_ble_eq_true rfl⟩) (mV hK hZ hP hD [0, 1] rfl rfl [.int (xs 1), .int (xs 2)] 0 9 rfl rfl) rfl rfl hl.1 rfl (lv_room (Nat.le_of_ble_eq_true rfl)) dL_law_542 ⟨Nat.le_of_ble_eq_true rfl, Nat.le_of_ble_eq_true rfl⟩) (fun r3 u4 H locs hw5 hP hD hS => ?_)
  try dsimp only at hw5
  have hP : va_P G vwCl [(h1, oX10 bm 0 0 0 0 0 0 0 0 (-1) 0 0 0 0 0 0 0 0 0), (bm 1, .inl (cI, 149, .inl (fun _ => 0))), (bm 15, .inl (cZ, 80, .inl (fun _ => 0))), (bm 16, .inl (cI, 7, .inl (fun _ => 0))), (bm 21, .inl (cZ, 80, .inl (fun _ => 0))), (bm 24, .inl (cI, 80, .inl (fun _ => 0))), (bm 25, .inl (cI, 6, .inl (fun _ => 0))), (bm 29, .inl (cI, 6, .inl (fun _ => 0))), (bm 30, .inl (cZ, 1040, .inl (fun _ => 0))), (bm 31, .inl (cI, 1040, .inl (fun _ => 0))), (bm 32, .inl (cI, 78, .inl (fun _ => 0))), (bm 27, .inl (cI, 7, .inl (fun _ => 0))), (h0, oX9 b), (b 1, oX0 bc 0 0 0 0 0 0 0 0 0 0)] H := hP
  have hD : va_D A [(h1, oX10 bm 0 0 0 0 0 0 0 0 (-1) 0 0 0 0 0 0 0 0 0), (bm 1, .inl (cI, 149, .inl (fun _ => 0))), (bm 15, .inl (cZ, 80, .inl (fun _ => 0))), (bm 16, .inl (cI, 7, .inl (fun _ => 0))), (bm 21, .inl (cZ, 80, .inl (fun _ => 0))), (bm 24, .inl (cI, 80, .inl (fun _ => 0))), (bm 25, .inl (cI, 6, .inl (fun _ => 0))), (bm 29, .inl (cI, 6, .inl (fun _ => 0))), (bm 30, .inl (cZ, 1040, .inl (fun _ => 0))), (bm 31, .inl (cI, 1040, .inl (fun _ => 0))), (bm 32, .inl (cI, 78, .inl (fun _ => 0))), (bm 27, .inl (cI, 7, .inl (fun _ => 0))), (h0, oX9 b), (b 1, oX0 bc 0 0 0 0 0 0 0 0 0 0)] := hD
  obtain rfl : r3 = (-2) := hw5
  refine lv_aload_n hx hb dL_law_545 rfl (lv_at hl 1 rfl) ?_
  refine lv_aload_n hx hb dL_law_546 rfl (lv_at hl 3 rfl) ?_
  refine lv_iload_n hx hb dL_law_547 rfl (lv_at hl 0 rfl) ?_
  refine lv_iconst (v := 1) hx hb dL_law_548 (by decide) ?_
  refine lv_iadd hx hb dL_law_549 ?_
  refine lv_topi (fun v6 ev6 => ?_)
  obtain rfl : v6 = 1 := ev6.trans (by decide)
  refine va_sld hx hb hX hbl hbA hS (ix_in ki_1 (by omega) (by omega)) dL_law_550 ?_
  refine W.eq (g2 := F0 m 551 ls [.int (xs 1), .ref h1, .int (-2)]) rfl ?_
  refine lv_aload_n hx hb dL_law_551 rfl (lv_at hl 3 rfl) ?_
  refine lv_iload_n hx hb dL_law_552 rfl (lv_at hl 0 rfl) ?_
  refine lv_iconst (v := 2) hx hb dL_law_553 (by decide) ?_
  refine lv_iadd hx hb dL_law_554 ?_
  refine lv_topi (fun v7 ev7 => ?_)
  obtain rfl : v7 = 2 := ev7.trans (by decide)
  refine va_sld hx hb hX hbl hbA hS (ix_in ki_2 (by omega) (by omega)) dL_law_555 ?_
  refine W.eq (g2 := F0 m 556 ls [.int (xs 2), .int (xs 1), .ref h1, .int (-2)]) rfl ?_
  refine k_i (wc := [(h1, oX10 bm 0 0 0 0 0 0 0 0 (-1) 0 0 0 0 0 0 0 0 0), (bm 1, .inl (cI, 149, .inl (fun _ => 0))), (bm 15, .inl (cZ, 80, .inl (fun _ => 0))), (bm 16, .inl (cI, 7, .inl (fun _ => 0))), (bm 21, .inl (cZ, 80, .inl (fun _ => 0))), (bm 24, .inl (cI, 80, .inl (fun _ => 0))), (bm 25, .inl (cI, 6, .inl (fun _ => 0))), (bm 29, .inl (cI, 6, .inl (fun _ => 0))), (bm 30, .inl (cZ, 1040, .inl (fun _ => 0))), (bm 31, .inl (cI, 1040, .inl (fun _ => 0))), (bm 32, .inl (cI, 78, .inl (fun _ => 0))), (bm 27, .inl (cI, 7, .inl (fun _ => 0)))]) (wr := [(h0, oX9 b), (b 1, oX0 bc 0 0 0 0 0 0 0 0 0 0)]) hP hD hS hA [0, 1, 2, 3, 4, 5, 6, 7, 8, 9, 10, 11] [12, 13] rfl rfl rfl (by decide) (va_runV (As := [.int (xs 1), .int (xs 2)]) (rest := [.int (-2)]) ⟨hx, hb, hml, hown, hts⟩ (f_X10_at l G cI cJ cZ cB cQ _ h1 bm (xs 1) (xs 2)) (cwV 2 hts (gV w_1563 w_1564 w_1565 w_11 w_1566) rfl rfl rfl ⟨rfl, hd_X10_at⟩ ⟨Nat.le_of_ble_eq_true rfl, Nat.le_of_ble_eq_true rfl⟩) (mV hK hZ hP hD [0, 1, 2, 3, 4, 5, 6, 7, 8, 9, 10, 11] rfl rfl [.int (xs 1), .int (xs 2)] 0 10 rfl rfl) rfl rfl hl.1 rfl (lv_room (Nat.le_of_ble_eq_true rfl)) dL_law_556 ⟨Nat.le_of_ble_eq_true rfl, Nat.le_of_ble_eq_true rfl⟩) (fun r8 u9 H locs hw10 hP hD hS => ?_)
  obtain ⟨f011, rfl⟩ : ∃ z, z = u9 := ⟨_, rfl⟩
  try dsimp only at hw10
  have hP : va_P G vwCl [(h0, oX9 b), (b 1, oX0 bc 0 0 0 0 0 0 0 0 0 0), (h1, oX10 bm 0 0 0 0 0 0 0 0 (-1) 0 0 (-1) 0 0 0 0 0 0), (bm 1, .inl (cI, 149, .inl (fun _ => 0))), (bm 15, .inl (cZ, 80, .inl (fun _ => 0))), (bm 16, .inl (cI, 7, .inl (fun _ => 0))), (bm 21, .inl (cZ, 80, .inl (fun _ => 0))), (bm 24, .inl (cI, 80, .inl (fun _ => 0))), (bm 25, .inl (cI, 6, .inl (fun _ => 0))), (bm 29, .inl (cI, 6, .inl (fun _ => 0))), (bm 30, .inl (cZ, 1040, .inl (fun _ => 0))), (bm 31, .inl (cI, 1040, .inl (fun _ => 0))), (bm 32, .inl (cI, 78, .inl (fun _ => 0))), (bm 27, .inl (cI, 7, .inl f011))] H := hP
  have hD : va_D A [(h0, oX9 b), (b 1, oX0 bc 0 0 0 0 0 0 0 0 0 0), (h1, oX10 bm 0 0 0 0 0 0 0 0 (-1) 0 0 (-1) 0 0 0 0 0 0), (bm 1, .inl (cI, 149, .inl (fun _ => 0))), (bm 15, .inl (cZ, 80, .inl (fun _ => 0))), (bm 16, .inl (cI, 7, .inl (fun _ => 0))), (bm 21, .inl (cZ, 80, .inl (fun _ => 0))), (bm 24, .inl (cI, 80, .inl (fun _ => 0))), (bm 25, .inl (cI, 6, .inl (fun _ => 0))), (bm 29, .inl (cI, 6, .inl (fun _ => 0))), (bm 30, .inl (cZ, 1040, .inl (fun _ => 0))), (bm 31, .inl (cI, 1040, .inl (fun _ => 0))), (bm 32, .inl (cI, 78, .inl (fun _ => 0))), (bm 27, .inl (cI, 7, .inl f011))] := hD
  obtain rfl : r8 = (-2) := hw10
  refine lv_icmp_eq (tgt := 2226) hx hb dL_law_559 (by decide) (fun c12 => ?_) (fun c12 => absurd (by decide) c12)
  refine lv_iinc (v := 6) (lv' := [(3, .int 6), (2, .ref h1), (1, .ref h0), (0, .ref sb)]) hx hb dL_law_2226 hl (k := 0) rfl (by decide) (by decide) rfl (fun ls hl => ?_)
  refine lv_goto (tgt := 18) hx hb dL_law_2229 (by decide) ?_
  exact law_exit hL6 C0 hAe hS ls (lv_sub hl [3, 0] rfl) (by decide) (by decide)
set_option maxHeartbeats 4000000 in
set_option maxRecDepth 100000 in
theorem law_8 {p : Program} {e : Env} {s : State} {m : MethodId} {below : List Frame} {meth : Method} {c : Code} {l : Launch} {sb L : Nat} {xs : Nat → Int32} {A : Nat → Prop} {G : va_G} {cI cJ cZ cB cQ : ClassId} (h0 : Nat) (b : Nat → Nat) (br : Nat → Nat) (bt : Nat → Nat) (bi : Nat → Nat) (bc : Nat → Nat) (bn : Nat → Nat) (bs : Nat → Nat) (be : Nat → Nat) (bw : Nat → Nat) (h1 : Nat) (bm : Nat → Nat) {H : Heap} {locs : List Loc} (hL : L = 6) (C0 : lw_At p s m meth c sb L xs) (hAe : A = fun q => s.heap.size ≤ q) (hK : va_K G vwCl (TY cI cJ cZ cB cQ) s) (hZ : nz s) (hP : va_P G vwCl (wX cI cJ cZ cB cQ h0 b br bt bi bc bn bs be bw ++ wM cI cJ cZ cB cQ h1 bm) H) (hD : va_D A (wX cI cJ cZ cB cQ h0 b br bt bi bc bn bs be bw ++ wM cI cJ cZ cB cQ h1 bm)) (hS : va_S A s.heap H locs) (ls : Array Slot) (hl : lv_has ls 4 [(3, .int 0), (2, .ref h1), (1, .ref h0), (0, .ref sb)]) (v : Int32) (hv : v.toInt = 8) : W p l e room_1 s m #[Value.ref sb] below meth c H locs 88 8166 (lw_Z below #[Value.ref sb] s) (F0 m 33 ls [.int v]) := by
  have hL6 : L ≤ 6 := by omega
  obtain ⟨hx, hb, hr, hml, hown, hts0, hX, hbl, hlocks, hgv⟩ := id C0
  have hown : s.vm.findClass RL = some m.cls := hown
  have hts : ∀ q ∈ GW, q.before #[Value.ref sb] s = true := fun q h => hts0 q (List.mem_filter.mp h).1
  have hA : ∀ q : Nat, s.heap.size ≤ q → A q := fun q h => by rw [hAe]; exact h
  have hbA : ¬ A sb := by rw [hAe]; exact Nat.not_le.mpr hbl
  have hLT : (Int32.ofNat L).toInt = (L : Int) := nI_toInt (by omega)
  have hLi : (L : Int) = 6 := by omega
  refine lv_tableIn (off := 531) (tgt := 564) hx hb dL_law_33 (by rw [hv]; decide) (by rw [hv]; decide) (by rw [hv]; rfl) (by decide) ?_
  have hP : va_P G vwCl [(h0, oX9 b), (b 1, oX0 bc 0 0 0 0 0 0 0 0 0 0), (h1, oX10 bm 0 0 0 0 0 0 0 0 (-1) 0 0 0 0 0 0 0 0 0), (bm 1, .inl (cI, 149, .inl (fun _ => 0))), (bm 15, .inl (cZ, 80, .inl (fun _ => 0))), (bm 16, .inl (cI, 7, .inl (fun _ => 0))), (bm 21, .inl (cZ, 80, .inl (fun _ => 0))), (bm 24, .inl (cI, 80, .inl (fun _ => 0))), (bm 25, .inl (cI, 6, .inl (fun _ => 0))), (bm 29, .inl (cI, 6, .inl (fun _ => 0))), (bm 30, .inl (cZ, 1040, .inl (fun _ => 0))), (bm 31, .inl (cI, 1040, .inl (fun _ => 0))), (bm 32, .inl (cI, 78, .inl (fun _ => 0))), (bm 27, .inl (cI, 7, .inl (fun _ => 0)))] H := hP.sub [0, 14, 59, 60, 66, 67, 68, 71, 72, 76, 77, 78, 79, 74] rfl
  have hD : va_D A [(h0, oX9 b), (b 1, oX0 bc 0 0 0 0 0 0 0 0 0 0), (h1, oX10 bm 0 0 0 0 0 0 0 0 (-1) 0 0 0 0 0 0 0 0 0), (bm 1, .inl (cI, 149, .inl (fun _ => 0))), (bm 15, .inl (cZ, 80, .inl (fun _ => 0))), (bm 16, .inl (cI, 7, .inl (fun _ => 0))), (bm 21, .inl (cZ, 80, .inl (fun _ => 0))), (bm 24, .inl (cI, 80, .inl (fun _ => 0))), (bm 25, .inl (cI, 6, .inl (fun _ => 0))), (bm 29, .inl (cI, 6, .inl (fun _ => 0))), (bm 30, .inl (cZ, 1040, .inl (fun _ => 0))), (bm 31, .inl (cI, 1040, .inl (fun _ => 0))), (bm 32, .inl (cI, 78, .inl (fun _ => 0))), (bm 27, .inl (cI, 7, .inl (fun _ => 0)))] := hD.sub [0, 14, 59, 60, 66, 67, 68, 71, 72, 76, 77, 78, 79, 74] rfl rfl
  refine lv_aload_n hx hb dL_law_564 rfl (lv_at hl 2 rfl) ?_
  refine lv_aload_n hx hb dL_law_565 rfl (lv_at hl 3 rfl) ?_
  refine lv_iload_n hx hb dL_law_566 rfl (lv_at hl 0 rfl) ?_
  refine lv_iconst (v := 1) hx hb dL_law_567 (by decide) ?_
  refine lv_iadd hx hb dL_law_568 ?_
  refine lv_topi (fun v1 ev1 => ?_)
  obtain rfl : v1 = 1 := ev1.trans (by decide)
  refine va_sld hx hb hX hbl hbA hS (ix_in ki_1 (by omega) (by omega)) dL_law_569 ?_
  refine W.eq (g2 := F0 m 570 ls [.int (xs 1), .ref h0]) rfl ?_
  refine k_i (wc := [(h0, oX9 b), (b 1, oX0 bc 0 0 0 0 0 0 0 0 0 0)]) (wr := [(h1, oX10 bm 0 0 0 0 0 0 0 0 (-1) 0 0 0 0 0 0 0 0 0), (bm 1, .inl (cI, 149, .inl (fun _ => 0))), (bm 15, .inl (cZ, 80, .inl (fun _ => 0))), (bm 16, .inl (cI, 7, .inl (fun _ => 0))), (bm 21, .inl (cZ, 80, .inl (fun _ => 0))), (bm 24, .inl (cI, 80, .inl (fun _ => 0))), (bm 25, .inl (cI, 6, .inl (fun _ => 0))), (bm 29, .inl (cI, 6, .inl (fun _ => 0))), (bm 30, .inl (cZ, 1040, .inl (fun _ => 0))), (bm 31, .inl (cI, 1040, .inl (fun _ => 0))), (bm 32, .inl (cI, 78, .inl (fun _ => 0))), (bm 27, .inl (cI, 7, .inl (fun _ => 0)))]) hP hD hS hA [0, 1] [2, 3, 4, 5, 6, 7, 8, 9, 10, 11, 12, 13] rfl rfl rfl (by decide) (va_runV (As := [.int (xs 1)]) (rest := []) ⟨hx, hb, hml, hown, hts⟩ (f_X9_steps l G cI cJ cZ cB cQ _ h0 b bc (xs 1)) (cwV 1 hts (gV w_691 w_692 w_693 w_1 w_694) rfl rfl rfl ⟨rfl, hd_X9_steps⟩ ⟨Nat.le_of_ble_eq_true rfl, Nat.le_of_ble_eq_true rfl⟩) (mV hK hZ hP hD [0, 1] rfl rfl [.int (xs 1)] 0 9 rfl rfl) rfl rfl hl.1 rfl (lv_room (Nat.le_of_ble_eq_true rfl)) dL_law_570 ⟨Nat.le_of_ble_eq_true rfl, Nat.le_of_ble_eq_true rfl⟩) (fun r2 u3 H locs hw4 hP hD hS => ?_)
  try dsimp only at hw4
  have hP : va_P G vwCl [(h1, oX10 bm 0 0 0 0 0 0 0 0 (-1) 0 0 0 0 0 0 0 0 0), (bm 1, .inl (cI, 149, .inl (fun _ => 0))), (bm 15, .inl (cZ, 80, .inl (fun _ => 0))), (bm 16, .inl (cI, 7, .inl (fun _ => 0))), (bm 21, .inl (cZ, 80, .inl (fun _ => 0))), (bm 24, .inl (cI, 80, .inl (fun _ => 0))), (bm 25, .inl (cI, 6, .inl (fun _ => 0))), (bm 29, .inl (cI, 6, .inl (fun _ => 0))), (bm 30, .inl (cZ, 1040, .inl (fun _ => 0))), (bm 31, .inl (cI, 1040, .inl (fun _ => 0))), (bm 32, .inl (cI, 78, .inl (fun _ => 0))), (bm 27, .inl (cI, 7, .inl (fun _ => 0))), (h0, oX9 b), (b 1, oX0 bc 0 0 0 0 0 0 0 0 0 0)] H := hP
  have hD : va_D A [(h1, oX10 bm 0 0 0 0 0 0 0 0 (-1) 0 0 0 0 0 0 0 0 0), (bm 1, .inl (cI, 149, .inl (fun _ => 0))), (bm 15, .inl (cZ, 80, .inl (fun _ => 0))), (bm 16, .inl (cI, 7, .inl (fun _ => 0))), (bm 21, .inl (cZ, 80, .inl (fun _ => 0))), (bm 24, .inl (cI, 80, .inl (fun _ => 0))), (bm 25, .inl (cI, 6, .inl (fun _ => 0))), (bm 29, .inl (cI, 6, .inl (fun _ => 0))), (bm 30, .inl (cZ, 1040, .inl (fun _ => 0))), (bm 31, .inl (cI, 1040, .inl (fun _ => 0))), (bm 32, .inl (cI, 78, .inl (fun _ => 0))), (bm 27, .inl (cI, 7, .inl (fun _ => 0))), (h0, oX9 b), (b 1, oX0 bc 0 0 0 0 0 0 0 0 0 0)] := hD
  obtain rfl : r2 = (-2) := hw4
  refine lv_aload_n hx hb dL_law_573 rfl (lv_at hl 1 rfl) ?_
  refine lv_aload_n hx hb dL_law_574 rfl (lv_at hl 3 rfl) ?_
  refine lv_iload_n hx hb dL_law_575 rfl (lv_at hl 0 rfl) ?_
  refine lv_iconst (v := 1) hx hb dL_law_576 (by decide) ?_
  refine lv_iadd hx hb dL_law_577 ?_
  refine lv_topi (fun v5 ev5 => ?_)
  obtain rfl : v5 = 1 := ev5.trans (by decide)
  refine va_sld hx hb hX hbl hbA hS (ix_in ki_1 (by omega) (by omega)) dL_law_578 ?_
  refine W.eq (g2 := F0 m 579 ls [.int (xs 1), .ref h1, .int (-2)]) rfl ?_
  refine k_i (wc := [(h1, oX10 bm 0 0 0 0 0 0 0 0 (-1) 0 0 0 0 0 0 0 0 0), (bm 1, .inl (cI, 149, .inl (fun _ => 0))), (bm 15, .inl (cZ, 80, .inl (fun _ => 0))), (bm 16, .inl (cI, 7, .inl (fun _ => 0))), (bm 21, .inl (cZ, 80, .inl (fun _ => 0))), (bm 24, .inl (cI, 80, .inl (fun _ => 0))), (bm 25, .inl (cI, 6, .inl (fun _ => 0))), (bm 29, .inl (cI, 6, .inl (fun _ => 0))), (bm 30, .inl (cZ, 1040, .inl (fun _ => 0))), (bm 31, .inl (cI, 1040, .inl (fun _ => 0))), (bm 32, .inl (cI, 78, .inl (fun _ => 0))), (bm 27, .inl (cI, 7, .inl (fun _ => 0)))]) (wr := [(h0, oX9 b), (b 1, oX0 bc 0 0 0 0 0 0 0 0 0 0)]) hP hD hS hA [0, 1, 2, 3, 4, 5, 6, 7, 8, 9, 10, 11] [12, 13] rfl rfl rfl (by decide) (va_runV (As := [.int (xs 1)]) (rest := [.int (-2)]) ⟨hx, hb, hml, hown, hts⟩ (f_X10_steps l G cI cJ cZ cB cQ _ h1 bm (xs 1)) (cwV 1 hts (gV w_1576 w_1577 w_1578 w_11 w_1579) rfl rfl rfl ⟨rfl, hd_X10_steps⟩ ⟨Nat.le_of_ble_eq_true rfl, Nat.le_of_ble_eq_true rfl⟩) (mV hK hZ hP hD [0, 1, 2, 3, 4, 5, 6, 7, 8, 9, 10, 11] rfl rfl [.int (xs 1)] 0 10 rfl rfl) rfl rfl hl.1 rfl (lv_room (Nat.le_of_ble_eq_true rfl)) dL_law_579 ⟨Nat.le_of_ble_eq_true rfl, Nat.le_of_ble_eq_true rfl⟩) (fun r6 u7 H locs hw8 hP hD hS => ?_)
  obtain ⟨f09, rfl⟩ : ∃ z, z = u7 := ⟨_, rfl⟩
  try dsimp only at hw8
  have hP : va_P G vwCl [(h0, oX9 b), (b 1, oX0 bc 0 0 0 0 0 0 0 0 0 0), (h1, oX10 bm 0 0 0 0 0 0 0 0 (-1) 0 0 (-1) 0 0 0 0 0 0), (bm 1, .inl (cI, 149, .inl (fun _ => 0))), (bm 15, .inl (cZ, 80, .inl (fun _ => 0))), (bm 16, .inl (cI, 7, .inl (fun _ => 0))), (bm 21, .inl (cZ, 80, .inl (fun _ => 0))), (bm 24, .inl (cI, 80, .inl (fun _ => 0))), (bm 25, .inl (cI, 6, .inl (fun _ => 0))), (bm 29, .inl (cI, 6, .inl (fun _ => 0))), (bm 30, .inl (cZ, 1040, .inl (fun _ => 0))), (bm 31, .inl (cI, 1040, .inl (fun _ => 0))), (bm 32, .inl (cI, 78, .inl (fun _ => 0))), (bm 27, .inl (cI, 7, .inl f09))] H := hP
  have hD : va_D A [(h0, oX9 b), (b 1, oX0 bc 0 0 0 0 0 0 0 0 0 0), (h1, oX10 bm 0 0 0 0 0 0 0 0 (-1) 0 0 (-1) 0 0 0 0 0 0), (bm 1, .inl (cI, 149, .inl (fun _ => 0))), (bm 15, .inl (cZ, 80, .inl (fun _ => 0))), (bm 16, .inl (cI, 7, .inl (fun _ => 0))), (bm 21, .inl (cZ, 80, .inl (fun _ => 0))), (bm 24, .inl (cI, 80, .inl (fun _ => 0))), (bm 25, .inl (cI, 6, .inl (fun _ => 0))), (bm 29, .inl (cI, 6, .inl (fun _ => 0))), (bm 30, .inl (cZ, 1040, .inl (fun _ => 0))), (bm 31, .inl (cI, 1040, .inl (fun _ => 0))), (bm 32, .inl (cI, 78, .inl (fun _ => 0))), (bm 27, .inl (cI, 7, .inl f09))] := hD
  obtain rfl : r6 = (-2) := hw8
  refine lv_icmp_eq (tgt := 2226) hx hb dL_law_582 (by decide) (fun c10 => ?_) (fun c10 => absurd (by decide) c10)
  refine lv_iinc (v := 6) (lv' := [(3, .int 6), (2, .ref h1), (1, .ref h0), (0, .ref sb)]) hx hb dL_law_2226 hl (k := 0) rfl (by decide) (by decide) rfl (fun ls hl => ?_)
  refine lv_goto (tgt := 18) hx hb dL_law_2229 (by decide) ?_
  exact law_exit hL6 C0 hAe hS ls (lv_sub hl [3, 0] rfl) (by decide) (by decide)
set_option maxHeartbeats 4000000 in
set_option maxRecDepth 100000 in
theorem law_9 {p : Program} {e : Env} {s : State} {m : MethodId} {below : List Frame} {meth : Method} {c : Code} {l : Launch} {sb L : Nat} {xs : Nat → Int32} {A : Nat → Prop} {G : va_G} {cI cJ cZ cB cQ : ClassId} (h0 : Nat) (b : Nat → Nat) (br : Nat → Nat) (bt : Nat → Nat) (bi : Nat → Nat) (bc : Nat → Nat) (bn : Nat → Nat) (bs : Nat → Nat) (be : Nat → Nat) (bw : Nat → Nat) (h1 : Nat) (bm : Nat → Nat) {H : Heap} {locs : List Loc} (hL : L = 6) (C0 : lw_At p s m meth c sb L xs) (hAe : A = fun q => s.heap.size ≤ q) (hK : va_K G vwCl (TY cI cJ cZ cB cQ) s) (hZ : nz s) (hP : va_P G vwCl (wX cI cJ cZ cB cQ h0 b br bt bi bc bn bs be bw ++ wM cI cJ cZ cB cQ h1 bm) H) (hD : va_D A (wX cI cJ cZ cB cQ h0 b br bt bi bc bn bs be bw ++ wM cI cJ cZ cB cQ h1 bm)) (hS : va_S A s.heap H locs) (ls : Array Slot) (hl : lv_has ls 4 [(3, .int 0), (2, .ref h1), (1, .ref h0), (0, .ref sb)]) (v : Int32) (hv : v.toInt = 9) : W p l e room_1 s m #[Value.ref sb] below meth c H locs 88 8166 (lw_Z below #[Value.ref sb] s) (F0 m 33 ls [.int v]) := by
  have hL6 : L ≤ 6 := by omega
  obtain ⟨hx, hb, hr, hml, hown, hts0, hX, hbl, hlocks, hgv⟩ := id C0
  have hown : s.vm.findClass RL = some m.cls := hown
  have hts : ∀ q ∈ GW, q.before #[Value.ref sb] s = true := fun q h => hts0 q (List.mem_filter.mp h).1
  have hA : ∀ q : Nat, s.heap.size ≤ q → A q := fun q h => by rw [hAe]; exact h
  have hbA : ¬ A sb := by rw [hAe]; exact Nat.not_le.mpr hbl
  have hLT : (Int32.ofNat L).toInt = (L : Int) := nI_toInt (by omega)
  have hLi : (L : Int) = 6 := by omega
  refine lv_tableIn (off := 554) (tgt := 587) hx hb dL_law_33 (by rw [hv]; decide) (by rw [hv]; decide) (by rw [hv]; rfl) (by decide) ?_
  have hP : va_P G vwCl [(h0, oX9 b), (b 1, oX0 bc 0 0 0 0 0 0 0 0 0 0), (h1, oX10 bm 0 0 0 0 0 0 0 0 (-1) 0 0 0 0 0 0 0 0 0), (bm 1, .inl (cI, 149, .inl (fun _ => 0))), (bm 15, .inl (cZ, 80, .inl (fun _ => 0))), (bm 16, .inl (cI, 7, .inl (fun _ => 0))), (bm 21, .inl (cZ, 80, .inl (fun _ => 0))), (bm 24, .inl (cI, 80, .inl (fun _ => 0))), (bm 25, .inl (cI, 6, .inl (fun _ => 0))), (bm 29, .inl (cI, 6, .inl (fun _ => 0))), (bm 30, .inl (cZ, 1040, .inl (fun _ => 0))), (bm 31, .inl (cI, 1040, .inl (fun _ => 0))), (bm 32, .inl (cI, 78, .inl (fun _ => 0))), (bm 27, .inl (cI, 7, .inl (fun _ => 0)))] H := hP.sub [0, 14, 59, 60, 66, 67, 68, 71, 72, 76, 77, 78, 79, 74] rfl
  have hD : va_D A [(h0, oX9 b), (b 1, oX0 bc 0 0 0 0 0 0 0 0 0 0), (h1, oX10 bm 0 0 0 0 0 0 0 0 (-1) 0 0 0 0 0 0 0 0 0), (bm 1, .inl (cI, 149, .inl (fun _ => 0))), (bm 15, .inl (cZ, 80, .inl (fun _ => 0))), (bm 16, .inl (cI, 7, .inl (fun _ => 0))), (bm 21, .inl (cZ, 80, .inl (fun _ => 0))), (bm 24, .inl (cI, 80, .inl (fun _ => 0))), (bm 25, .inl (cI, 6, .inl (fun _ => 0))), (bm 29, .inl (cI, 6, .inl (fun _ => 0))), (bm 30, .inl (cZ, 1040, .inl (fun _ => 0))), (bm 31, .inl (cI, 1040, .inl (fun _ => 0))), (bm 32, .inl (cI, 78, .inl (fun _ => 0))), (bm 27, .inl (cI, 7, .inl (fun _ => 0)))] := hD.sub [0, 14, 59, 60, 66, 67, 68, 71, 72, 76, 77, 78, 79, 74] rfl rfl
  refine lv_aload_n hx hb dL_law_587 rfl (lv_at hl 2 rfl) ?_
  refine lv_aload_n hx hb dL_law_588 rfl (lv_at hl 3 rfl) ?_
  refine lv_iload_n hx hb dL_law_589 rfl (lv_at hl 0 rfl) ?_
  refine lv_iconst (v := 1) hx hb dL_law_590 (by decide) ?_
  refine lv_iadd hx hb dL_law_591 ?_
  refine lv_topi (fun v1 ev1 => ?_)
  obtain rfl : v1 = 1 := ev1.trans (by decide)
  refine va_sld hx hb hX hbl hbA hS (ix_in ki_1 (by omega) (by omega)) dL_law_592 ?_
  refine W.eq (g2 := F0 m 593 ls [.int (xs 1), .ref h0]) rfl ?_
  refine k_i (wc := [(h0, oX9 b), (b 1, oX0 bc 0 0 0 0 0 0 0 0 0 0)]) (wr := [(h1, oX10 bm 0 0 0 0 0 0 0 0 (-1) 0 0 0 0 0 0 0 0 0), (bm 1, .inl (cI, 149, .inl (fun _ => 0))), (bm 15, .inl (cZ, 80, .inl (fun _ => 0))), (bm 16, .inl (cI, 7, .inl (fun _ => 0))), (bm 21, .inl (cZ, 80, .inl (fun _ => 0))), (bm 24, .inl (cI, 80, .inl (fun _ => 0))), (bm 25, .inl (cI, 6, .inl (fun _ => 0))), (bm 29, .inl (cI, 6, .inl (fun _ => 0))), (bm 30, .inl (cZ, 1040, .inl (fun _ => 0))), (bm 31, .inl (cI, 1040, .inl (fun _ => 0))), (bm 32, .inl (cI, 78, .inl (fun _ => 0))), (bm 27, .inl (cI, 7, .inl (fun _ => 0)))]) hP hD hS hA [0, 1] [2, 3, 4, 5, 6, 7, 8, 9, 10, 11, 12, 13] rfl rfl rfl (by decide) (va_runV (As := [.int (xs 1)]) (rest := []) ⟨hx, hb, hml, hown, hts⟩ (f_X9_stands l G cI cJ cZ cB cQ _ h0 b bc (xs 1)) (cwV 1 hts (gV w_695 w_696 w_697 w_1 w_698) rfl rfl rfl ⟨rfl, hd_X9_stands⟩ ⟨Nat.le_of_ble_eq_true rfl, Nat.le_of_ble_eq_true rfl⟩) (mV hK hZ hP hD [0, 1] rfl rfl [.int (xs 1)] 0 9 rfl rfl) rfl rfl hl.1 rfl (lv_room (Nat.le_of_ble_eq_true rfl)) dL_law_593 ⟨Nat.le_of_ble_eq_true rfl, Nat.le_of_ble_eq_true rfl⟩) (fun r2 u3 H locs hw4 hP hD hS => ?_)
  try dsimp only at hw4
  have hP : va_P G vwCl [(h1, oX10 bm 0 0 0 0 0 0 0 0 (-1) 0 0 0 0 0 0 0 0 0), (bm 1, .inl (cI, 149, .inl (fun _ => 0))), (bm 15, .inl (cZ, 80, .inl (fun _ => 0))), (bm 16, .inl (cI, 7, .inl (fun _ => 0))), (bm 21, .inl (cZ, 80, .inl (fun _ => 0))), (bm 24, .inl (cI, 80, .inl (fun _ => 0))), (bm 25, .inl (cI, 6, .inl (fun _ => 0))), (bm 29, .inl (cI, 6, .inl (fun _ => 0))), (bm 30, .inl (cZ, 1040, .inl (fun _ => 0))), (bm 31, .inl (cI, 1040, .inl (fun _ => 0))), (bm 32, .inl (cI, 78, .inl (fun _ => 0))), (bm 27, .inl (cI, 7, .inl (fun _ => 0))), (h0, oX9 b), (b 1, oX0 bc 0 0 0 0 0 0 0 0 0 0)] H := hP
  have hD : va_D A [(h1, oX10 bm 0 0 0 0 0 0 0 0 (-1) 0 0 0 0 0 0 0 0 0), (bm 1, .inl (cI, 149, .inl (fun _ => 0))), (bm 15, .inl (cZ, 80, .inl (fun _ => 0))), (bm 16, .inl (cI, 7, .inl (fun _ => 0))), (bm 21, .inl (cZ, 80, .inl (fun _ => 0))), (bm 24, .inl (cI, 80, .inl (fun _ => 0))), (bm 25, .inl (cI, 6, .inl (fun _ => 0))), (bm 29, .inl (cI, 6, .inl (fun _ => 0))), (bm 30, .inl (cZ, 1040, .inl (fun _ => 0))), (bm 31, .inl (cI, 1040, .inl (fun _ => 0))), (bm 32, .inl (cI, 78, .inl (fun _ => 0))), (bm 27, .inl (cI, 7, .inl (fun _ => 0))), (h0, oX9 b), (b 1, oX0 bc 0 0 0 0 0 0 0 0 0 0)] := hD
  obtain rfl : r2 = (-2) := hw4
  refine lv_aload_n hx hb dL_law_596 rfl (lv_at hl 1 rfl) ?_
  refine lv_aload_n hx hb dL_law_597 rfl (lv_at hl 3 rfl) ?_
  refine lv_iload_n hx hb dL_law_598 rfl (lv_at hl 0 rfl) ?_
  refine lv_iconst (v := 1) hx hb dL_law_599 (by decide) ?_
  refine lv_iadd hx hb dL_law_600 ?_
  refine lv_topi (fun v5 ev5 => ?_)
  obtain rfl : v5 = 1 := ev5.trans (by decide)
  refine va_sld hx hb hX hbl hbA hS (ix_in ki_1 (by omega) (by omega)) dL_law_601 ?_
  refine W.eq (g2 := F0 m 602 ls [.int (xs 1), .ref h1, .int (-2)]) rfl ?_
  refine k_i (wc := [(h1, oX10 bm 0 0 0 0 0 0 0 0 (-1) 0 0 0 0 0 0 0 0 0), (bm 1, .inl (cI, 149, .inl (fun _ => 0))), (bm 15, .inl (cZ, 80, .inl (fun _ => 0))), (bm 16, .inl (cI, 7, .inl (fun _ => 0))), (bm 21, .inl (cZ, 80, .inl (fun _ => 0))), (bm 24, .inl (cI, 80, .inl (fun _ => 0))), (bm 25, .inl (cI, 6, .inl (fun _ => 0))), (bm 29, .inl (cI, 6, .inl (fun _ => 0))), (bm 30, .inl (cZ, 1040, .inl (fun _ => 0))), (bm 31, .inl (cI, 1040, .inl (fun _ => 0))), (bm 32, .inl (cI, 78, .inl (fun _ => 0))), (bm 27, .inl (cI, 7, .inl (fun _ => 0)))]) (wr := [(h0, oX9 b), (b 1, oX0 bc 0 0 0 0 0 0 0 0 0 0)]) hP hD hS hA [0, 1, 2, 3, 4, 5, 6, 7, 8, 9, 10, 11] [12, 13] rfl rfl rfl (by decide) (va_runV (As := [.int (xs 1)]) (rest := [.int (-2)]) ⟨hx, hb, hml, hown, hts⟩ (f_X10_stands l G cI cJ cZ cB cQ _ h1 bm (xs 1)) (cwV 1 hts (gV w_1580 w_1581 w_1582 w_11 w_1583) rfl rfl rfl ⟨rfl, hd_X10_stands⟩ ⟨Nat.le_of_ble_eq_true rfl, Nat.le_of_ble_eq_true rfl⟩) (mV hK hZ hP hD [0, 1, 2, 3, 4, 5, 6, 7, 8, 9, 10, 11] rfl rfl [.int (xs 1)] 0 10 rfl rfl) rfl rfl hl.1 rfl (lv_room (Nat.le_of_ble_eq_true rfl)) dL_law_602 ⟨Nat.le_of_ble_eq_true rfl, Nat.le_of_ble_eq_true rfl⟩) (fun r6 u7 H locs hw8 hP hD hS => ?_)
  obtain ⟨f09, rfl⟩ : ∃ z, z = u7 := ⟨_, rfl⟩
  try dsimp only at hw8
  have hP : va_P G vwCl [(h0, oX9 b), (b 1, oX0 bc 0 0 0 0 0 0 0 0 0 0), (h1, oX10 bm 0 0 0 0 0 0 0 0 (-1) 0 0 (-1) 0 0 0 0 0 0), (bm 1, .inl (cI, 149, .inl (fun _ => 0))), (bm 15, .inl (cZ, 80, .inl (fun _ => 0))), (bm 16, .inl (cI, 7, .inl (fun _ => 0))), (bm 21, .inl (cZ, 80, .inl (fun _ => 0))), (bm 24, .inl (cI, 80, .inl (fun _ => 0))), (bm 25, .inl (cI, 6, .inl (fun _ => 0))), (bm 29, .inl (cI, 6, .inl (fun _ => 0))), (bm 30, .inl (cZ, 1040, .inl (fun _ => 0))), (bm 31, .inl (cI, 1040, .inl (fun _ => 0))), (bm 32, .inl (cI, 78, .inl (fun _ => 0))), (bm 27, .inl (cI, 7, .inl f09))] H := hP
  have hD : va_D A [(h0, oX9 b), (b 1, oX0 bc 0 0 0 0 0 0 0 0 0 0), (h1, oX10 bm 0 0 0 0 0 0 0 0 (-1) 0 0 (-1) 0 0 0 0 0 0), (bm 1, .inl (cI, 149, .inl (fun _ => 0))), (bm 15, .inl (cZ, 80, .inl (fun _ => 0))), (bm 16, .inl (cI, 7, .inl (fun _ => 0))), (bm 21, .inl (cZ, 80, .inl (fun _ => 0))), (bm 24, .inl (cI, 80, .inl (fun _ => 0))), (bm 25, .inl (cI, 6, .inl (fun _ => 0))), (bm 29, .inl (cI, 6, .inl (fun _ => 0))), (bm 30, .inl (cZ, 1040, .inl (fun _ => 0))), (bm 31, .inl (cI, 1040, .inl (fun _ => 0))), (bm 32, .inl (cI, 78, .inl (fun _ => 0))), (bm 27, .inl (cI, 7, .inl f09))] := hD
  obtain rfl : r6 = (-2) := hw8
  refine lv_icmp_eq (tgt := 2226) hx hb dL_law_605 (by decide) (fun c10 => ?_) (fun c10 => absurd (by decide) c10)
  refine lv_iinc (v := 6) (lv' := [(3, .int 6), (2, .ref h1), (1, .ref h0), (0, .ref sb)]) hx hb dL_law_2226 hl (k := 0) rfl (by decide) (by decide) rfl (fun ls hl => ?_)
  refine lv_goto (tgt := 18) hx hb dL_law_2229 (by decide) ?_
  exact law_exit hL6 C0 hAe hS ls (lv_sub hl [3, 0] rfl) (by decide) (by decide)
set_option maxHeartbeats 4000000 in
set_option maxRecDepth 100000 in
theorem law_10 {p : Program} {e : Env} {s : State} {m : MethodId} {below : List Frame} {meth : Method} {c : Code} {l : Launch} {sb L : Nat} {xs : Nat → Int32} {A : Nat → Prop} {G : va_G} {cI cJ cZ cB cQ : ClassId} (h0 : Nat) (b : Nat → Nat) (br : Nat → Nat) (bt : Nat → Nat) (bi : Nat → Nat) (bc : Nat → Nat) (bn : Nat → Nat) (bs : Nat → Nat) (be : Nat → Nat) (bw : Nat → Nat) (h1 : Nat) (bm : Nat → Nat) {H : Heap} {locs : List Loc} (hL : L = 6) (C0 : lw_At p s m meth c sb L xs) (hAe : A = fun q => s.heap.size ≤ q) (hK : va_K G vwCl (TY cI cJ cZ cB cQ) s) (hZ : nz s) (hP : va_P G vwCl (wX cI cJ cZ cB cQ h0 b br bt bi bc bn bs be bw ++ wM cI cJ cZ cB cQ h1 bm) H) (hD : va_D A (wX cI cJ cZ cB cQ h0 b br bt bi bc bn bs be bw ++ wM cI cJ cZ cB cQ h1 bm)) (hS : va_S A s.heap H locs) (ls : Array Slot) (hl : lv_has ls 4 [(3, .int 0), (2, .ref h1), (1, .ref h0), (0, .ref sb)]) (v : Int32) (hv : v.toInt = 10) : W p l e room_1 s m #[Value.ref sb] below meth c H locs 88 8166 (lw_Z below #[Value.ref sb] s) (F0 m 33 ls [.int v]) := by
  have hL6 : L ≤ 6 := by omega
  obtain ⟨hx, hb, hr, hml, hown, hts0, hX, hbl, hlocks, hgv⟩ := id C0
  have hown : s.vm.findClass RL = some m.cls := hown
  have hts : ∀ q ∈ GW, q.before #[Value.ref sb] s = true := fun q h => hts0 q (List.mem_filter.mp h).1
  have hA : ∀ q : Nat, s.heap.size ≤ q → A q := fun q h => by rw [hAe]; exact h
  have hbA : ¬ A sb := by rw [hAe]; exact Nat.not_le.mpr hbl
  have hLT : (Int32.ofNat L).toInt = (L : Int) := nI_toInt (by omega)
  have hLi : (L : Int) = 6 := by omega
  refine lv_tableIn (off := 577) (tgt := 610) hx hb dL_law_33 (by rw [hv]; decide) (by rw [hv]; decide) (by rw [hv]; rfl) (by decide) ?_
  have hP : va_P G vwCl [(h0, oX9 b), (b 1, oX0 bc 0 0 0 0 0 0 0 0 0 0), (h1, oX10 bm 0 0 0 0 0 0 0 0 (-1) 0 0 0 0 0 0 0 0 0), (bm 1, .inl (cI, 149, .inl (fun _ => 0))), (bm 15, .inl (cZ, 80, .inl (fun _ => 0))), (bm 16, .inl (cI, 7, .inl (fun _ => 0))), (bm 21, .inl (cZ, 80, .inl (fun _ => 0))), (bm 24, .inl (cI, 80, .inl (fun _ => 0))), (bm 25, .inl (cI, 6, .inl (fun _ => 0))), (bm 29, .inl (cI, 6, .inl (fun _ => 0))), (bm 30, .inl (cZ, 1040, .inl (fun _ => 0))), (bm 31, .inl (cI, 1040, .inl (fun _ => 0))), (bm 32, .inl (cI, 78, .inl (fun _ => 0))), (bm 27, .inl (cI, 7, .inl (fun _ => 0)))] H := hP.sub [0, 14, 59, 60, 66, 67, 68, 71, 72, 76, 77, 78, 79, 74] rfl
  have hD : va_D A [(h0, oX9 b), (b 1, oX0 bc 0 0 0 0 0 0 0 0 0 0), (h1, oX10 bm 0 0 0 0 0 0 0 0 (-1) 0 0 0 0 0 0 0 0 0), (bm 1, .inl (cI, 149, .inl (fun _ => 0))), (bm 15, .inl (cZ, 80, .inl (fun _ => 0))), (bm 16, .inl (cI, 7, .inl (fun _ => 0))), (bm 21, .inl (cZ, 80, .inl (fun _ => 0))), (bm 24, .inl (cI, 80, .inl (fun _ => 0))), (bm 25, .inl (cI, 6, .inl (fun _ => 0))), (bm 29, .inl (cI, 6, .inl (fun _ => 0))), (bm 30, .inl (cZ, 1040, .inl (fun _ => 0))), (bm 31, .inl (cI, 1040, .inl (fun _ => 0))), (bm 32, .inl (cI, 78, .inl (fun _ => 0))), (bm 27, .inl (cI, 7, .inl (fun _ => 0)))] := hD.sub [0, 14, 59, 60, 66, 67, 68, 71, 72, 76, 77, 78, 79, 74] rfl rfl
  refine lv_aload_n hx hb dL_law_610 rfl (lv_at hl 2 rfl) ?_
  refine lv_aload_n hx hb dL_law_611 rfl (lv_at hl 3 rfl) ?_
  refine lv_iload_n hx hb dL_law_612 rfl (lv_at hl 0 rfl) ?_
  refine lv_iconst (v := 1) hx hb dL_law_613 (by decide) ?_
  refine lv_iadd hx hb dL_law_614 ?_
  refine lv_topi (fun v1 ev1 => ?_)
  obtain rfl : v1 = 1 := ev1.trans (by decide)
  refine va_sld hx hb hX hbl hbA hS (ix_in ki_1 (by omega) (by omega)) dL_law_615 ?_
  refine W.eq (g2 := F0 m 616 ls [.int (xs 1), .ref h0]) rfl ?_
  refine k_i (wc := [(h0, oX9 b), (b 1, oX0 bc 0 0 0 0 0 0 0 0 0 0)]) (wr := [(h1, oX10 bm 0 0 0 0 0 0 0 0 (-1) 0 0 0 0 0 0 0 0 0), (bm 1, .inl (cI, 149, .inl (fun _ => 0))), (bm 15, .inl (cZ, 80, .inl (fun _ => 0))), (bm 16, .inl (cI, 7, .inl (fun _ => 0))), (bm 21, .inl (cZ, 80, .inl (fun _ => 0))), (bm 24, .inl (cI, 80, .inl (fun _ => 0))), (bm 25, .inl (cI, 6, .inl (fun _ => 0))), (bm 29, .inl (cI, 6, .inl (fun _ => 0))), (bm 30, .inl (cZ, 1040, .inl (fun _ => 0))), (bm 31, .inl (cI, 1040, .inl (fun _ => 0))), (bm 32, .inl (cI, 78, .inl (fun _ => 0))), (bm 27, .inl (cI, 7, .inl (fun _ => 0)))]) hP hD hS hA [0, 1] [2, 3, 4, 5, 6, 7, 8, 9, 10, 11, 12, 13] rfl rfl rfl (by decide) (va_runV (As := [.int (xs 1)]) (rest := []) ⟨hx, hb, hml, hown, hts⟩ (f_X9_ground l G cI cJ cZ cB cQ _ h0 b bc (xs 1)) (cwV 1 hts (gV w_703 w_704 w_705 w_1 w_706) rfl rfl rfl ⟨rfl, hd_X9_ground⟩ ⟨Nat.le_of_ble_eq_true rfl, Nat.le_of_ble_eq_true rfl⟩) (mV hK hZ hP hD [0, 1] rfl rfl [.int (xs 1)] 0 9 rfl rfl) rfl rfl hl.1 rfl (lv_room (Nat.le_of_ble_eq_true rfl)) dL_law_616 ⟨Nat.le_of_ble_eq_true rfl, Nat.le_of_ble_eq_true rfl⟩) (fun r2 u3 H locs hw4 hP hD hS => ?_)
  try dsimp only at hw4
  have hP : va_P G vwCl [(h1, oX10 bm 0 0 0 0 0 0 0 0 (-1) 0 0 0 0 0 0 0 0 0), (bm 1, .inl (cI, 149, .inl (fun _ => 0))), (bm 15, .inl (cZ, 80, .inl (fun _ => 0))), (bm 16, .inl (cI, 7, .inl (fun _ => 0))), (bm 21, .inl (cZ, 80, .inl (fun _ => 0))), (bm 24, .inl (cI, 80, .inl (fun _ => 0))), (bm 25, .inl (cI, 6, .inl (fun _ => 0))), (bm 29, .inl (cI, 6, .inl (fun _ => 0))), (bm 30, .inl (cZ, 1040, .inl (fun _ => 0))), (bm 31, .inl (cI, 1040, .inl (fun _ => 0))), (bm 32, .inl (cI, 78, .inl (fun _ => 0))), (bm 27, .inl (cI, 7, .inl (fun _ => 0))), (h0, oX9 b), (b 1, oX0 bc 0 0 0 0 0 0 0 0 0 0)] H := hP
  have hD : va_D A [(h1, oX10 bm 0 0 0 0 0 0 0 0 (-1) 0 0 0 0 0 0 0 0 0), (bm 1, .inl (cI, 149, .inl (fun _ => 0))), (bm 15, .inl (cZ, 80, .inl (fun _ => 0))), (bm 16, .inl (cI, 7, .inl (fun _ => 0))), (bm 21, .inl (cZ, 80, .inl (fun _ => 0))), (bm 24, .inl (cI, 80, .inl (fun _ => 0))), (bm 25, .inl (cI, 6, .inl (fun _ => 0))), (bm 29, .inl (cI, 6, .inl (fun _ => 0))), (bm 30, .inl (cZ, 1040, .inl (fun _ => 0))), (bm 31, .inl (cI, 1040, .inl (fun _ => 0))), (bm 32, .inl (cI, 78, .inl (fun _ => 0))), (bm 27, .inl (cI, 7, .inl (fun _ => 0))), (h0, oX9 b), (b 1, oX0 bc 0 0 0 0 0 0 0 0 0 0)] := hD
  obtain rfl : r2 = (-2) := hw4
  refine lv_aload_n hx hb dL_law_619 rfl (lv_at hl 1 rfl) ?_
  refine lv_aload_n hx hb dL_law_620 rfl (lv_at hl 3 rfl) ?_
  refine lv_iload_n hx hb dL_law_621 rfl (lv_at hl 0 rfl) ?_
  refine lv_iconst (v := 1) hx hb dL_law_622 (by decide) ?_
  refine lv_iadd hx hb dL_law_623 ?_
  refine lv_topi (fun v5 ev5 => ?_)
  obtain rfl : v5 = 1 := ev5.trans (by decide)
  refine va_sld hx hb hX hbl hbA hS (ix_in ki_1 (by omega) (by omega)) dL_law_624 ?_
  refine W.eq (g2 := F0 m 625 ls [.int (xs 1), .ref h1, .int (-2)]) rfl ?_
  refine k_i (wc := [(h1, oX10 bm 0 0 0 0 0 0 0 0 (-1) 0 0 0 0 0 0 0 0 0), (bm 1, .inl (cI, 149, .inl (fun _ => 0))), (bm 15, .inl (cZ, 80, .inl (fun _ => 0))), (bm 16, .inl (cI, 7, .inl (fun _ => 0))), (bm 21, .inl (cZ, 80, .inl (fun _ => 0))), (bm 24, .inl (cI, 80, .inl (fun _ => 0))), (bm 25, .inl (cI, 6, .inl (fun _ => 0))), (bm 29, .inl (cI, 6, .inl (fun _ => 0))), (bm 30, .inl (cZ, 1040, .inl (fun _ => 0))), (bm 31, .inl (cI, 1040, .inl (fun _ => 0))), (bm 32, .inl (cI, 78, .inl (fun _ => 0))), (bm 27, .inl (cI, 7, .inl (fun _ => 0)))]) (wr := [(h0, oX9 b), (b 1, oX0 bc 0 0 0 0 0 0 0 0 0 0)]) hP hD hS hA [0, 1, 2, 3, 4, 5, 6, 7, 8, 9, 10, 11] [12, 13] rfl rfl rfl (by decide) (va_runV (As := [.int (xs 1)]) (rest := [.int (-2)]) ⟨hx, hb, hml, hown, hts⟩ (f_X10_ground l G cI cJ cZ cB cQ _ h1 bm (xs 1)) (cwV 1 hts (gV w_1588 w_1589 w_1590 w_11 w_1591) rfl rfl rfl ⟨rfl, hd_X10_ground⟩ ⟨Nat.le_of_ble_eq_true rfl, Nat.le_of_ble_eq_true rfl⟩) (mV hK hZ hP hD [0, 1, 2, 3, 4, 5, 6, 7, 8, 9, 10, 11] rfl rfl [.int (xs 1)] 0 10 rfl rfl) rfl rfl hl.1 rfl (lv_room (Nat.le_of_ble_eq_true rfl)) dL_law_625 ⟨Nat.le_of_ble_eq_true rfl, Nat.le_of_ble_eq_true rfl⟩) (fun r6 u7 H locs hw8 hP hD hS => ?_)
  obtain ⟨f09, rfl⟩ : ∃ z, z = u7 := ⟨_, rfl⟩
  try dsimp only at hw8
  have hP : va_P G vwCl [(h0, oX9 b), (b 1, oX0 bc 0 0 0 0 0 0 0 0 0 0), (h1, oX10 bm 0 0 0 0 0 0 0 0 (-1) 0 0 (-1) 0 0 0 0 0 0), (bm 1, .inl (cI, 149, .inl (fun _ => 0))), (bm 15, .inl (cZ, 80, .inl (fun _ => 0))), (bm 16, .inl (cI, 7, .inl (fun _ => 0))), (bm 21, .inl (cZ, 80, .inl (fun _ => 0))), (bm 24, .inl (cI, 80, .inl (fun _ => 0))), (bm 25, .inl (cI, 6, .inl (fun _ => 0))), (bm 29, .inl (cI, 6, .inl (fun _ => 0))), (bm 30, .inl (cZ, 1040, .inl (fun _ => 0))), (bm 31, .inl (cI, 1040, .inl (fun _ => 0))), (bm 32, .inl (cI, 78, .inl (fun _ => 0))), (bm 27, .inl (cI, 7, .inl f09))] H := hP
  have hD : va_D A [(h0, oX9 b), (b 1, oX0 bc 0 0 0 0 0 0 0 0 0 0), (h1, oX10 bm 0 0 0 0 0 0 0 0 (-1) 0 0 (-1) 0 0 0 0 0 0), (bm 1, .inl (cI, 149, .inl (fun _ => 0))), (bm 15, .inl (cZ, 80, .inl (fun _ => 0))), (bm 16, .inl (cI, 7, .inl (fun _ => 0))), (bm 21, .inl (cZ, 80, .inl (fun _ => 0))), (bm 24, .inl (cI, 80, .inl (fun _ => 0))), (bm 25, .inl (cI, 6, .inl (fun _ => 0))), (bm 29, .inl (cI, 6, .inl (fun _ => 0))), (bm 30, .inl (cZ, 1040, .inl (fun _ => 0))), (bm 31, .inl (cI, 1040, .inl (fun _ => 0))), (bm 32, .inl (cI, 78, .inl (fun _ => 0))), (bm 27, .inl (cI, 7, .inl f09))] := hD
  obtain rfl : r6 = (-2) := hw8
  refine lv_icmp_eq (tgt := 2226) hx hb dL_law_628 (by decide) (fun c10 => ?_) (fun c10 => absurd (by decide) c10)
  refine lv_iinc (v := 6) (lv' := [(3, .int 6), (2, .ref h1), (1, .ref h0), (0, .ref sb)]) hx hb dL_law_2226 hl (k := 0) rfl (by decide) (by decide) rfl (fun ls hl => ?_)
  refine lv_goto (tgt := 18) hx hb dL_law_2229 (by decide) ?_
  exact law_exit hL6 C0 hAe hS ls (lv_sub hl [3, 0] rfl) (by decide) (by decide)
