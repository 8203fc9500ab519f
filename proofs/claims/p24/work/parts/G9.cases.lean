theorem dL_law_311 : decode cL_law 311 = .ok (.aload_n 1, 1) := by decide +kernel
theorem dL_law_312 : decode cL_law 312 = .ok (.invokevirtual 29, 3) := by decide +kernel
theorem dL_law_315 : decode cL_law 315 = .ok (.pop, 1) := by decide +kernel
theorem dL_law_316 : decode cL_law 316 = .ok (.aload_n 2, 1) := by decide +kernel
theorem dL_law_317 : decode cL_law 317 = .ok (.invokevirtual 33, 3) := by decide +kernel
theorem dL_law_320 : decode cL_law 320 = .ok (.pop, 1) := by decide +kernel
theorem dL_law_321 : decode cL_law 321 = .ok (.goto 698, 3) := by decide +kernel
theorem dL_law_361 : decode cL_law 361 = .ok (.aload_n 1, 1) := by decide +kernel
theorem dL_law_362 : decode cL_law 362 = .ok (.aload_n 0, 1) := by decide +kernel
theorem dL_law_363 : decode cL_law 363 = .ok (.iload 4, 2) := by decide +kernel
theorem dL_law_365 : decode cL_law 365 = .ok (.iconst 1, 1) := by decide +kernel
theorem dL_law_366 : decode cL_law 366 = .ok (.iadd, 1) := by decide +kernel
theorem dL_law_367 : decode cL_law 367 = .ok (.iaload, 1) := by decide +kernel
theorem dL_law_368 : decode cL_law 368 = .ok (.aload_n 0, 1) := by decide +kernel
theorem dL_law_369 : decode cL_law 369 = .ok (.iload 4, 2) := by decide +kernel
theorem dL_law_371 : decode cL_law 371 = .ok (.iconst 2, 1) := by decide +kernel
theorem dL_law_372 : decode cL_law 372 = .ok (.iadd, 1) := by decide +kernel
theorem dL_law_373 : decode cL_law 373 = .ok (.iaload, 1) := by decide +kernel
theorem dL_law_374 : decode cL_law 374 = .ok (.invokevirtual 39, 3) := by decide +kernel
theorem dL_law_377 : decode cL_law 377 = .ok (.pop, 1) := by decide +kernel
theorem dL_law_378 : decode cL_law 378 = .ok (.aload_n 2, 1) := by decide +kernel
theorem dL_law_379 : decode cL_law 379 = .ok (.aload_n 0, 1) := by decide +kernel
theorem dL_law_380 : decode cL_law 380 = .ok (.iload 4, 2) := by decide +kernel
theorem dL_law_382 : decode cL_law 382 = .ok (.iconst 1, 1) := by decide +kernel
theorem dL_law_383 : decode cL_law 383 = .ok (.iadd, 1) := by decide +kernel
theorem dL_law_384 : decode cL_law 384 = .ok (.iaload, 1) := by decide +kernel
theorem dL_law_385 : decode cL_law 385 = .ok (.aload_n 0, 1) := by decide +kernel
theorem dL_law_386 : decode cL_law 386 = .ok (.iload 4, 2) := by decide +kernel
theorem dL_law_388 : decode cL_law 388 = .ok (.iconst 2, 1) := by decide +kernel
theorem dL_law_389 : decode cL_law 389 = .ok (.iadd, 1) := by decide +kernel
theorem dL_law_390 : decode cL_law 390 = .ok (.iaload, 1) := by decide +kernel
theorem dL_law_391 : decode cL_law 391 = .ok (.invokevirtual 42, 3) := by decide +kernel
theorem dL_law_394 : decode cL_law 394 = .ok (.pop, 1) := by decide +kernel
theorem dL_law_395 : decode cL_law 395 = .ok (.goto 624, 3) := by decide +kernel
theorem dL_law_398 : decode cL_law 398 = .ok (.aload_n 1, 1) := by decide +kernel
theorem dL_law_399 : decode cL_law 399 = .ok (.aload_n 0, 1) := by decide +kernel
theorem dL_law_400 : decode cL_law 400 = .ok (.iload 4, 2) := by decide +kernel
theorem dL_law_402 : decode cL_law 402 = .ok (.iconst 1, 1) := by decide +kernel
theorem dL_law_403 : decode cL_law 403 = .ok (.iadd, 1) := by decide +kernel
theorem dL_law_404 : decode cL_law 404 = .ok (.iaload, 1) := by decide +kernel
theorem dL_law_405 : decode cL_law 405 = .ok (.aload_n 0, 1) := by decide +kernel
theorem dL_law_406 : decode cL_law 406 = .ok (.iload 4, 2) := by decide +kernel
theorem dL_law_408 : decode cL_law 408 = .ok (.iconst 2, 1) := by decide +kernel
theorem dL_law_409 : decode cL_law 409 = .ok (.iadd, 1) := by decide +kernel
theorem dL_law_410 : decode cL_law 410 = .ok (.iaload, 1) := by decide +kernel
theorem dL_law_411 : decode cL_law 411 = .ok (.aload_n 0, 1) := by decide +kernel
theorem dL_law_412 : decode cL_law 412 = .ok (.iload 4, 2) := by decide +kernel
theorem dL_law_414 : decode cL_law 414 = .ok (.iconst 3, 1) := by decide +kernel
theorem dL_law_415 : decode cL_law 415 = .ok (.iadd, 1) := by decide +kernel
theorem dL_law_416 : decode cL_law 416 = .ok (.iaload, 1) := by decide +kernel
theorem dL_law_417 : decode cL_law 417 = .ok (.invokevirtual 43, 3) := by decide +kernel
theorem dL_law_420 : decode cL_law 420 = .ok (.pop, 1) := by decide +kernel
theorem dL_law_421 : decode cL_law 421 = .ok (.aload_n 2, 1) := by decide +kernel
theorem dL_law_422 : decode cL_law 422 = .ok (.aload_n 0, 1) := by decide +kernel
theorem dL_law_423 : decode cL_law 423 = .ok (.iload 4, 2) := by decide +kernel
theorem dL_law_425 : decode cL_law 425 = .ok (.iconst 1, 1) := by decide +kernel
theorem dL_law_426 : decode cL_law 426 = .ok (.iadd, 1) := by decide +kernel
theorem dL_law_427 : decode cL_law 427 = .ok (.iaload, 1) := by decide +kernel
theorem dL_law_428 : decode cL_law 428 = .ok (.aload_n 0, 1) := by decide +kernel
theorem dL_law_429 : decode cL_law 429 = .ok (.iload 4, 2) := by decide +kernel
theorem dL_law_431 : decode cL_law 431 = .ok (.iconst 2, 1) := by decide +kernel
theorem dL_law_432 : decode cL_law 432 = .ok (.iadd, 1) := by decide +kernel
theorem dL_law_433 : decode cL_law 433 = .ok (.iaload, 1) := by decide +kernel
theorem dL_law_434 : decode cL_law 434 = .ok (.aload_n 0, 1) := by decide +kernel
theorem dL_law_435 : decode cL_law 435 = .ok (.iload 4, 2) := by decide +kernel
theorem dL_law_437 : decode cL_law 437 = .ok (.iconst 3, 1) := by decide +kernel
theorem dL_law_438 : decode cL_law 438 = .ok (.iadd, 1) := by decide +kernel
theorem dL_law_439 : decode cL_law 439 = .ok (.iaload, 1) := by decide +kernel
theorem dL_law_440 : decode cL_law 440 = .ok (.invokevirtual 47, 3) := by decide +kernel
theorem dL_law_443 : decode cL_law 443 = .ok (.pop, 1) := by decide +kernel
theorem dL_law_444 : decode cL_law 444 = .ok (.goto 575, 3) := by decide +kernel
theorem dL_law_447 : decode cL_law 447 = .ok (.aload_n 1, 1) := by decide +kernel
theorem dL_law_448 : decode cL_law 448 = .ok (.invokevirtual 48, 3) := by decide +kernel
theorem dL_law_451 : decode cL_law 451 = .ok (.pop, 1) := by decide +kernel
theorem dL_law_452 : decode cL_law 452 = .ok (.aload_n 2, 1) := by decide +kernel
theorem dL_law_453 : decode cL_law 453 = .ok (.invokevirtual 51, 3) := by decide +kernel
theorem dL_law_456 : decode cL_law 456 = .ok (.pop, 1) := by decide +kernel
theorem dL_law_457 : decode cL_law 457 = .ok (.goto 562, 3) := by decide +kernel
theorem dL_law_460 : decode cL_law 460 = .ok (.aload_n 1, 1) := by decide +kernel
theorem dL_law_461 : decode cL_law 461 = .ok (.invokevirtual 52, 3) := by decide +kernel
theorem dL_law_464 : decode cL_law 464 = .ok (.pop, 1) := by decide +kernel
theorem dL_law_465 : decode cL_law 465 = .ok (.aload_n 2, 1) := by decide +kernel
theorem dL_law_466 : decode cL_law 466 = .ok (.invokevirtual 55, 3) := by decide +kernel
theorem dL_law_469 : decode cL_law 469 = .ok (.pop, 1) := by decide +kernel
theorem dL_law_470 : decode cL_law 470 = .ok (.goto 549, 3) := by decide +kernel
theorem dL_law_473 : decode cL_law 473 = .ok (.aload_n 1, 1) := by decide +kernel
theorem dL_law_474 : decode cL_law 474 = .ok (.aload_n 0, 1) := by decide +kernel
theorem dL_law_475 : decode cL_law 475 = .ok (.iload 4, 2) := by decide +kernel
theorem dL_law_477 : decode cL_law 477 = .ok (.iconst 1, 1) := by decide +kernel
theorem dL_law_478 : decode cL_law 478 = .ok (.iadd, 1) := by decide +kernel
theorem dL_law_479 : decode cL_law 479 = .ok (.iaload, 1) := by decide +kernel
theorem dL_law_480 : decode cL_law 480 = .ok (.aload_n 0, 1) := by decide +kernel
theorem dL_law_481 : decode cL_law 481 = .ok (.iload 4, 2) := by decide +kernel
theorem dL_law_483 : decode cL_law 483 = .ok (.iconst 2, 1) := by decide +kernel
theorem dL_law_484 : decode cL_law 484 = .ok (.iadd, 1) := by decide +kernel
theorem dL_law_485 : decode cL_law 485 = .ok (.iaload, 1) := by decide +kernel
theorem dL_law_486 : decode cL_law 486 = .ok (.invokevirtual 56, 3) := by decide +kernel
theorem dL_law_489 : decode cL_law 489 = .ok (.pop, 1) := by decide +kernel
theorem dL_law_490 : decode cL_law 490 = .ok (.aload_n 2, 1) := by decide +kernel
theorem dL_law_491 : decode cL_law 491 = .ok (.aload_n 0, 1) := by decide +kernel
theorem dL_law_492 : decode cL_law 492 = .ok (.iload 4, 2) := by decide +kernel
theorem dL_law_494 : decode cL_law 494 = .ok (.iconst 1, 1) := by decide +kernel
theorem dL_law_495 : decode cL_law 495 = .ok (.iadd, 1) := by decide +kernel
theorem dL_law_496 : decode cL_law 496 = .ok (.iaload, 1) := by decide +kernel
theorem dL_law_497 : decode cL_law 497 = .ok (.aload_n 0, 1) := by decide +kernel
theorem dL_law_498 : decode cL_law 498 = .ok (.iload 4, 2) := by decide +kernel
theorem dL_law_500 : decode cL_law 500 = .ok (.iconst 2, 1) := by decide +kernel
theorem dL_law_501 : decode cL_law 501 = .ok (.iadd, 1) := by decide +kernel
theorem dL_law_502 : decode cL_law 502 = .ok (.iaload, 1) := by decide +kernel
theorem dL_law_503 : decode cL_law 503 = .ok (.invokevirtual 59, 3) := by decide +kernel
theorem dL_law_506 : decode cL_law 506 = .ok (.pop, 1) := by decide +kernel
theorem dL_law_507 : decode cL_law 507 = .ok (.goto 512, 3) := by decide +kernel
theorem dL_law_510 : decode cL_law 510 = .ok (.aload_n 1, 1) := by decide +kernel
theorem dL_law_511 : decode cL_law 511 = .ok (.aload_n 0, 1) := by decide +kernel
theorem dL_law_512 : decode cL_law 512 = .ok (.iload 4, 2) := by decide +kernel
theorem dL_law_514 : decode cL_law 514 = .ok (.iconst 1, 1) := by decide +kernel
theorem dL_law_515 : decode cL_law 515 = .ok (.iadd, 1) := by decide +kernel
theorem dL_law_516 : decode cL_law 516 = .ok (.iaload, 1) := by decide +kernel
theorem dL_law_517 : decode cL_law 517 = .ok (.invokevirtual 60, 3) := by decide +kernel
theorem dL_law_520 : decode cL_law 520 = .ok (.pop, 1) := by decide +kernel
theorem dL_law_521 : decode cL_law 521 = .ok (.aload_n 2, 1) := by decide +kernel
theorem dL_law_522 : decode cL_law 522 = .ok (.aload_n 0, 1) := by decide +kernel
theorem dL_law_523 : decode cL_law 523 = .ok (.iload 4, 2) := by decide +kernel
theorem dL_law_525 : decode cL_law 525 = .ok (.iconst 1, 1) := by decide +kernel
theorem dL_law_526 : decode cL_law 526 = .ok (.iadd, 1) := by decide +kernel
theorem dL_law_527 : decode cL_law 527 = .ok (.iaload, 1) := by decide +kernel
theorem dL_law_528 : decode cL_law 528 = .ok (.invokevirtual 64, 3) := by decide +kernel
theorem dL_law_531 : decode cL_law 531 = .ok (.pop, 1) := by decide +kernel
theorem dL_law_532 : decode cL_law 532 = .ok (.goto 487, 3) := by decide +kernel
theorem dL_law_535 : decode cL_law 535 = .ok (.aload_n 1, 1) := by decide +kernel
theorem dL_law_536 : decode cL_law 536 = .ok (.aload_n 0, 1) := by decide +kernel
theorem dL_law_537 : decode cL_law 537 = .ok (.iload 4, 2) := by decide +kernel
theorem dL_law_539 : decode cL_law 539 = .ok (.iconst 1, 1) := by decide +kernel
theorem dL_law_540 : decode cL_law 540 = .ok (.iadd, 1) := by decide +kernel
theorem dL_law_541 : decode cL_law 541 = .ok (.iaload, 1) := by decide +kernel
theorem dL_law_542 : decode cL_law 542 = .ok (.invokevirtual 65, 3) := by decide +kernel
theorem dL_law_545 : decode cL_law 545 = .ok (.pop, 1) := by decide +kernel
theorem dL_law_546 : decode cL_law 546 = .ok (.aload_n 2, 1) := by decide +kernel
theorem dL_law_547 : decode cL_law 547 = .ok (.aload_n 0, 1) := by decide +kernel
theorem dL_law_548 : decode cL_law 548 = .ok (.iload 4, 2) := by decide +kernel
theorem dL_law_550 : decode cL_law 550 = .ok (.iconst 1, 1) := by decide +kernel
theorem dL_law_551 : decode cL_law 551 = .ok (.iadd, 1) := by decide +kernel
theorem dL_law_552 : decode cL_law 552 = .ok (.iaload, 1) := by decide +kernel
theorem dL_law_553 : decode cL_law 553 = .ok (.invokevirtual 68, 3) := by decide +kernel
theorem dL_law_556 : decode cL_law 556 = .ok (.pop, 1) := by decide +kernel
theorem dL_law_557 : decode cL_law 557 = .ok (.goto 462, 3) := by decide +kernel
theorem dL_law_560 : decode cL_law 560 = .ok (.aload_n 1, 1) := by decide +kernel
theorem dL_law_561 : decode cL_law 561 = .ok (.aload_n 0, 1) := by decide +kernel
theorem dL_law_562 : decode cL_law 562 = .ok (.iload 4, 2) := by decide +kernel
theorem dL_law_564 : decode cL_law 564 = .ok (.iconst 1, 1) := by decide +kernel
theorem dL_law_565 : decode cL_law 565 = .ok (.iadd, 1) := by decide +kernel
theorem dL_law_566 : decode cL_law 566 = .ok (.iaload, 1) := by decide +kernel
theorem dL_law_567 : decode cL_law 567 = .ok (.invokevirtual 69, 3) := by decide +kernel
theorem dL_law_570 : decode cL_law 570 = .ok (.pop, 1) := by decide +kernel
theorem dL_law_571 : decode cL_law 571 = .ok (.aload_n 2, 1) := by decide +kernel
theorem dL_law_572 : decode cL_law 572 = .ok (.aload_n 0, 1) := by decide +kernel
theorem dL_law_573 : decode cL_law 573 = .ok (.iload 4, 2) := by decide +kernel
theorem dL_law_575 : decode cL_law 575 = .ok (.iconst 1, 1) := by decide +kernel
theorem dL_law_576 : decode cL_law 576 = .ok (.iadd, 1) := by decide +kernel
theorem dL_law_577 : decode cL_law 577 = .ok (.iaload, 1) := by decide +kernel
theorem dL_law_578 : decode cL_law 578 = .ok (.invokevirtual 72, 3) := by decide +kernel
theorem dL_law_581 : decode cL_law 581 = .ok (.pop, 1) := by decide +kernel
theorem dL_law_582 : decode cL_law 582 = .ok (.goto 437, 3) := by decide +kernel
theorem dL_law_585 : decode cL_law 585 = .ok (.aload_n 1, 1) := by decide +kernel
theorem dL_law_586 : decode cL_law 586 = .ok (.aload_n 0, 1) := by decide +kernel
theorem dL_law_587 : decode cL_law 587 = .ok (.iload 4, 2) := by decide +kernel
theorem dL_law_589 : decode cL_law 589 = .ok (.iconst 1, 1) := by decide +kernel
theorem dL_law_590 : decode cL_law 590 = .ok (.iadd, 1) := by decide +kernel
theorem dL_law_591 : decode cL_law 591 = .ok (.iaload, 1) := by decide +kernel
theorem dL_law_592 : decode cL_law 592 = .ok (.aload_n 3, 1) := by decide +kernel
theorem dL_law_593 : decode cL_law 593 = .ok (.invokestatic 73, 3) := by decide +kernel
theorem dL_law_596 : decode cL_law 596 = .ok (.istore 5, 2) := by decide +kernel
theorem dL_law_598 : decode cL_law 598 = .ok (.aload_n 2, 1) := by decide +kernel
theorem dL_law_599 : decode cL_law 599 = .ok (.aload_n 0, 1) := by decide +kernel
theorem dL_law_600 : decode cL_law 600 = .ok (.iload 4, 2) := by decide +kernel
theorem dL_law_602 : decode cL_law 602 = .ok (.iconst 1, 1) := by decide +kernel
theorem dL_law_603 : decode cL_law 603 = .ok (.iadd, 1) := by decide +kernel
theorem dL_law_604 : decode cL_law 604 = .ok (.iaload, 1) := by decide +kernel
theorem dL_law_605 : decode cL_law 605 = .ok (.invokevirtual 78, 3) := by decide +kernel
theorem dL_law_608 : decode cL_law 608 = .ok (.istore 6, 2) := by decide +kernel
theorem dL_law_610 : decode cL_law 610 = .ok (.goto 409, 3) := by decide +kernel
theorem dL_law_613 : decode cL_law 613 = .ok (.aload_n 1, 1) := by decide +kernel
theorem dL_law_614 : decode cL_law 614 = .ok (.aload_n 0, 1) := by decide +kernel
theorem dL_law_615 : decode cL_law 615 = .ok (.iload 4, 2) := by decide +kernel
theorem dL_law_617 : decode cL_law 617 = .ok (.iconst 1, 1) := by decide +kernel
theorem dL_law_618 : decode cL_law 618 = .ok (.iadd, 1) := by decide +kernel
theorem dL_law_619 : decode cL_law 619 = .ok (.iaload, 1) := by decide +kernel
theorem dL_law_620 : decode cL_law 620 = .ok (.aload_n 3, 1) := by decide +kernel
theorem dL_law_621 : decode cL_law 621 = .ok (.invokestatic 79, 3) := by decide +kernel
theorem dL_law_624 : decode cL_law 624 = .ok (.istore 5, 2) := by decide +kernel
theorem dL_law_626 : decode cL_law 626 = .ok (.aload_n 2, 1) := by decide +kernel
theorem dL_law_627 : decode cL_law 627 = .ok (.aload_n 0, 1) := by decide +kernel
theorem dL_law_628 : decode cL_law 628 = .ok (.iload 4, 2) := by decide +kernel
theorem dL_law_630 : decode cL_law 630 = .ok (.iconst 1, 1) := by decide +kernel
theorem dL_law_631 : decode cL_law 631 = .ok (.iadd, 1) := by decide +kernel
theorem dL_law_632 : decode cL_law 632 = .ok (.iaload, 1) := by decide +kernel
theorem dL_law_633 : decode cL_law 633 = .ok (.invokevirtual 81, 3) := by decide +kernel
theorem dL_law_636 : decode cL_law 636 = .ok (.istore 6, 2) := by decide +kernel
theorem dL_law_638 : decode cL_law 638 = .ok (.goto 381, 3) := by decide +kernel
theorem dL_law_641 : decode cL_law 641 = .ok (.aload_n 1, 1) := by decide +kernel
theorem dL_law_642 : decode cL_law 642 = .ok (.invokevirtual 82, 3) := by decide +kernel
theorem dL_law_645 : decode cL_law 645 = .ok (.pop, 1) := by decide +kernel
theorem dL_law_646 : decode cL_law 646 = .ok (.aload_n 2, 1) := by decide +kernel
theorem dL_law_647 : decode cL_law 647 = .ok (.invokevirtual 86, 3) := by decide +kernel
theorem dL_law_650 : decode cL_law 650 = .ok (.pop, 1) := by decide +kernel
theorem dL_law_651 : decode cL_law 651 = .ok (.goto 368, 3) := by decide +kernel
section NL
variable {D : va_G} {A : Nat → Prop} {H : Heap} {U C : va_W}
theorem lk_nl (h : va_P D vwCl (U ++ C) H) : va_P D vwCl (U ++ (C ++ [])) H := by rw [List.append_nil]; exact h
theorem lk_nlD (h : va_D A (U ++ C)) : va_D A (U ++ (C ++ [])) := by rw [List.append_nil]; exact h
theorem lk_ln (h : va_P D vwCl (U ++ (C ++ [])) H) : va_P D vwCl (U ++ C) H := by rw [List.append_nil] at h; exact h
theorem lk_lnD (h : va_D A (U ++ (C ++ []))) : va_D A (U ++ C) := by rw [List.append_nil] at h; exact h
end NL
set_option maxHeartbeats 4000000 in
set_option maxRecDepth 100000 in
theorem lk_1 {p : Program} {e : Env} {s : State} {m : MethodId} {below : List Frame} {meth : Method} {c : Code} (l : Launch) {b L : Nat} {xs : Nat → Int32} (C0 : lw_At p s m meth c b L xs) {A : Nat → Prop} (hAe : A = fun q => s.heap.size ≤ q) {D : va_G} {ak : Nat → ClassId} {ad : Nat → Nat} (hl0 : l.stackTraces = false) (hE : EV D ak s) (hT : ST D ak ad A s s.heap) (hXE : XE A s s.heap) {o0 m0 x0 : Nat} {i : Int32} {k cells slots : Nat} (hi : i = nI k) (hk : k + 7 ≤ L) (hL : L ≤ 3584) (hc : cells + 15 ≤ room_1.cells) (hs : slots + 1133 ≤ room_1.slots) (kk : LGo p l e s m b below meth c D ak ad A o0 m0 x0 i 1019 (cells + 15) (slots + 1133)) : LGo p l e s m b below meth c D ak ad A o0 m0 x0 i 311 cells slots := by
  obtain ⟨hx, hb, hr, hml, hown, hts, hX, hbl, hlocks, hgv⟩ := id C0
  have hown : s.vm.findClass RL = some m.cls := hown
  have hA : ∀ q : Nat, s.heap.size ≤ q → A q := fun q h => by rw [hAe]; exact h
  have hbA : ¬ A b := by rw [hAe]; exact Nat.not_le.mpr hbl
  intro v LX LM fo H locs ls hI hJ hP hD hS hl
  refine lv_aload_n hx hb dL_law_311 rfl (lv_at hl 3 rfl) ?_
  obtain ⟨q1, hh1⟩ := hI.head
  refine lc_i (U := LM) (C := LX) (V := [(o0, .inl (ak 1, 1, .inr (.inl fo)))]) hP hD hS hA (va_runV (As := []) (rest := []) ⟨hx, hb, hml, hown, hts⟩ (x_programme l D ak ad _ x0 v LX  hI) (cwV 0 hts hG_X7_programme rfl rfl rfl hv_X7_programme ⟨Nat.le_of_ble_eq_true rfl, Nat.le_of_ble_eq_true rfl⟩) (lc_preV (U := LM) (C := LX) (V := [(o0, .inl (ak 1, 1, .inr (.inl fo)))]) (As := []) hE hT hP hD hS hA 0 6 rfl rfl hh1) rfl rfl hl.1 rfl (lv_room (Nat.le_of_ble_eq_true rfl)) dL_law_312 ⟨by omega, by omega⟩) (fun r1 LX H locs hR hP hD hS => ?_)
  obtain ⟨er1, hI⟩ := hR
  refine lv_pop hx hb dL_law_315 rfl ?_
  refine lv_aload_n hx hb dL_law_316 rfl (lv_at hl 2 rfl) ?_
  obtain ⟨q2, hh2⟩ := hJ.head
  refine lc_i (U := []) (C := LM) (V := LX ++ [(o0, .inl (ak 1, 1, .inr (.inl fo)))]) hP hD hS hA (va_runV (As := []) (rest := []) ⟨hx, hb, hml, hown, hts⟩ (m_programme l D ak ad _ m0 v LM  hJ) (cwV 0 hts hG_X8_programme rfl rfl rfl hv_X8_programme ⟨Nat.le_of_ble_eq_true rfl, Nat.le_of_ble_eq_true rfl⟩) (lc_preV (U := []) (C := LM) (V := LX ++ [(o0, .inl (ak 1, 1, .inr (.inl fo)))]) (As := []) hE hT hP hD hS hA 0 7 rfl rfl hh2) rfl rfl hl.1 rfl (lv_room (Nat.le_of_ble_eq_true rfl)) dL_law_317 ⟨by omega, by omega⟩) (fun r2 LM H locs hR hP hD hS => ?_)
  obtain ⟨er2, hJ⟩ := hR
  have hP : va_P D vwCl (LM ++ (LX ++ [(o0, .inl (ak 1, 1, .inr (.inl fo)))])) H := hP
  have hD : va_D A (LM ++ (LX ++ [(o0, .inl (ak 1, 1, .inr (.inl fo)))])) := hD
  refine lv_pop hx hb dL_law_320 rfl ?_
  refine lv_goto (tgt := 1019) hx hb dL_law_321 (by decide) ?_
  refine W.widen (k := cells + 15) (n := slots + 1133) (by omega) (by omega) ?_
  exact kk _ LX LM fo H locs ls hI hJ hP hD hS (lv_sub hl [0, 1, 2, 3, 4] rfl)
set_option maxHeartbeats 4000000 in
set_option maxRecDepth 100000 in
theorem lk_3 {p : Program} {e : Env} {s : State} {m : MethodId} {below : List Frame} {meth : Method} {c : Code} (l : Launch) {b L : Nat} {xs : Nat → Int32} (C0 : lw_At p s m meth c b L xs) {A : Nat → Prop} (hAe : A = fun q => s.heap.size ≤ q) {D : va_G} {ak : Nat → ClassId} {ad : Nat → Nat} (hl0 : l.stackTraces = false) (hE : EV D ak s) (hT : ST D ak ad A s s.heap) (hXE : XE A s s.heap) {o0 m0 x0 : Nat} {i : Int32} {k cells slots : Nat} (hi : i = nI k) (hk : k + 7 ≤ L) (hL : L ≤ 3584) (hc : cells + 15 ≤ room_1.cells) (hs : slots + 1133 ≤ room_1.slots) (kk : LGo p l e s m b below meth c D ak ad A o0 m0 x0 i 1019 (cells + 15) (slots + 1133)) : LGo p l e s m b below meth c D ak ad A o0 m0 x0 i 361 cells slots := by
  obtain ⟨hx, hb, hr, hml, hown, hts, hX, hbl, hlocks, hgv⟩ := id C0
  have hown : s.vm.findClass RL = some m.cls := hown
  have hA : ∀ q : Nat, s.heap.size ≤ q → A q := fun q h => by rw [hAe]; exact h
  have hbA : ¬ A b := by rw [hAe]; exact Nat.not_le.mpr hbl
  intro v LX LM fo H locs ls hI hJ hP hD hS hl
  refine lv_aload_n hx hb dL_law_361 rfl (lv_at hl 3 rfl) ?_
  refine lv_aload_n hx hb dL_law_362 rfl (lv_at hl 4 rfl) ?_
  refine lv_iload hx hb dL_law_363 (lv_at hl 0 rfl) ?_
  refine lv_iconst (v := 1) hx hb dL_law_365 (by decide) ?_
  refine lv_iadd hx hb dL_law_366 ?_
  refine va_sld hx hb hX hbl hbA hS (lk_in (d := 1) hi hk hL (by decide)) dL_law_367 ?_
  refine lv_topi (fun a1 ea1 => ?_)
  refine lv_aload_n hx hb dL_law_368 rfl (lv_at hl 4 rfl) ?_
  refine lv_iload hx hb dL_law_369 (lv_at hl 0 rfl) ?_
  refine lv_iconst (v := 2) hx hb dL_law_371 (by decide) ?_
  refine lv_iadd hx hb dL_law_372 ?_
  refine va_sld hx hb hX hbl hbA hS (lk_in (d := 2) hi hk hL (by decide)) dL_law_373 ?_
  refine lv_topi (fun a2 ea2 => ?_)
  obtain ⟨q1, hh1⟩ := hI.head
  refine lc_i (U := LM) (C := LX) (V := [(o0, .inl (ak 1, 1, .inr (.inl fo)))]) hP hD hS hA (va_runV (As := [.int a1, .int a2]) (rest := []) ⟨hx, hb, hml, hown, hts⟩ (x_line l D ak ad _ x0 v LX a1 a2 hI) (cwV 2 hts hG_X7_line rfl rfl rfl hv_X7_line ⟨Nat.le_of_ble_eq_true rfl, Nat.le_of_ble_eq_true rfl⟩) (lc_preV (U := LM) (C := LX) (V := [(o0, .inl (ak 1, 1, .inr (.inl fo)))]) (As := [.int a1, .int a2]) hE hT hP hD hS hA 0 6 rfl rfl hh1) rfl rfl hl.1 rfl (lv_room (Nat.le_of_ble_eq_true rfl)) dL_law_374 ⟨by omega, by omega⟩) (fun r1 LX H locs hR hP hD hS => ?_)
  obtain ⟨er1, hI⟩ := hR
  refine lv_pop hx hb dL_law_377 rfl ?_
  refine lv_aload_n hx hb dL_law_378 rfl (lv_at hl 2 rfl) ?_
  refine lv_aload_n hx hb dL_law_379 rfl (lv_at hl 4 rfl) ?_
  refine lv_iload hx hb dL_law_380 (lv_at hl 0 rfl) ?_
  refine lv_iconst (v := 1) hx hb dL_law_382 (by decide) ?_
  refine lv_iadd hx hb dL_law_383 ?_
  refine va_sld hx hb hX hbl hbA hS (lk_in (d := 1) hi hk hL (by decide)) dL_law_384 ?_
  refine W.eq (g2 := F0 m 385 ls (.int a1 :: .ref m0 :: [])) (by rw [ea1]) ?_
  refine lv_aload_n hx hb dL_law_385 rfl (lv_at hl 4 rfl) ?_
  refine lv_iload hx hb dL_law_386 (lv_at hl 0 rfl) ?_
  refine lv_iconst (v := 2) hx hb dL_law_388 (by decide) ?_
  refine lv_iadd hx hb dL_law_389 ?_
  refine va_sld hx hb hX hbl hbA hS (lk_in (d := 2) hi hk hL (by decide)) dL_law_390 ?_
  refine W.eq (g2 := F0 m 391 ls (.int a2 :: .int a1 :: .ref m0 :: [])) (by rw [ea2]) ?_
  obtain ⟨q2, hh2⟩ := hJ.head
  refine lc_i (U := []) (C := LM) (V := LX ++ [(o0, .inl (ak 1, 1, .inr (.inl fo)))]) hP hD hS hA (va_runV (As := [.int a1, .int a2]) (rest := []) ⟨hx, hb, hml, hown, hts⟩ (m_line l D ak ad _ m0 v LM a1 a2 hJ) (cwV 2 hts hG_X8_line rfl rfl rfl hv_X8_line ⟨Nat.le_of_ble_eq_true rfl, Nat.le_of_ble_eq_true rfl⟩) (lc_preV (U := []) (C := LM) (V := LX ++ [(o0, .inl (ak 1, 1, .inr (.inl fo)))]) (As := [.int a1, .int a2]) hE hT hP hD hS hA 0 7 rfl rfl hh2) rfl rfl hl.1 rfl (lv_room (Nat.le_of_ble_eq_true rfl)) dL_law_391 ⟨by omega, by omega⟩) (fun r2 LM H locs hR hP hD hS => ?_)
  obtain ⟨er2, hJ⟩ := hR
  have hP : va_P D vwCl (LM ++ (LX ++ [(o0, .inl (ak 1, 1, .inr (.inl fo)))])) H := hP
  have hD : va_D A (LM ++ (LX ++ [(o0, .inl (ak 1, 1, .inr (.inl fo)))])) := hD
  refine lv_pop hx hb dL_law_394 rfl ?_
  refine lv_goto (tgt := 1019) hx hb dL_law_395 (by decide) ?_
  refine W.widen (k := cells + 15) (n := slots + 1133) (by omega) (by omega) ?_
  exact kk _ LX LM fo H locs ls hI hJ hP hD hS (lv_sub hl [0, 1, 2, 3, 4] rfl)
set_option maxHeartbeats 4000000 in
set_option maxRecDepth 100000 in
theorem lk_4 {p : Program} {e : Env} {s : State} {m : MethodId} {below : List Frame} {meth : Method} {c : Code} (l : Launch) {b L : Nat} {xs : Nat → Int32} (C0 : lw_At p s m meth c b L xs) {A : Nat → Prop} (hAe : A = fun q => s.heap.size ≤ q) {D : va_G} {ak : Nat → ClassId} {ad : Nat → Nat} (hl0 : l.stackTraces = false) (hE : EV D ak s) (hT : ST D ak ad A s s.heap) (hXE : XE A s s.heap) {o0 m0 x0 : Nat} {i : Int32} {k cells slots : Nat} (hi : i = nI k) (hk : k + 7 ≤ L) (hL : L ≤ 3584) (hc : cells + 15 ≤ room_1.cells) (hs : slots + 1133 ≤ room_1.slots) (kk : LGo p l e s m b below meth c D ak ad A o0 m0 x0 i 1019 (cells + 15) (slots + 1133)) : LGo p l e s m b below meth c D ak ad A o0 m0 x0 i 398 cells slots := by
  obtain ⟨hx, hb, hr, hml, hown, hts, hX, hbl, hlocks, hgv⟩ := id C0
  have hown : s.vm.findClass RL = some m.cls := hown
  have hA : ∀ q : Nat, s.heap.size ≤ q → A q := fun q h => by rw [hAe]; exact h
  have hbA : ¬ A b := by rw [hAe]; exact Nat.not_le.mpr hbl
  intro v LX LM fo H locs ls hI hJ hP hD hS hl
  refine lv_aload_n hx hb dL_law_398 rfl (lv_at hl 3 rfl) ?_
  refine lv_aload_n hx hb dL_law_399 rfl (lv_at hl 4 rfl) ?_
  refine lv_iload hx hb dL_law_400 (lv_at hl 0 rfl) ?_
  refine lv_iconst (v := 1) hx hb dL_law_402 (by decide) ?_
  refine lv_iadd hx hb dL_law_403 ?_
  refine va_sld hx hb hX hbl hbA hS (lk_in (d := 1) hi hk hL (by decide)) dL_law_404 ?_
  refine lv_topi (fun a1 ea1 => ?_)
  refine lv_aload_n hx hb dL_law_405 rfl (lv_at hl 4 rfl) ?_
  refine lv_iload hx hb dL_law_406 (lv_at hl 0 rfl) ?_
  refine lv_iconst (v := 2) hx hb dL_law_408 (by decide) ?_
  refine lv_iadd hx hb dL_law_409 ?_
  refine va_sld hx hb hX hbl hbA hS (lk_in (d := 2) hi hk hL (by decide)) dL_law_410 ?_
  refine lv_topi (fun a2 ea2 => ?_)
  refine lv_aload_n hx hb dL_law_411 rfl (lv_at hl 4 rfl) ?_
  refine lv_iload hx hb dL_law_412 (lv_at hl 0 rfl) ?_
  refine lv_iconst (v := 3) hx hb dL_law_414 (by decide) ?_
  refine lv_iadd hx hb dL_law_415 ?_
  refine va_sld hx hb hX hbl hbA hS (lk_in (d := 3) hi hk hL (by decide)) dL_law_416 ?_
  refine lv_topi (fun a3 ea3 => ?_)
  obtain ⟨q1, hh1⟩ := hI.head
  refine lc_i (U := LM) (C := LX) (V := [(o0, .inl (ak 1, 1, .inr (.inl fo)))]) hP hD hS hA (va_runV (As := [.int a1, .int a2, .int a3]) (rest := []) ⟨hx, hb, hml, hown, hts⟩ (x_lay l D ak ad _ x0 v LX a1 a2 a3 hI) (cwV 3 hts hG_X7_lay rfl rfl rfl hv_X7_lay ⟨Nat.le_of_ble_eq_true rfl, Nat.le_of_ble_eq_true rfl⟩) (lc_preV (U := LM) (C := LX) (V := [(o0, .inl (ak 1, 1, .inr (.inl fo)))]) (As := [.int a1, .int a2, .int a3]) hE hT hP hD hS hA 0 6 rfl rfl hh1) rfl rfl hl.1 rfl (lv_room (Nat.le_of_ble_eq_true rfl)) dL_law_417 ⟨by omega, by omega⟩) (fun r1 LX H locs hR hP hD hS => ?_)
  obtain ⟨er1, hI⟩ := hR
  refine lv_pop hx hb dL_law_420 rfl ?_
  refine lv_aload_n hx hb dL_law_421 rfl (lv_at hl 2 rfl) ?_
  refine lv_aload_n hx hb dL_law_422 rfl (lv_at hl 4 rfl) ?_
  refine lv_iload hx hb dL_law_423 (lv_at hl 0 rfl) ?_
  refine lv_iconst (v := 1) hx hb dL_law_425 (by decide) ?_
  refine lv_iadd hx hb dL_law_426 ?_
  refine va_sld hx hb hX hbl hbA hS (lk_in (d := 1) hi hk hL (by decide)) dL_law_427 ?_
  refine W.eq (g2 := F0 m 428 ls (.int a1 :: .ref m0 :: [])) (by rw [ea1]) ?_
  refine lv_aload_n hx hb dL_law_428 rfl (lv_at hl 4 rfl) ?_
  refine lv_iload hx hb dL_law_429 (lv_at hl 0 rfl) ?_
  refine lv_iconst (v := 2) hx hb dL_law_431 (by decide) ?_
  refine lv_iadd hx hb dL_law_432 ?_
  refine va_sld hx hb hX hbl hbA hS (lk_in (d := 2) hi hk hL (by decide)) dL_law_433 ?_
  refine W.eq (g2 := F0 m 434 ls (.int a2 :: .int a1 :: .ref m0 :: [])) (by rw [ea2]) ?_
  refine lv_aload_n hx hb dL_law_434 rfl (lv_at hl 4 rfl) ?_
  refine lv_iload hx hb dL_law_435 (lv_at hl 0 rfl) ?_
  refine lv_iconst (v := 3) hx hb dL_law_437 (by decide) ?_
  refine lv_iadd hx hb dL_law_438 ?_
  refine va_sld hx hb hX hbl hbA hS (lk_in (d := 3) hi hk hL (by decide)) dL_law_439 ?_
  refine W.eq (g2 := F0 m 440 ls (.int a3 :: .int a2 :: .int a1 :: .ref m0 :: [])) (by rw [ea3]) ?_
  obtain ⟨q2, hh2⟩ := hJ.head
  refine lc_i (U := []) (C := LM) (V := LX ++ [(o0, .inl (ak 1, 1, .inr (.inl fo)))]) hP hD hS hA (va_runV (As := [.int a1, .int a2, .int a3]) (rest := []) ⟨hx, hb, hml, hown, hts⟩ (m_lay l D ak ad _ m0 v LM a1 a2 a3 hJ) (cwV 3 hts hG_X8_lay rfl rfl rfl hv_X8_lay ⟨Nat.le_of_ble_eq_true rfl, Nat.le_of_ble_eq_true rfl⟩) (lc_preV (U := []) (C := LM) (V := LX ++ [(o0, .inl (ak 1, 1, .inr (.inl fo)))]) (As := [.int a1, .int a2, .int a3]) hE hT hP hD hS hA 0 7 rfl rfl hh2) rfl rfl hl.1 rfl (lv_room (Nat.le_of_ble_eq_true rfl)) dL_law_440 ⟨by omega, by omega⟩) (fun r2 LM H locs hR hP hD hS => ?_)
  obtain ⟨er2, hJ⟩ := hR
  have hP : va_P D vwCl (LM ++ (LX ++ [(o0, .inl (ak 1, 1, .inr (.inl fo)))])) H := hP
  have hD : va_D A (LM ++ (LX ++ [(o0, .inl (ak 1, 1, .inr (.inl fo)))])) := hD
  refine lv_pop hx hb dL_law_443 rfl ?_
  refine lv_goto (tgt := 1019) hx hb dL_law_444 (by decide) ?_
  refine W.widen (k := cells + 15) (n := slots + 1133) (by omega) (by omega) ?_
  exact kk _ LX LM fo H locs ls hI hJ hP hD hS (lv_sub hl [0, 1, 2, 3, 4] rfl)
set_option maxHeartbeats 4000000 in
set_option maxRecDepth 100000 in
theorem lk_5 {p : Program} {e : Env} {s : State} {m : MethodId} {below : List Frame} {meth : Method} {c : Code} (l : Launch) {b L : Nat} {xs : Nat → Int32} (C0 : lw_At p s m meth c b L xs) {A : Nat → Prop} (hAe : A = fun q => s.heap.size ≤ q) {D : va_G} {ak : Nat → ClassId} {ad : Nat → Nat} (hl0 : l.stackTraces = false) (hE : EV D ak s) (hT : ST D ak ad A s s.heap) (hXE : XE A s s.heap) {o0 m0 x0 : Nat} {i : Int32} {k cells slots : Nat} (hi : i = nI k) (hk : k + 7 ≤ L) (hL : L ≤ 3584) (hc : cells + 15 ≤ room_1.cells) (hs : slots + 1133 ≤ room_1.slots) (kk : LGo p l e s m b below meth c D ak ad A o0 m0 x0 i 1019 (cells + 15) (slots + 1133)) : LGo p l e s m b below meth c D ak ad A o0 m0 x0 i 447 cells slots := by
  obtain ⟨hx, hb, hr, hml, hown, hts, hX, hbl, hlocks, hgv⟩ := id C0
  have hown : s.vm.findClass RL = some m.cls := hown
  have hA : ∀ q : Nat, s.heap.size ≤ q → A q := fun q h => by rw [hAe]; exact h
  have hbA : ¬ A b := by rw [hAe]; exact Nat.not_le.mpr hbl
  intro v LX LM fo H locs ls hI hJ hP hD hS hl
  refine lv_aload_n hx hb dL_law_447 rfl (lv_at hl 3 rfl) ?_
  obtain ⟨q1, hh1⟩ := hI.head
  refine lc_i (U := LM) (C := LX) (V := [(o0, .inl (ak 1, 1, .inr (.inl fo)))]) hP hD hS hA (va_runV (As := []) (rest := []) ⟨hx, hb, hml, hown, hts⟩ (x_cost l D ak ad _ x0 v LX  hI) (cwV 0 hts hG_X7_cost rfl rfl rfl hv_X7_cost ⟨Nat.le_of_ble_eq_true rfl, Nat.le_of_ble_eq_true rfl⟩) (lc_preV (U := LM) (C := LX) (V := [(o0, .inl (ak 1, 1, .inr (.inl fo)))]) (As := []) hE hT hP hD hS hA 0 6 rfl rfl hh1) rfl rfl hl.1 rfl (lv_room (Nat.le_of_ble_eq_true rfl)) dL_law_448 ⟨by omega, by omega⟩) (fun r1 LX H locs hR hP hD hS => ?_)
  obtain ⟨er1, hI⟩ := hR
  refine lv_pop hx hb dL_law_451 rfl ?_
  refine lv_aload_n hx hb dL_law_452 rfl (lv_at hl 2 rfl) ?_
  obtain ⟨q2, hh2⟩ := hJ.head
  refine lc_i (U := []) (C := LM) (V := LX ++ [(o0, .inl (ak 1, 1, .inr (.inl fo)))]) hP hD hS hA (va_runV (As := []) (rest := []) ⟨hx, hb, hml, hown, hts⟩ (m_cost l D ak ad _ m0 v LM  hJ) (cwV 0 hts hG_X8_cost rfl rfl rfl hv_X8_cost ⟨Nat.le_of_ble_eq_true rfl, Nat.le_of_ble_eq_true rfl⟩) (lc_preV (U := []) (C := LM) (V := LX ++ [(o0, .inl (ak 1, 1, .inr (.inl fo)))]) (As := []) hE hT hP hD hS hA 0 7 rfl rfl hh2) rfl rfl hl.1 rfl (lv_room (Nat.le_of_ble_eq_true rfl)) dL_law_453 ⟨by omega, by omega⟩) (fun r2 LM H locs hR hP hD hS => ?_)
  obtain ⟨er2, hJ⟩ := hR
  have hP : va_P D vwCl (LM ++ (LX ++ [(o0, .inl (ak 1, 1, .inr (.inl fo)))])) H := hP
  have hD : va_D A (LM ++ (LX ++ [(o0, .inl (ak 1, 1, .inr (.inl fo)))])) := hD
  refine lv_pop hx hb dL_law_456 rfl ?_
  refine lv_goto (tgt := 1019) hx hb dL_law_457 (by decide) ?_
  refine W.widen (k := cells + 15) (n := slots + 1133) (by omega) (by omega) ?_
  exact kk _ LX LM fo H locs ls hI hJ hP hD hS (lv_sub hl [0, 1, 2, 3, 4] rfl)
set_option maxHeartbeats 4000000 in
set_option maxRecDepth 100000 in
theorem lk_6 {p : Program} {e : Env} {s : State} {m : MethodId} {below : List Frame} {meth : Method} {c : Code} (l : Launch) {b L : Nat} {xs : Nat → Int32} (C0 : lw_At p s m meth c b L xs) {A : Nat → Prop} (hAe : A = fun q => s.heap.size ≤ q) {D : va_G} {ak : Nat → ClassId} {ad : Nat → Nat} (hl0 : l.stackTraces = false) (hE : EV D ak s) (hT : ST D ak ad A s s.heap) (hXE : XE A s s.heap) {o0 m0 x0 : Nat} {i : Int32} {k cells slots : Nat} (hi : i = nI k) (hk : k + 7 ≤ L) (hL : L ≤ 3584) (hc : cells + 15 ≤ room_1.cells) (hs : slots + 1133 ≤ room_1.slots) (kk : LGo p l e s m b below meth c D ak ad A o0 m0 x0 i 1019 (cells + 15) (slots + 1133)) : LGo p l e s m b below meth c D ak ad A o0 m0 x0 i 460 cells slots := by
  obtain ⟨hx, hb, hr, hml, hown, hts, hX, hbl, hlocks, hgv⟩ := id C0
  have hown : s.vm.findClass RL = some m.cls := hown
  have hA : ∀ q : Nat, s.heap.size ≤ q → A q := fun q h => by rw [hAe]; exact h
  have hbA : ¬ A b := by rw [hAe]; exact Nat.not_le.mpr hbl
  intro v LX LM fo H locs ls hI hJ hP hD hS hl
  refine lv_aload_n hx hb dL_law_460 rfl (lv_at hl 3 rfl) ?_
  obtain ⟨q1, hh1⟩ := hI.head
  refine lc_i (U := LM) (C := LX) (V := [(o0, .inl (ak 1, 1, .inr (.inl fo)))]) hP hD hS hA (va_runV (As := []) (rest := []) ⟨hx, hb, hml, hown, hts⟩ (x_inputs l D ak ad _ x0 v LX  hI) (cwV 0 hts hG_X7_inputs rfl rfl rfl hv_X7_inputs ⟨Nat.le_of_ble_eq_true rfl, Nat.le_of_ble_eq_true rfl⟩) (lc_preV (U := LM) (C := LX) (V := [(o0, .inl (ak 1, 1, .inr (.inl fo)))]) (As := []) hE hT hP hD hS hA 0 6 rfl rfl hh1) rfl rfl hl.1 rfl (lv_room (Nat.le_of_ble_eq_true rfl)) dL_law_461 ⟨by omega, by omega⟩) (fun r1 LX H locs hR hP hD hS => ?_)
  obtain ⟨er1, hI⟩ := hR
  refine lv_pop hx hb dL_law_464 rfl ?_
  refine lv_aload_n hx hb dL_law_465 rfl (lv_at hl 2 rfl) ?_
  obtain ⟨q2, hh2⟩ := hJ.head
  refine lc_i (U := []) (C := LM) (V := LX ++ [(o0, .inl (ak 1, 1, .inr (.inl fo)))]) hP hD hS hA (va_runV (As := []) (rest := []) ⟨hx, hb, hml, hown, hts⟩ (m_inputs l D ak ad _ m0 v LM  hJ) (cwV 0 hts hG_X8_inputs rfl rfl rfl hv_X8_inputs ⟨Nat.le_of_ble_eq_true rfl, Nat.le_of_ble_eq_true rfl⟩) (lc_preV (U := []) (C := LM) (V := LX ++ [(o0, .inl (ak 1, 1, .inr (.inl fo)))]) (As := []) hE hT hP hD hS hA 0 7 rfl rfl hh2) rfl rfl hl.1 rfl (lv_room (Nat.le_of_ble_eq_true rfl)) dL_law_466 ⟨by omega, by omega⟩) (fun r2 LM H locs hR hP hD hS => ?_)
  obtain ⟨er2, hJ⟩ := hR
  have hP : va_P D vwCl (LM ++ (LX ++ [(o0, .inl (ak 1, 1, .inr (.inl fo)))])) H := hP
  have hD : va_D A (LM ++ (LX ++ [(o0, .inl (ak 1, 1, .inr (.inl fo)))])) := hD
  refine lv_pop hx hb dL_law_469 rfl ?_
  refine lv_goto (tgt := 1019) hx hb dL_law_470 (by decide) ?_
  refine W.widen (k := cells + 15) (n := slots + 1133) (by omega) (by omega) ?_
  exact kk _ LX LM fo H locs ls hI hJ hP hD hS (lv_sub hl [0, 1, 2, 3, 4] rfl)
set_option maxHeartbeats 4000000 in
set_option maxRecDepth 100000 in
theorem lk_7 {p : Program} {e : Env} {s : State} {m : MethodId} {below : List Frame} {meth : Method} {c : Code} (l : Launch) {b L : Nat} {xs : Nat → Int32} (C0 : lw_At p s m meth c b L xs) {A : Nat → Prop} (hAe : A = fun q => s.heap.size ≤ q) {D : va_G} {ak : Nat → ClassId} {ad : Nat → Nat} (hl0 : l.stackTraces = false) (hE : EV D ak s) (hT : ST D ak ad A s s.heap) (hXE : XE A s s.heap) {o0 m0 x0 : Nat} {i : Int32} {k cells slots : Nat} (hi : i = nI k) (hk : k + 7 ≤ L) (hL : L ≤ 3584) (hc : cells + 15 ≤ room_1.cells) (hs : slots + 1133 ≤ room_1.slots) (kk : LGo p l e s m b below meth c D ak ad A o0 m0 x0 i 1019 (cells + 15) (slots + 1133)) : LGo p l e s m b below meth c D ak ad A o0 m0 x0 i 473 cells slots := by
  obtain ⟨hx, hb, hr, hml, hown, hts, hX, hbl, hlocks, hgv⟩ := id C0
  have hown : s.vm.findClass RL = some m.cls := hown
  have hA : ∀ q : Nat, s.heap.size ≤ q → A q := fun q h => by rw [hAe]; exact h
  have hbA : ¬ A b := by rw [hAe]; exact Nat.not_le.mpr hbl
  intro v LX LM fo H locs ls hI hJ hP hD hS hl
  refine lv_aload_n hx hb dL_law_473 rfl (lv_at hl 3 rfl) ?_
  refine lv_aload_n hx hb dL_law_474 rfl (lv_at hl 4 rfl) ?_
  refine lv_iload hx hb dL_law_475 (lv_at hl 0 rfl) ?_
  refine lv_iconst (v := 1) hx hb dL_law_477 (by decide) ?_
  refine lv_iadd hx hb dL_law_478 ?_
  refine va_sld hx hb hX hbl hbA hS (lk_in (d := 1) hi hk hL (by decide)) dL_law_479 ?_
  refine lv_topi (fun a1 ea1 => ?_)
  refine lv_aload_n hx hb dL_law_480 rfl (lv_at hl 4 rfl) ?_
  refine lv_iload hx hb dL_law_481 (lv_at hl 0 rfl) ?_
  refine lv_iconst (v := 2) hx hb dL_law_483 (by decide) ?_
  refine lv_iadd hx hb dL_law_484 ?_
  refine va_sld hx hb hX hbl hbA hS (lk_in (d := 2) hi hk hL (by decide)) dL_law_485 ?_
  refine lv_topi (fun a2 ea2 => ?_)
  obtain ⟨q1, hh1⟩ := hI.head
  refine lc_i (U := LM) (C := LX) (V := [(o0, .inl (ak 1, 1, .inr (.inl fo)))]) hP hD hS hA (va_runV (As := [.int a1, .int a2]) (rest := []) ⟨hx, hb, hml, hown, hts⟩ (x_input l D ak ad _ x0 v LX a1 a2 hI) (cwV 2 hts hG_X7_input rfl rfl rfl hv_X7_input ⟨Nat.le_of_ble_eq_true rfl, Nat.le_of_ble_eq_true rfl⟩) (lc_preV (U := LM) (C := LX) (V := [(o0, .inl (ak 1, 1, .inr (.inl fo)))]) (As := [.int a1, .int a2]) hE hT hP hD hS hA 0 6 rfl rfl hh1) rfl rfl hl.1 rfl (lv_room (Nat.le_of_ble_eq_true rfl)) dL_law_486 ⟨by omega, by omega⟩) (fun r1 LX H locs hR hP hD hS => ?_)
  obtain ⟨er1, hI⟩ := hR
  refine lv_pop hx hb dL_law_489 rfl ?_
  refine lv_aload_n hx hb dL_law_490 rfl (lv_at hl 2 rfl) ?_
  refine lv_aload_n hx hb dL_law_491 rfl (lv_at hl 4 rfl) ?_
  refine lv_iload hx hb dL_law_492 (lv_at hl 0 rfl) ?_
  refine lv_iconst (v := 1) hx hb dL_law_494 (by decide) ?_
  refine lv_iadd hx hb dL_law_495 ?_
  refine va_sld hx hb hX hbl hbA hS (lk_in (d := 1) hi hk hL (by decide)) dL_law_496 ?_
  refine W.eq (g2 := F0 m 497 ls (.int a1 :: .ref m0 :: [])) (by rw [ea1]) ?_
  refine lv_aload_n hx hb dL_law_497 rfl (lv_at hl 4 rfl) ?_
  refine lv_iload hx hb dL_law_498 (lv_at hl 0 rfl) ?_
  refine lv_iconst (v := 2) hx hb dL_law_500 (by decide) ?_
  refine lv_iadd hx hb dL_law_501 ?_
  refine va_sld hx hb hX hbl hbA hS (lk_in (d := 2) hi hk hL (by decide)) dL_law_502 ?_
  refine W.eq (g2 := F0 m 503 ls (.int a2 :: .int a1 :: .ref m0 :: [])) (by rw [ea2]) ?_
  obtain ⟨q2, hh2⟩ := hJ.head
  refine lc_i (U := []) (C := LM) (V := LX ++ [(o0, .inl (ak 1, 1, .inr (.inl fo)))]) hP hD hS hA (va_runV (As := [.int a1, .int a2]) (rest := []) ⟨hx, hb, hml, hown, hts⟩ (m_input l D ak ad _ m0 v LM a1 a2 hJ) (cwV 2 hts hG_X8_input rfl rfl rfl hv_X8_input ⟨Nat.le_of_ble_eq_true rfl, Nat.le_of_ble_eq_true rfl⟩) (lc_preV (U := []) (C := LM) (V := LX ++ [(o0, .inl (ak 1, 1, .inr (.inl fo)))]) (As := [.int a1, .int a2]) hE hT hP hD hS hA 0 7 rfl rfl hh2) rfl rfl hl.1 rfl (lv_room (Nat.le_of_ble_eq_true rfl)) dL_law_503 ⟨by omega, by omega⟩) (fun r2 LM H locs hR hP hD hS => ?_)
  obtain ⟨er2, hJ⟩ := hR
  have hP : va_P D vwCl (LM ++ (LX ++ [(o0, .inl (ak 1, 1, .inr (.inl fo)))])) H := hP
  have hD : va_D A (LM ++ (LX ++ [(o0, .inl (ak 1, 1, .inr (.inl fo)))])) := hD
  refine lv_pop hx hb dL_law_506 rfl ?_
  refine lv_goto (tgt := 1019) hx hb dL_law_507 (by decide) ?_
  refine W.widen (k := cells + 15) (n := slots + 1133) (by omega) (by omega) ?_
  exact kk _ LX LM fo H locs ls hI hJ hP hD hS (lv_sub hl [0, 1, 2, 3, 4] rfl)
set_option maxHeartbeats 4000000 in
set_option maxRecDepth 100000 in
theorem lk_8 {p : Program} {e : Env} {s : State} {m : MethodId} {below : List Frame} {meth : Method} {c : Code} (l : Launch) {b L : Nat} {xs : Nat → Int32} (C0 : lw_At p s m meth c b L xs) {A : Nat → Prop} (hAe : A = fun q => s.heap.size ≤ q) {D : va_G} {ak : Nat → ClassId} {ad : Nat → Nat} (hl0 : l.stackTraces = false) (hE : EV D ak s) (hT : ST D ak ad A s s.heap) (hXE : XE A s s.heap) {o0 m0 x0 : Nat} {i : Int32} {k cells slots : Nat} (hi : i = nI k) (hk : k + 7 ≤ L) (hL : L ≤ 3584) (hc : cells + 15 ≤ room_1.cells) (hs : slots + 1133 ≤ room_1.slots) (kk : LGo p l e s m b below meth c D ak ad A o0 m0 x0 i 1019 (cells + 15) (slots + 1133)) : LGo p l e s m b below meth c D ak ad A o0 m0 x0 i 510 cells slots := by
  obtain ⟨hx, hb, hr, hml, hown, hts, hX, hbl, hlocks, hgv⟩ := id C0
  have hown : s.vm.findClass RL = some m.cls := hown
  have hA : ∀ q : Nat, s.heap.size ≤ q → A q := fun q h => by rw [hAe]; exact h
  have hbA : ¬ A b := by rw [hAe]; exact Nat.not_le.mpr hbl
  intro v LX LM fo H locs ls hI hJ hP hD hS hl
  refine lv_aload_n hx hb dL_law_510 rfl (lv_at hl 3 rfl) ?_
  refine lv_aload_n hx hb dL_law_511 rfl (lv_at hl 4 rfl) ?_
  refine lv_iload hx hb dL_law_512 (lv_at hl 0 rfl) ?_
  refine lv_iconst (v := 1) hx hb dL_law_514 (by decide) ?_
  refine lv_iadd hx hb dL_law_515 ?_
  refine va_sld hx hb hX hbl hbA hS (lk_in (d := 1) hi hk hL (by decide)) dL_law_516 ?_
  refine lv_topi (fun a1 ea1 => ?_)
  obtain ⟨q1, hh1⟩ := hI.head
  refine lc_i (U := LM) (C := LX) (V := [(o0, .inl (ak 1, 1, .inr (.inl fo)))]) hP hD hS hA (va_runV (As := [.int a1]) (rest := []) ⟨hx, hb, hml, hown, hts⟩ (x_begin l D ak ad _ x0 v LX a1 hI) (cwV 1 hts hG_X7_begin rfl rfl rfl hv_X7_begin ⟨Nat.le_of_ble_eq_true rfl, Nat.le_of_ble_eq_true rfl⟩) (lc_preV (U := LM) (C := LX) (V := [(o0, .inl (ak 1, 1, .inr (.inl fo)))]) (As := [.int a1]) hE hT hP hD hS hA 0 6 rfl rfl hh1) rfl rfl hl.1 rfl (lv_room (Nat.le_of_ble_eq_true rfl)) dL_law_517 ⟨by omega, by omega⟩) (fun r1 LX H locs hR hP hD hS => ?_)
  obtain ⟨er1, hI⟩ := hR
  refine lv_pop hx hb dL_law_520 rfl ?_
  refine lv_aload_n hx hb dL_law_521 rfl (lv_at hl 2 rfl) ?_
  refine lv_aload_n hx hb dL_law_522 rfl (lv_at hl 4 rfl) ?_
  refine lv_iload hx hb dL_law_523 (lv_at hl 0 rfl) ?_
  refine lv_iconst (v := 1) hx hb dL_law_525 (by decide) ?_
  refine lv_iadd hx hb dL_law_526 ?_
  refine va_sld hx hb hX hbl hbA hS (lk_in (d := 1) hi hk hL (by decide)) dL_law_527 ?_
  refine W.eq (g2 := F0 m 528 ls (.int a1 :: .ref m0 :: [])) (by rw [ea1]) ?_
  obtain ⟨q2, hh2⟩ := hJ.head
  refine lc_i (U := []) (C := LM) (V := LX ++ [(o0, .inl (ak 1, 1, .inr (.inl fo)))]) hP hD hS hA (va_runV (As := [.int a1]) (rest := []) ⟨hx, hb, hml, hown, hts⟩ (m_begin l D ak ad _ m0 v LM a1 hJ) (cwV 1 hts hG_X8_begin rfl rfl rfl hv_X8_begin ⟨Nat.le_of_ble_eq_true rfl, Nat.le_of_ble_eq_true rfl⟩) (lc_preV (U := []) (C := LM) (V := LX ++ [(o0, .inl (ak 1, 1, .inr (.inl fo)))]) (As := [.int a1]) hE hT hP hD hS hA 0 7 rfl rfl hh2) rfl rfl hl.1 rfl (lv_room (Nat.le_of_ble_eq_true rfl)) dL_law_528 ⟨by omega, by omega⟩) (fun r2 LM H locs hR hP hD hS => ?_)
  obtain ⟨er2, hJ⟩ := hR
  have hP : va_P D vwCl (LM ++ (LX ++ [(o0, .inl (ak 1, 1, .inr (.inl fo)))])) H := hP
  have hD : va_D A (LM ++ (LX ++ [(o0, .inl (ak 1, 1, .inr (.inl fo)))])) := hD
  refine lv_pop hx hb dL_law_531 rfl ?_
  refine lv_goto (tgt := 1019) hx hb dL_law_532 (by decide) ?_
  refine W.widen (k := cells + 15) (n := slots + 1133) (by omega) (by omega) ?_
  exact kk _ LX LM fo H locs ls hI hJ hP hD hS (lv_sub hl [0, 1, 2, 3, 4] rfl)
set_option maxHeartbeats 4000000 in
set_option maxRecDepth 100000 in
theorem lk_9 {p : Program} {e : Env} {s : State} {m : MethodId} {below : List Frame} {meth : Method} {c : Code} (l : Launch) {b L : Nat} {xs : Nat → Int32} (C0 : lw_At p s m meth c b L xs) {A : Nat → Prop} (hAe : A = fun q => s.heap.size ≤ q) {D : va_G} {ak : Nat → ClassId} {ad : Nat → Nat} (hl0 : l.stackTraces = false) (hE : EV D ak s) (hT : ST D ak ad A s s.heap) (hXE : XE A s s.heap) {o0 m0 x0 : Nat} {i : Int32} {k cells slots : Nat} (hi : i = nI k) (hk : k + 7 ≤ L) (hL : L ≤ 3584) (hc : cells + 15 ≤ room_1.cells) (hs : slots + 1133 ≤ room_1.slots) (kk : LGo p l e s m b below meth c D ak ad A o0 m0 x0 i 1019 (cells + 15) (slots + 1133)) : LGo p l e s m b below meth c D ak ad A o0 m0 x0 i 535 cells slots := by
  obtain ⟨hx, hb, hr, hml, hown, hts, hX, hbl, hlocks, hgv⟩ := id C0
  have hown : s.vm.findClass RL = some m.cls := hown
  have hA : ∀ q : Nat, s.heap.size ≤ q → A q := fun q h => by rw [hAe]; exact h
  have hbA : ¬ A b := by rw [hAe]; exact Nat.not_le.mpr hbl
  intro v LX LM fo H locs ls hI hJ hP hD hS hl
  refine lv_aload_n hx hb dL_law_535 rfl (lv_at hl 3 rfl) ?_
  refine lv_aload_n hx hb dL_law_536 rfl (lv_at hl 4 rfl) ?_
  refine lv_iload hx hb dL_law_537 (lv_at hl 0 rfl) ?_
  refine lv_iconst (v := 1) hx hb dL_law_539 (by decide) ?_
  refine lv_iadd hx hb dL_law_540 ?_
  refine va_sld hx hb hX hbl hbA hS (lk_in (d := 1) hi hk hL (by decide)) dL_law_541 ?_
  refine lv_topi (fun a1 ea1 => ?_)
  obtain ⟨q1, hh1⟩ := hI.head
  refine lc_i (U := LM) (C := LX) (V := [(o0, .inl (ak 1, 1, .inr (.inl fo)))]) hP hD hS hA (va_runV (As := [.int a1]) (rest := []) ⟨hx, hb, hml, hown, hts⟩ (x_run l D ak ad _ x0 v LX a1 hI) (cwV 1 hts hG_X7_run rfl rfl rfl hv_X7_run ⟨Nat.le_of_ble_eq_true rfl, Nat.le_of_ble_eq_true rfl⟩) (lc_preV (U := LM) (C := LX) (V := [(o0, .inl (ak 1, 1, .inr (.inl fo)))]) (As := [.int a1]) hE hT hP hD hS hA 0 6 rfl rfl hh1) rfl rfl hl.1 rfl (lv_room (Nat.le_of_ble_eq_true rfl)) dL_law_542 ⟨by omega, by omega⟩) (fun r1 LX H locs hR hP hD hS => ?_)
  obtain ⟨er1, hI⟩ := hR
  refine lv_pop hx hb dL_law_545 rfl ?_
  refine lv_aload_n hx hb dL_law_546 rfl (lv_at hl 2 rfl) ?_
  refine lv_aload_n hx hb dL_law_547 rfl (lv_at hl 4 rfl) ?_
  refine lv_iload hx hb dL_law_548 (lv_at hl 0 rfl) ?_
  refine lv_iconst (v := 1) hx hb dL_law_550 (by decide) ?_
  refine lv_iadd hx hb dL_law_551 ?_
  refine va_sld hx hb hX hbl hbA hS (lk_in (d := 1) hi hk hL (by decide)) dL_law_552 ?_
  refine W.eq (g2 := F0 m 553 ls (.int a1 :: .ref m0 :: [])) (by rw [ea1]) ?_
  obtain ⟨q2, hh2⟩ := hJ.head
  refine lc_i (U := []) (C := LM) (V := LX ++ [(o0, .inl (ak 1, 1, .inr (.inl fo)))]) hP hD hS hA (va_runV (As := [.int a1]) (rest := []) ⟨hx, hb, hml, hown, hts⟩ (m_run l D ak ad _ m0 v LM a1 hJ) (cwV 1 hts hG_X8_run rfl rfl rfl hv_X8_run ⟨Nat.le_of_ble_eq_true rfl, Nat.le_of_ble_eq_true rfl⟩) (lc_preV (U := []) (C := LM) (V := LX ++ [(o0, .inl (ak 1, 1, .inr (.inl fo)))]) (As := [.int a1]) hE hT hP hD hS hA 0 7 rfl rfl hh2) rfl rfl hl.1 rfl (lv_room (Nat.le_of_ble_eq_true rfl)) dL_law_553 ⟨by omega, by omega⟩) (fun r2 LM H locs hR hP hD hS => ?_)
  obtain ⟨er2, hJ⟩ := hR
  have hP : va_P D vwCl (LM ++ (LX ++ [(o0, .inl (ak 1, 1, .inr (.inl fo)))])) H := hP
  have hD : va_D A (LM ++ (LX ++ [(o0, .inl (ak 1, 1, .inr (.inl fo)))])) := hD
  refine lv_pop hx hb dL_law_556 rfl ?_
  refine lv_goto (tgt := 1019) hx hb dL_law_557 (by decide) ?_
  refine W.widen (k := cells + 15) (n := slots + 1133) (by omega) (by omega) ?_
  exact kk _ LX LM fo H locs ls hI hJ hP hD hS (lv_sub hl [0, 1, 2, 3, 4] rfl)
set_option maxHeartbeats 4000000 in
set_option maxRecDepth 100000 in
theorem lk_10 {p : Program} {e : Env} {s : State} {m : MethodId} {below : List Frame} {meth : Method} {c : Code} (l : Launch) {b L : Nat} {xs : Nat → Int32} (C0 : lw_At p s m meth c b L xs) {A : Nat → Prop} (hAe : A = fun q => s.heap.size ≤ q) {D : va_G} {ak : Nat → ClassId} {ad : Nat → Nat} (hl0 : l.stackTraces = false) (hE : EV D ak s) (hT : ST D ak ad A s s.heap) (hXE : XE A s s.heap) {o0 m0 x0 : Nat} {i : Int32} {k cells slots : Nat} (hi : i = nI k) (hk : k + 7 ≤ L) (hL : L ≤ 3584) (hc : cells + 15 ≤ room_1.cells) (hs : slots + 1133 ≤ room_1.slots) (kk : LGo p l e s m b below meth c D ak ad A o0 m0 x0 i 1019 (cells + 15) (slots + 1133)) : LGo p l e s m b below meth c D ak ad A o0 m0 x0 i 560 cells slots := by
  obtain ⟨hx, hb, hr, hml, hown, hts, hX, hbl, hlocks, hgv⟩ := id C0
  have hown : s.vm.findClass RL = some m.cls := hown
  have hA : ∀ q : Nat, s.heap.size ≤ q → A q := fun q h => by rw [hAe]; exact h
  have hbA : ¬ A b := by rw [hAe]; exact Nat.not_le.mpr hbl
  intro v LX LM fo H locs ls hI hJ hP hD hS hl
  refine lv_aload_n hx hb dL_law_560 rfl (lv_at hl 3 rfl) ?_
  refine lv_aload_n hx hb dL_law_561 rfl (lv_at hl 4 rfl) ?_
  refine lv_iload hx hb dL_law_562 (lv_at hl 0 rfl) ?_
  refine lv_iconst (v := 1) hx hb dL_law_564 (by decide) ?_
  refine lv_iadd hx hb dL_law_565 ?_
  refine va_sld hx hb hX hbl hbA hS (lk_in (d := 1) hi hk hL (by decide)) dL_law_566 ?_
  refine lv_topi (fun a1 ea1 => ?_)
  obtain ⟨q1, hh1⟩ := hI.head
  refine lc_i (U := LM) (C := LX) (V := [(o0, .inl (ak 1, 1, .inr (.inl fo)))]) hP hD hS hA (va_runV (As := [.int a1]) (rest := []) ⟨hx, hb, hml, hown, hts⟩ (x_state l D ak ad _ x0 v LX a1 hI) (cwV 1 hts hG_X7_state rfl rfl rfl hv_X7_state ⟨Nat.le_of_ble_eq_true rfl, Nat.le_of_ble_eq_true rfl⟩) (lc_preV (U := LM) (C := LX) (V := [(o0, .inl (ak 1, 1, .inr (.inl fo)))]) (As := [.int a1]) hE hT hP hD hS hA 0 6 rfl rfl hh1) rfl rfl hl.1 rfl (lv_room (Nat.le_of_ble_eq_true rfl)) dL_law_567 ⟨by omega, by omega⟩) (fun r1 LX H locs hR hP hD hS => ?_)
  obtain ⟨er1, hI⟩ := hR
  refine lv_pop hx hb dL_law_570 rfl ?_
  refine lv_aload_n hx hb dL_law_571 rfl (lv_at hl 2 rfl) ?_
  refine lv_aload_n hx hb dL_law_572 rfl (lv_at hl 4 rfl) ?_
  refine lv_iload hx hb dL_law_573 (lv_at hl 0 rfl) ?_
  refine lv_iconst (v := 1) hx hb dL_law_575 (by decide) ?_
  refine lv_iadd hx hb dL_law_576 ?_
  refine va_sld hx hb hX hbl hbA hS (lk_in (d := 1) hi hk hL (by decide)) dL_law_577 ?_
  refine W.eq (g2 := F0 m 578 ls (.int a1 :: .ref m0 :: [])) (by rw [ea1]) ?_
  obtain ⟨q2, hh2⟩ := hJ.head
  refine lc_i (U := []) (C := LM) (V := LX ++ [(o0, .inl (ak 1, 1, .inr (.inl fo)))]) hP hD hS hA (va_runV (As := [.int a1]) (rest := []) ⟨hx, hb, hml, hown, hts⟩ (m_state l D ak ad _ m0 v LM a1 hJ) (cwV 1 hts hG_X8_state rfl rfl rfl hv_X8_state ⟨Nat.le_of_ble_eq_true rfl, Nat.le_of_ble_eq_true rfl⟩) (lc_preV (U := []) (C := LM) (V := LX ++ [(o0, .inl (ak 1, 1, .inr (.inl fo)))]) (As := [.int a1]) hE hT hP hD hS hA 0 7 rfl rfl hh2) rfl rfl hl.1 rfl (lv_room (Nat.le_of_ble_eq_true rfl)) dL_law_578 ⟨by omega, by omega⟩) (fun r2 LM H locs hR hP hD hS => ?_)
  obtain ⟨er2, hJ⟩ := hR
  have hP : va_P D vwCl (LM ++ (LX ++ [(o0, .inl (ak 1, 1, .inr (.inl fo)))])) H := hP
  have hD : va_D A (LM ++ (LX ++ [(o0, .inl (ak 1, 1, .inr (.inl fo)))])) := hD
  refine lv_pop hx hb dL_law_581 rfl ?_
  refine lv_goto (tgt := 1019) hx hb dL_law_582 (by decide) ?_
  refine W.widen (k := cells + 15) (n := slots + 1133) (by omega) (by omega) ?_
  exact kk _ LX LM fo H locs ls hI hJ hP hD hS (lv_sub hl [0, 1, 2, 3, 4] rfl)
set_option maxHeartbeats 4000000 in
set_option maxRecDepth 100000 in
theorem lk_11 {p : Program} {e : Env} {s : State} {m : MethodId} {below : List Frame} {meth : Method} {c : Code} (l : Launch) {b L : Nat} {xs : Nat → Int32} (C0 : lw_At p s m meth c b L xs) {A : Nat → Prop} (hAe : A = fun q => s.heap.size ≤ q) {D : va_G} {ak : Nat → ClassId} {ad : Nat → Nat} (hl0 : l.stackTraces = false) (hE : EV D ak s) (hT : ST D ak ad A s s.heap) (hXE : XE A s s.heap) {o0 m0 x0 : Nat} {i : Int32} {k cells slots : Nat} (hi : i = nI k) (hk : k + 7 ≤ L) (hL : L ≤ 3584) (hc : cells + 15 ≤ room_1.cells) (hs : slots + 1133 ≤ room_1.slots) (kk : LGo p l e s m b below meth c D ak ad A o0 m0 x0 i 1019 (cells + 15) (slots + 1133)) : LGo p l e s m b below meth c D ak ad A o0 m0 x0 i 585 cells slots := by
  obtain ⟨hx, hb, hr, hml, hown, hts, hX, hbl, hlocks, hgv⟩ := id C0
  have hown : s.vm.findClass RL = some m.cls := hown
  have hA : ∀ q : Nat, s.heap.size ≤ q → A q := fun q h => by rw [hAe]; exact h
  have hbA : ¬ A b := by rw [hAe]; exact Nat.not_le.mpr hbl
  intro v LX LM fo H locs ls hI hJ hP hD hS hl
  refine lv_aload_n hx hb dL_law_585 rfl (lv_at hl 3 rfl) ?_
  refine lv_aload_n hx hb dL_law_586 rfl (lv_at hl 4 rfl) ?_
  refine lv_iload hx hb dL_law_587 (lv_at hl 0 rfl) ?_
  refine lv_iconst (v := 1) hx hb dL_law_589 (by decide) ?_
  refine lv_iadd hx hb dL_law_590 ?_
  refine va_sld hx hb hX hbl hbA hS (lk_in (d := 1) hi hk hL (by decide)) dL_law_591 ?_
  refine lv_topi (fun a1 ea1 => ?_)
  refine lv_aload_n hx hb dL_law_592 rfl (lv_at hl 1 rfl) ?_
  have hP := lk_nl (U := LM) (C := LX ++ [(o0, .inl (ak 1, 1, .inr (.inl fo)))]) hP
  have hD := lk_nlD (U := LM) (C := LX ++ [(o0, .inl (ak 1, 1, .inr (.inl fo)))]) hD
  refine lc_i (mc := 1) (ms := 6) (U := LM) (C := LX ++ [(o0, .inl (ak 1, 1, .inr (.inl fo)))]) (V := []) hP hD hS hA (vx_runSW (As := [.ref x0, .int a1, .ref o0]) (rest := []) ⟨hx, hb, hml, hown, hts⟩ (x_Lcell l hl0 D ak ad _ x0 v o0 LX fo a1 hI) (vx_cwSW 3 hts hG_L_cell rfl rfl rfl (by decide +kernel) ⟨Nat.le_of_ble_eq_true rfl, Nat.le_of_ble_eq_true rfl⟩) (lc_preX (U := LM) (C := LX ++ [(o0, .inl (ak 1, 1, .inr (.inl fo)))]) (V := []) (As := [.ref x0, .int a1, .ref o0]) hXE hE hT hP hD hS hA) rfl rfl hl.1 rfl (lv_room (Nat.le_of_ble_eq_true rfl)) dL_law_593 ⟨by omega, by omega⟩) (fun r1 C9 H locs hR hP hD hS => ?_)
  obtain ⟨fo, rfl, hQ1⟩ := hR
  have hP := lk_ln (U := LM) (C := LX ++ [(o0, .inl (ak 1, 1, .inr (.inl fo)))]) hP
  have hD := lk_lnD (U := LM) (C := LX ++ [(o0, .inl (ak 1, 1, .inr (.inl fo)))]) hD
  refine lv_istore (lv' := [(5, .int r1), (4, .int i), (3, .ref o0), (2, .ref m0), (1, .ref x0), (0, .ref b)]) hx hb dL_law_596 hl (by decide) rfl (fun ls hl => ?_)
  refine lv_aload_n hx hb dL_law_598 rfl (lv_at hl 3 rfl) ?_
  refine lv_aload_n hx hb dL_law_599 rfl (lv_at hl 5 rfl) ?_
  refine lv_iload hx hb dL_law_600 (lv_at hl 1 rfl) ?_
  refine lv_iconst (v := 1) hx hb dL_law_602 (by decide) ?_
  refine lv_iadd hx hb dL_law_603 ?_
  refine va_sld hx hb hX hbl hbA hS (lk_in (d := 1) hi hk hL (by decide)) dL_law_604 ?_
  refine W.eq (g2 := F0 m 605 ls (.int a1 :: .ref m0 :: [])) (by rw [ea1]) ?_
  obtain ⟨q2, hh2⟩ := hJ.head
  refine lc_i (U := []) (C := LM) (V := LX ++ [(o0, .inl (ak 1, 1, .inr (.inl fo)))]) hP hD hS hA (va_runV (As := [.int a1]) (rest := []) ⟨hx, hb, hml, hown, hts⟩ (m_cell l D ak ad _ m0 v LM a1 hJ) (cwV 1 hts hG_X8_cell rfl rfl rfl hv_X8_cell ⟨Nat.le_of_ble_eq_true rfl, Nat.le_of_ble_eq_true rfl⟩) (lc_preV (U := []) (C := LM) (V := LX ++ [(o0, .inl (ak 1, 1, .inr (.inl fo)))]) (As := [.int a1]) hE hT hP hD hS hA 0 7 rfl rfl hh2) rfl rfl hl.1 rfl (lv_room (Nat.le_of_ble_eq_true rfl)) dL_law_605 ⟨by omega, by omega⟩) (fun r2 LM H locs hR hP hD hS => ?_)
  have hT2 := hR
  have hJ : IM ak m0 v LM := hR.elim (fun h => h.2.im) (fun h => h.2.im)
  have hP : va_P D vwCl (LM ++ (LX ++ [(o0, .inl (ak 1, 1, .inr (.inl fo)))])) H := hP
  have hD : va_D A (LM ++ (LX ++ [(o0, .inl (ak 1, 1, .inr (.inl fo)))])) := hD
  refine lv_istore (lv' := [(6, .int r2), (5, .int r1), (4, .int i), (3, .ref o0), (2, .ref m0), (1, .ref x0), (0, .ref b)]) hx hb dL_law_608 hl (by decide) rfl (fun ls hl => ?_)
  refine lv_goto (tgt := 1019) hx hb dL_law_610 (by decide) ?_
  refine W.widen (k := cells + 15) (n := slots + 1133) (by omega) (by omega) ?_
  exact kk _ LX LM fo H locs ls hI hJ hP hD hS (lv_sub hl [2, 3, 4, 5, 6] rfl)
set_option maxHeartbeats 4000000 in
set_option maxRecDepth 100000 in
theorem lk_12 {p : Program} {e : Env} {s : State} {m : MethodId} {below : List Frame} {meth : Method} {c : Code} (l : Launch) {b L : Nat} {xs : Nat → Int32} (C0 : lw_At p s m meth c b L xs) {A : Nat → Prop} (hAe : A = fun q => s.heap.size ≤ q) {D : va_G} {ak : Nat → ClassId} {ad : Nat → Nat} (hl0 : l.stackTraces = false) (hE : EV D ak s) (hT : ST D ak ad A s s.heap) (hXE : XE A s s.heap) {o0 m0 x0 : Nat} {i : Int32} {k cells slots : Nat} (hi : i = nI k) (hk : k + 7 ≤ L) (hL : L ≤ 3584) (hc : cells + 15 ≤ room_1.cells) (hs : slots + 1133 ≤ room_1.slots) (kk : LGo p l e s m b below meth c D ak ad A o0 m0 x0 i 1019 (cells + 15) (slots + 1133)) : LGo p l e s m b below meth c D ak ad A o0 m0 x0 i 613 cells slots := by
  obtain ⟨hx, hb, hr, hml, hown, hts, hX, hbl, hlocks, hgv⟩ := id C0
  have hown : s.vm.findClass RL = some m.cls := hown
  have hA : ∀ q : Nat, s.heap.size ≤ q → A q := fun q h => by rw [hAe]; exact h
  have hbA : ¬ A b := by rw [hAe]; exact Nat.not_le.mpr hbl
  intro v LX LM fo H locs ls hI hJ hP hD hS hl
  refine lv_aload_n hx hb dL_law_613 rfl (lv_at hl 3 rfl) ?_
  refine lv_aload_n hx hb dL_law_614 rfl (lv_at hl 4 rfl) ?_
  refine lv_iload hx hb dL_law_615 (lv_at hl 0 rfl) ?_
  refine lv_iconst (v := 1) hx hb dL_law_617 (by decide) ?_
  refine lv_iadd hx hb dL_law_618 ?_
  refine va_sld hx hb hX hbl hbA hS (lk_in (d := 1) hi hk hL (by decide)) dL_law_619 ?_
  refine lv_topi (fun a1 ea1 => ?_)
  refine lv_aload_n hx hb dL_law_620 rfl (lv_at hl 1 rfl) ?_
  have hP := lk_nl (U := LM) (C := LX ++ [(o0, .inl (ak 1, 1, .inr (.inl fo)))]) hP
  have hD := lk_nlD (U := LM) (C := LX ++ [(o0, .inl (ak 1, 1, .inr (.inl fo)))]) hD
  refine lc_i (mc := 1) (ms := 6) (U := LM) (C := LX ++ [(o0, .inl (ak 1, 1, .inr (.inl fo)))]) (V := []) hP hD hS hA (vx_runSW (As := [.ref x0, .int a1, .ref o0]) (rest := []) ⟨hx, hb, hml, hown, hts⟩ (x_Lwrote l hl0 D ak ad _ x0 v o0 LX fo a1 hI) (vx_cwSW 3 hts hG_L_wrote rfl rfl rfl (by decide +kernel) ⟨Nat.le_of_ble_eq_true rfl, Nat.le_of_ble_eq_true rfl⟩) (lc_preX (U := LM) (C := LX ++ [(o0, .inl (ak 1, 1, .inr (.inl fo)))]) (V := []) (As := [.ref x0, .int a1, .ref o0]) hXE hE hT hP hD hS hA) rfl rfl hl.1 rfl (lv_room (Nat.le_of_ble_eq_true rfl)) dL_law_621 ⟨by omega, by omega⟩) (fun r1 C9 H locs hR hP hD hS => ?_)
  obtain ⟨fo, rfl, hQ1⟩ := hR
  have hP := lk_ln (U := LM) (C := LX ++ [(o0, .inl (ak 1, 1, .inr (.inl fo)))]) hP
  have hD := lk_lnD (U := LM) (C := LX ++ [(o0, .inl (ak 1, 1, .inr (.inl fo)))]) hD
  refine lv_istore (lv' := [(5, .int r1), (4, .int i), (3, .ref o0), (2, .ref m0), (1, .ref x0), (0, .ref b)]) hx hb dL_law_624 hl (by decide) rfl (fun ls hl => ?_)
  refine lv_aload_n hx hb dL_law_626 rfl (lv_at hl 3 rfl) ?_
  refine lv_aload_n hx hb dL_law_627 rfl (lv_at hl 5 rfl) ?_
  refine lv_iload hx hb dL_law_628 (lv_at hl 1 rfl) ?_
  refine lv_iconst (v := 1) hx hb dL_law_630 (by decide) ?_
  refine lv_iadd hx hb dL_law_631 ?_
  refine va_sld hx hb hX hbl hbA hS (lk_in (d := 1) hi hk hL (by decide)) dL_law_632 ?_
  refine W.eq (g2 := F0 m 633 ls (.int a1 :: .ref m0 :: [])) (by rw [ea1]) ?_
  obtain ⟨q2, hh2⟩ := hJ.head
  refine lc_i (U := []) (C := LM) (V := LX ++ [(o0, .inl (ak 1, 1, .inr (.inl fo)))]) hP hD hS hA (va_runV (As := [.int a1]) (rest := []) ⟨hx, hb, hml, hown, hts⟩ (m_wrote l D ak ad _ m0 v LM a1 hJ) (cwV 1 hts hG_X8_wrote rfl rfl rfl hv_X8_wrote ⟨Nat.le_of_ble_eq_true rfl, Nat.le_of_ble_eq_true rfl⟩) (lc_preV (U := []) (C := LM) (V := LX ++ [(o0, .inl (ak 1, 1, .inr (.inl fo)))]) (As := [.int a1]) hE hT hP hD hS hA 0 7 rfl rfl hh2) rfl rfl hl.1 rfl (lv_room (Nat.le_of_ble_eq_true rfl)) dL_law_633 ⟨by omega, by omega⟩) (fun r2 LM H locs hR hP hD hS => ?_)
  have hT2 := hR
  have hJ : IM ak m0 v LM := hR.elim (fun h => h.2.im) (fun h => h.2.im)
  have hP : va_P D vwCl (LM ++ (LX ++ [(o0, .inl (ak 1, 1, .inr (.inl fo)))])) H := hP
  have hD : va_D A (LM ++ (LX ++ [(o0, .inl (ak 1, 1, .inr (.inl fo)))])) := hD
  refine lv_istore (lv' := [(6, .int r2), (5, .int r1), (4, .int i), (3, .ref o0), (2, .ref m0), (1, .ref x0), (0, .ref b)]) hx hb dL_law_636 hl (by decide) rfl (fun ls hl => ?_)
  refine lv_goto (tgt := 1019) hx hb dL_law_638 (by decide) ?_
  refine W.widen (k := cells + 15) (n := slots + 1133) (by omega) (by omega) ?_
  exact kk _ LX LM fo H locs ls hI hJ hP hD hS (lv_sub hl [2, 3, 4, 5, 6] rfl)
set_option maxHeartbeats 4000000 in
set_option maxRecDepth 100000 in
theorem lk_13 {p : Program} {e : Env} {s : State} {m : MethodId} {below : List Frame} {meth : Method} {c : Code} (l : Launch) {b L : Nat} {xs : Nat → Int32} (C0 : lw_At p s m meth c b L xs) {A : Nat → Prop} (hAe : A = fun q => s.heap.size ≤ q) {D : va_G} {ak : Nat → ClassId} {ad : Nat → Nat} (hl0 : l.stackTraces = false) (hE : EV D ak s) (hT : ST D ak ad A s s.heap) (hXE : XE A s s.heap) {o0 m0 x0 : Nat} {i : Int32} {k cells slots : Nat} (hi : i = nI k) (hk : k + 7 ≤ L) (hL : L ≤ 3584) (hc : cells + 15 ≤ room_1.cells) (hs : slots + 1133 ≤ room_1.slots) (kk : LGo p l e s m b below meth c D ak ad A o0 m0 x0 i 1019 (cells + 15) (slots + 1133)) : LGo p l e s m b below meth c D ak ad A o0 m0 x0 i 641 cells slots := by
  obtain ⟨hx, hb, hr, hml, hown, hts, hX, hbl, hlocks, hgv⟩ := id C0
  have hown : s.vm.findClass RL = some m.cls := hown
  have hA : ∀ q : Nat, s.heap.size ≤ q → A q := fun q h => by rw [hAe]; exact h
  have hbA : ¬ A b := by rw [hAe]; exact Nat.not_le.mpr hbl
  intro v LX LM fo H locs ls hI hJ hP hD hS hl
  refine lv_aload_n hx hb dL_law_641 rfl (lv_at hl 3 rfl) ?_
  obtain ⟨q1, hh1⟩ := hI.head
  refine lc_i (U := LM) (C := LX) (V := [(o0, .inl (ak 1, 1, .inr (.inl fo)))]) hP hD hS hA (va_runV (As := []) (rest := []) ⟨hx, hb, hml, hown, hts⟩ (x_fresh l D ak ad _ x0 v LX  hI) (cwV 0 hts hG_X7_fresh rfl rfl rfl hv_X7_fresh ⟨Nat.le_of_ble_eq_true rfl, Nat.le_of_ble_eq_true rfl⟩) (lc_preV (U := LM) (C := LX) (V := [(o0, .inl (ak 1, 1, .inr (.inl fo)))]) (As := []) hE hT hP hD hS hA 0 6 rfl rfl hh1) rfl rfl hl.1 rfl (lv_room (Nat.le_of_ble_eq_true rfl)) dL_law_642 ⟨by omega, by omega⟩) (fun r1 LX H locs hR hP hD hS => ?_)
  obtain ⟨er1, hI⟩ := hR
  refine lv_pop hx hb dL_law_645 rfl ?_
  refine lv_aload_n hx hb dL_law_646 rfl (lv_at hl 2 rfl) ?_
  obtain ⟨q2, hh2⟩ := hJ.head
  refine lc_i (U := []) (C := LM) (V := LX ++ [(o0, .inl (ak 1, 1, .inr (.inl fo)))]) hP hD hS hA (va_runV (As := []) (rest := []) ⟨hx, hb, hml, hown, hts⟩ (m_fresh l D ak ad _ m0 v LM  hJ) (cwV 0 hts hG_X8_fresh rfl rfl rfl hv_X8_fresh ⟨Nat.le_of_ble_eq_true rfl, Nat.le_of_ble_eq_true rfl⟩) (lc_preV (U := []) (C := LM) (V := LX ++ [(o0, .inl (ak 1, 1, .inr (.inl fo)))]) (As := []) hE hT hP hD hS hA 0 7 rfl rfl hh2) rfl rfl hl.1 rfl (lv_room (Nat.le_of_ble_eq_true rfl)) dL_law_647 ⟨by omega, by omega⟩) (fun r2 LM H locs hR hP hD hS => ?_)
  obtain ⟨er2, hJ⟩ := hR
  have hP : va_P D vwCl (LM ++ (LX ++ [(o0, .inl (ak 1, 1, .inr (.inl fo)))])) H := hP
  have hD : va_D A (LM ++ (LX ++ [(o0, .inl (ak 1, 1, .inr (.inl fo)))])) := hD
  refine lv_pop hx hb dL_law_650 rfl ?_
  refine lv_goto (tgt := 1019) hx hb dL_law_651 (by decide) ?_
  refine W.widen (k := cells + 15) (n := slots + 1133) (by omega) (by omega) ?_
  exact kk _ LX LM fo H locs ls hI hJ hP hD hS (lv_sub hl [0, 1, 2, 3, 4] rfl)
