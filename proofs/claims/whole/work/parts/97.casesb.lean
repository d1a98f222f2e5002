/-! The law's cases: one call of the class, the same of the model. -/
theorem dL_law_430 : decode cL_law 430 = .ok (.aload_n 1, 1) := by decide +kernel
theorem dL_law_431 : decode cL_law 431 = .ok (.aload_n 0, 1) := by decide +kernel
theorem dL_law_432 : decode cL_law 432 = .ok (.iload_n 3, 1) := by decide +kernel
theorem dL_law_433 : decode cL_law 433 = .ok (.iconst 1, 1) := by decide +kernel
theorem dL_law_434 : decode cL_law 434 = .ok (.iadd, 1) := by decide +kernel
theorem dL_law_435 : decode cL_law 435 = .ok (.iaload, 1) := by decide +kernel
theorem dL_law_436 : decode cL_law 436 = .ok (.aload_n 0, 1) := by decide +kernel
theorem dL_law_437 : decode cL_law 437 = .ok (.iload_n 3, 1) := by decide +kernel
theorem dL_law_438 : decode cL_law 438 = .ok (.iconst 2, 1) := by decide +kernel
theorem dL_law_439 : decode cL_law 439 = .ok (.iadd, 1) := by decide +kernel
theorem dL_law_440 : decode cL_law 440 = .ok (.iaload, 1) := by decide +kernel
theorem dL_law_441 : decode cL_law 441 = .ok (.invokevirtual 41, 3) := by decide +kernel
theorem dL_law_444 : decode cL_law 444 = .ok (.aload_n 2, 1) := by decide +kernel
theorem dL_law_445 : decode cL_law 445 = .ok (.aload_n 0, 1) := by decide +kernel
theorem dL_law_446 : decode cL_law 446 = .ok (.iload_n 3, 1) := by decide +kernel
theorem dL_law_447 : decode cL_law 447 = .ok (.iconst 1, 1) := by decide +kernel
theorem dL_law_448 : decode cL_law 448 = .ok (.iadd, 1) := by decide +kernel
theorem dL_law_449 : decode cL_law 449 = .ok (.iaload, 1) := by decide +kernel
theorem dL_law_450 : decode cL_law 450 = .ok (.aload_n 0, 1) := by decide +kernel
theorem dL_law_451 : decode cL_law 451 = .ok (.iload_n 3, 1) := by decide +kernel
theorem dL_law_452 : decode cL_law 452 = .ok (.iconst 2, 1) := by decide +kernel
theorem dL_law_453 : decode cL_law 453 = .ok (.iadd, 1) := by decide +kernel
theorem dL_law_454 : decode cL_law 454 = .ok (.iaload, 1) := by decide +kernel
theorem dL_law_455 : decode cL_law 455 = .ok (.invokevirtual 44, 3) := by decide +kernel
theorem dL_law_458 : decode cL_law 458 = .ok (.if_icmp .eq 886, 3) := by decide +kernel
theorem dL_law_463 : decode cL_law 463 = .ok (.aload_n 1, 1) := by decide +kernel
theorem dL_law_464 : decode cL_law 464 = .ok (.aload_n 0, 1) := by decide +kernel
theorem dL_law_465 : decode cL_law 465 = .ok (.iload_n 3, 1) := by decide +kernel
theorem dL_law_466 : decode cL_law 466 = .ok (.iconst 1, 1) := by decide +kernel
theorem dL_law_467 : decode cL_law 467 = .ok (.iadd, 1) := by decide +kernel
theorem dL_law_468 : decode cL_law 468 = .ok (.iaload, 1) := by decide +kernel
theorem dL_law_469 : decode cL_law 469 = .ok (.aload_n 0, 1) := by decide +kernel
theorem dL_law_470 : decode cL_law 470 = .ok (.iload_n 3, 1) := by decide +kernel
theorem dL_law_471 : decode cL_law 471 = .ok (.iconst 2, 1) := by decide +kernel
theorem dL_law_472 : decode cL_law 472 = .ok (.iadd, 1) := by decide +kernel
theorem dL_law_473 : decode cL_law 473 = .ok (.iaload, 1) := by decide +kernel
theorem dL_law_474 : decode cL_law 474 = .ok (.aload_n 0, 1) := by decide +kernel
theorem dL_law_475 : decode cL_law 475 = .ok (.iload_n 3, 1) := by decide +kernel
theorem dL_law_476 : decode cL_law 476 = .ok (.iconst 3, 1) := by decide +kernel
theorem dL_law_477 : decode cL_law 477 = .ok (.iadd, 1) := by decide +kernel
theorem dL_law_478 : decode cL_law 478 = .ok (.iaload, 1) := by decide +kernel
theorem dL_law_479 : decode cL_law 479 = .ok (.invokevirtual 45, 3) := by decide +kernel
theorem dL_law_482 : decode cL_law 482 = .ok (.aload_n 2, 1) := by decide +kernel
theorem dL_law_483 : decode cL_law 483 = .ok (.aload_n 0, 1) := by decide +kernel
theorem dL_law_484 : decode cL_law 484 = .ok (.iload_n 3, 1) := by decide +kernel
theorem dL_law_485 : decode cL_law 485 = .ok (.iconst 1, 1) := by decide +kernel
theorem dL_law_486 : decode cL_law 486 = .ok (.iadd, 1) := by decide +kernel
theorem dL_law_487 : decode cL_law 487 = .ok (.iaload, 1) := by decide +kernel
theorem dL_law_488 : decode cL_law 488 = .ok (.aload_n 0, 1) := by decide +kernel
theorem dL_law_489 : decode cL_law 489 = .ok (.iload_n 3, 1) := by decide +kernel
theorem dL_law_490 : decode cL_law 490 = .ok (.iconst 2, 1) := by decide +kernel
theorem dL_law_491 : decode cL_law 491 = .ok (.iadd, 1) := by decide +kernel
theorem dL_law_492 : decode cL_law 492 = .ok (.iaload, 1) := by decide +kernel
theorem dL_law_493 : decode cL_law 493 = .ok (.aload_n 0, 1) := by decide +kernel
theorem dL_law_494 : decode cL_law 494 = .ok (.iload_n 3, 1) := by decide +kernel
theorem dL_law_495 : decode cL_law 495 = .ok (.iconst 3, 1) := by decide +kernel
theorem dL_law_496 : decode cL_law 496 = .ok (.iadd, 1) := by decide +kernel
theorem dL_law_497 : decode cL_law 497 = .ok (.iaload, 1) := by decide +kernel
theorem dL_law_498 : decode cL_law 498 = .ok (.invokevirtual 48, 3) := by decide +kernel
theorem dL_law_501 : decode cL_law 501 = .ok (.if_icmp .eq 843, 3) := by decide +kernel
theorem dL_law_506 : decode cL_law 506 = .ok (.aload_n 1, 1) := by decide +kernel
theorem dL_law_507 : decode cL_law 507 = .ok (.aload_n 0, 1) := by decide +kernel
theorem dL_law_508 : decode cL_law 508 = .ok (.iload_n 3, 1) := by decide +kernel
theorem dL_law_509 : decode cL_law 509 = .ok (.iconst 1, 1) := by decide +kernel
theorem dL_law_510 : decode cL_law 510 = .ok (.iadd, 1) := by decide +kernel
theorem dL_law_511 : decode cL_law 511 = .ok (.iaload, 1) := by decide +kernel
theorem dL_law_512 : decode cL_law 512 = .ok (.invokevirtual 49, 3) := by decide +kernel
theorem dL_law_515 : decode cL_law 515 = .ok (.aload_n 2, 1) := by decide +kernel
theorem dL_law_516 : decode cL_law 516 = .ok (.aload_n 0, 1) := by decide +kernel
theorem dL_law_517 : decode cL_law 517 = .ok (.iload_n 3, 1) := by decide +kernel
theorem dL_law_518 : decode cL_law 518 = .ok (.iconst 1, 1) := by decide +kernel
theorem dL_law_519 : decode cL_law 519 = .ok (.iadd, 1) := by decide +kernel
theorem dL_law_520 : decode cL_law 520 = .ok (.iaload, 1) := by decide +kernel
theorem dL_law_521 : decode cL_law 521 = .ok (.invokevirtual 52, 3) := by decide +kernel
theorem dL_law_524 : decode cL_law 524 = .ok (.if_icmp .eq 820, 3) := by decide +kernel
theorem dL_law_529 : decode cL_law 529 = .ok (.aload_n 1, 1) := by decide +kernel
theorem dL_law_530 : decode cL_law 530 = .ok (.aload_n 0, 1) := by decide +kernel
theorem dL_law_531 : decode cL_law 531 = .ok (.iload_n 3, 1) := by decide +kernel
theorem dL_law_532 : decode cL_law 532 = .ok (.iconst 1, 1) := by decide +kernel
theorem dL_law_533 : decode cL_law 533 = .ok (.iadd, 1) := by decide +kernel
theorem dL_law_534 : decode cL_law 534 = .ok (.iaload, 1) := by decide +kernel
theorem dL_law_535 : decode cL_law 535 = .ok (.aload_n 0, 1) := by decide +kernel
theorem dL_law_536 : decode cL_law 536 = .ok (.iload_n 3, 1) := by decide +kernel
theorem dL_law_537 : decode cL_law 537 = .ok (.iconst 2, 1) := by decide +kernel
theorem dL_law_538 : decode cL_law 538 = .ok (.iadd, 1) := by decide +kernel
theorem dL_law_539 : decode cL_law 539 = .ok (.iaload, 1) := by decide +kernel
theorem dL_law_540 : decode cL_law 540 = .ok (.aload_n 0, 1) := by decide +kernel
theorem dL_law_541 : decode cL_law 541 = .ok (.iload_n 3, 1) := by decide +kernel
theorem dL_law_542 : decode cL_law 542 = .ok (.iconst 3, 1) := by decide +kernel
theorem dL_law_543 : decode cL_law 543 = .ok (.iadd, 1) := by decide +kernel
theorem dL_law_544 : decode cL_law 544 = .ok (.iaload, 1) := by decide +kernel
theorem dL_law_545 : decode cL_law 545 = .ok (.invokevirtual 53, 3) := by decide +kernel
theorem dL_law_548 : decode cL_law 548 = .ok (.aload_n 2, 1) := by decide +kernel
theorem dL_law_549 : decode cL_law 549 = .ok (.aload_n 0, 1) := by decide +kernel
theorem dL_law_550 : decode cL_law 550 = .ok (.iload_n 3, 1) := by decide +kernel
theorem dL_law_551 : decode cL_law 551 = .ok (.iconst 1, 1) := by decide +kernel
theorem dL_law_552 : decode cL_law 552 = .ok (.iadd, 1) := by decide +kernel
theorem dL_law_553 : decode cL_law 553 = .ok (.iaload, 1) := by decide +kernel
theorem dL_law_554 : decode cL_law 554 = .ok (.aload_n 0, 1) := by decide +kernel
theorem dL_law_555 : decode cL_law 555 = .ok (.iload_n 3, 1) := by decide +kernel
theorem dL_law_556 : decode cL_law 556 = .ok (.iconst 2, 1) := by decide +kernel
theorem dL_law_557 : decode cL_law 557 = .ok (.iadd, 1) := by decide +kernel
theorem dL_law_558 : decode cL_law 558 = .ok (.iaload, 1) := by decide +kernel
theorem dL_law_559 : decode cL_law 559 = .ok (.aload_n 0, 1) := by decide +kernel
theorem dL_law_560 : decode cL_law 560 = .ok (.iload_n 3, 1) := by decide +kernel
theorem dL_law_561 : decode cL_law 561 = .ok (.iconst 3, 1) := by decide +kernel
theorem dL_law_562 : decode cL_law 562 = .ok (.iadd, 1) := by decide +kernel
theorem dL_law_563 : decode cL_law 563 = .ok (.iaload, 1) := by decide +kernel
theorem dL_law_564 : decode cL_law 564 = .ok (.invokevirtual 56, 3) := by decide +kernel
theorem dL_law_567 : decode cL_law 567 = .ok (.if_icmp .eq 777, 3) := by decide +kernel
theorem dL_law_572 : decode cL_law 572 = .ok (.aload_n 1, 1) := by decide +kernel
theorem dL_law_573 : decode cL_law 573 = .ok (.aload_n 0, 1) := by decide +kernel
theorem dL_law_574 : decode cL_law 574 = .ok (.iload_n 3, 1) := by decide +kernel
theorem dL_law_575 : decode cL_law 575 = .ok (.iconst 1, 1) := by decide +kernel
theorem dL_law_576 : decode cL_law 576 = .ok (.iadd, 1) := by decide +kernel
theorem dL_law_577 : decode cL_law 577 = .ok (.iaload, 1) := by decide +kernel
theorem dL_law_578 : decode cL_law 578 = .ok (.aload_n 0, 1) := by decide +kernel
theorem dL_law_579 : decode cL_law 579 = .ok (.iload_n 3, 1) := by decide +kernel
theorem dL_law_580 : decode cL_law 580 = .ok (.iconst 2, 1) := by decide +kernel
theorem dL_law_581 : decode cL_law 581 = .ok (.iadd, 1) := by decide +kernel
theorem dL_law_582 : decode cL_law 582 = .ok (.iaload, 1) := by decide +kernel
theorem dL_law_583 : decode cL_law 583 = .ok (.aload_n 0, 1) := by decide +kernel
theorem dL_law_584 : decode cL_law 584 = .ok (.iload_n 3, 1) := by decide +kernel
theorem dL_law_585 : decode cL_law 585 = .ok (.iconst 3, 1) := by decide +kernel
theorem dL_law_586 : decode cL_law 586 = .ok (.iadd, 1) := by decide +kernel
theorem dL_law_587 : decode cL_law 587 = .ok (.iaload, 1) := by decide +kernel
theorem dL_law_588 : decode cL_law 588 = .ok (.aload_n 0, 1) := by decide +kernel
theorem dL_law_589 : decode cL_law 589 = .ok (.iload_n 3, 1) := by decide +kernel
theorem dL_law_590 : decode cL_law 590 = .ok (.iconst 4, 1) := by decide +kernel
theorem dL_law_591 : decode cL_law 591 = .ok (.iadd, 1) := by decide +kernel
theorem dL_law_592 : decode cL_law 592 = .ok (.iaload, 1) := by decide +kernel
theorem dL_law_593 : decode cL_law 593 = .ok (.invokevirtual 57, 3) := by decide +kernel
theorem dL_law_596 : decode cL_law 596 = .ok (.aload_n 2, 1) := by decide +kernel
theorem dL_law_597 : decode cL_law 597 = .ok (.aload_n 0, 1) := by decide +kernel
theorem dL_law_598 : decode cL_law 598 = .ok (.iload_n 3, 1) := by decide +kernel
theorem dL_law_599 : decode cL_law 599 = .ok (.iconst 1, 1) := by decide +kernel
theorem dL_law_600 : decode cL_law 600 = .ok (.iadd, 1) := by decide +kernel
theorem dL_law_601 : decode cL_law 601 = .ok (.iaload, 1) := by decide +kernel
theorem dL_law_602 : decode cL_law 602 = .ok (.aload_n 0, 1) := by decide +kernel
theorem dL_law_603 : decode cL_law 603 = .ok (.iload_n 3, 1) := by decide +kernel
theorem dL_law_604 : decode cL_law 604 = .ok (.iconst 2, 1) := by decide +kernel
theorem dL_law_605 : decode cL_law 605 = .ok (.iadd, 1) := by decide +kernel
theorem dL_law_606 : decode cL_law 606 = .ok (.iaload, 1) := by decide +kernel
theorem dL_law_607 : decode cL_law 607 = .ok (.aload_n 0, 1) := by decide +kernel
theorem dL_law_608 : decode cL_law 608 = .ok (.iload_n 3, 1) := by decide +kernel
theorem dL_law_609 : decode cL_law 609 = .ok (.iconst 3, 1) := by decide +kernel
theorem dL_law_610 : decode cL_law 610 = .ok (.iadd, 1) := by decide +kernel
theorem dL_law_611 : decode cL_law 611 = .ok (.iaload, 1) := by decide +kernel
theorem dL_law_612 : decode cL_law 612 = .ok (.aload_n 0, 1) := by decide +kernel
theorem dL_law_613 : decode cL_law 613 = .ok (.iload_n 3, 1) := by decide +kernel
theorem dL_law_614 : decode cL_law 614 = .ok (.iconst 4, 1) := by decide +kernel
theorem dL_law_615 : decode cL_law 615 = .ok (.iadd, 1) := by decide +kernel
theorem dL_law_616 : decode cL_law 616 = .ok (.iaload, 1) := by decide +kernel
theorem dL_law_617 : decode cL_law 617 = .ok (.invokevirtual 61, 3) := by decide +kernel
theorem dL_law_620 : decode cL_law 620 = .ok (.if_icmp .eq 724, 3) := by decide +kernel
theorem dL_law_625 : decode cL_law 625 = .ok (.aload_n 1, 1) := by decide +kernel
theorem dL_law_626 : decode cL_law 626 = .ok (.aload_n 0, 1) := by decide +kernel
theorem dL_law_627 : decode cL_law 627 = .ok (.iload_n 3, 1) := by decide +kernel
theorem dL_law_628 : decode cL_law 628 = .ok (.iconst 1, 1) := by decide +kernel
theorem dL_law_629 : decode cL_law 629 = .ok (.iadd, 1) := by decide +kernel
theorem dL_law_630 : decode cL_law 630 = .ok (.iaload, 1) := by decide +kernel
theorem dL_law_631 : decode cL_law 631 = .ok (.aload_n 0, 1) := by decide +kernel
theorem dL_law_632 : decode cL_law 632 = .ok (.iload_n 3, 1) := by decide +kernel
theorem dL_law_633 : decode cL_law 633 = .ok (.iconst 2, 1) := by decide +kernel
theorem dL_law_634 : decode cL_law 634 = .ok (.iadd, 1) := by decide +kernel
theorem dL_law_635 : decode cL_law 635 = .ok (.iaload, 1) := by decide +kernel
theorem dL_law_636 : decode cL_law 636 = .ok (.aload_n 0, 1) := by decide +kernel
theorem dL_law_637 : decode cL_law 637 = .ok (.iload_n 3, 1) := by decide +kernel
theorem dL_law_638 : decode cL_law 638 = .ok (.iconst 3, 1) := by decide +kernel
theorem dL_law_639 : decode cL_law 639 = .ok (.iadd, 1) := by decide +kernel
theorem dL_law_640 : decode cL_law 640 = .ok (.iaload, 1) := by decide +kernel
theorem dL_law_641 : decode cL_law 641 = .ok (.aload_n 0, 1) := by decide +kernel
theorem dL_law_642 : decode cL_law 642 = .ok (.iload_n 3, 1) := by decide +kernel
theorem dL_law_643 : decode cL_law 643 = .ok (.iconst 4, 1) := by decide +kernel
theorem dL_law_644 : decode cL_law 644 = .ok (.iadd, 1) := by decide +kernel
theorem dL_law_645 : decode cL_law 645 = .ok (.iaload, 1) := by decide +kernel
theorem dL_law_646 : decode cL_law 646 = .ok (.invokevirtual 62, 3) := by decide +kernel
theorem dL_law_649 : decode cL_law 649 = .ok (.aload_n 2, 1) := by decide +kernel
theorem dL_law_650 : decode cL_law 650 = .ok (.aload_n 0, 1) := by decide +kernel
theorem dL_law_651 : decode cL_law 651 = .ok (.iload_n 3, 1) := by decide +kernel
theorem dL_law_652 : decode cL_law 652 = .ok (.iconst 1, 1) := by decide +kernel
theorem dL_law_653 : decode cL_law 653 = .ok (.iadd, 1) := by decide +kernel
theorem dL_law_654 : decode cL_law 654 = .ok (.iaload, 1) := by decide +kernel
theorem dL_law_655 : decode cL_law 655 = .ok (.aload_n 0, 1) := by decide +kernel
theorem dL_law_656 : decode cL_law 656 = .ok (.iload_n 3, 1) := by decide +kernel
theorem dL_law_657 : decode cL_law 657 = .ok (.iconst 2, 1) := by decide +kernel
theorem dL_law_658 : decode cL_law 658 = .ok (.iadd, 1) := by decide +kernel
theorem dL_law_659 : decode cL_law 659 = .ok (.iaload, 1) := by decide +kernel
theorem dL_law_660 : decode cL_law 660 = .ok (.aload_n 0, 1) := by decide +kernel
theorem dL_law_661 : decode cL_law 661 = .ok (.iload_n 3, 1) := by decide +kernel
theorem dL_law_662 : decode cL_law 662 = .ok (.iconst 3, 1) := by decide +kernel
theorem dL_law_663 : decode cL_law 663 = .ok (.iadd, 1) := by decide +kernel
theorem dL_law_664 : decode cL_law 664 = .ok (.iaload, 1) := by decide +kernel
theorem dL_law_665 : decode cL_law 665 = .ok (.aload_n 0, 1) := by decide +kernel
theorem dL_law_666 : decode cL_law 666 = .ok (.iload_n 3, 1) := by decide +kernel
theorem dL_law_667 : decode cL_law 667 = .ok (.iconst 4, 1) := by decide +kernel
theorem dL_law_668 : decode cL_law 668 = .ok (.iadd, 1) := by decide +kernel
theorem dL_law_669 : decode cL_law 669 = .ok (.iaload, 1) := by decide +kernel
theorem dL_law_670 : decode cL_law 670 = .ok (.invokevirtual 65, 3) := by decide +kernel
theorem dL_law_673 : decode cL_law 673 = .ok (.if_icmp .eq 671, 3) := by decide +kernel
section LWK
variable {p : Program} {l : Launch} {e : Env} {s : State} {m : MethodId} {below : List Frame} {meth : Method} {c : Code} {cells slots : Nat} {Q : State → Prop} {D : va_G} {G : pm_G} {b L sa sv : Nat} {xs : Nat → Int32}
set_option maxHeartbeats 4000000 in
set_option maxRecDepth 100000 in
theorem law_c6 (C : lw_C p s m c b L xs D G sa sv) {i : Nat} (hi : i + 6 ≤ L) {ls : Array Slot} (hl : lv_has ls 4 (lw_L s b i)) {j : pH} {H : Heap} {locs : List Loc} (I : lw_I D G s j H locs) (hcs : cells ≤ 600000 ∧ slots ≤ 7302250) (kk : ∀ (j1 : pH) (H1 : Heap) (locs1 : List Loc), lw_I D G s j1 H1 locs1 → W p l e room_1 s m #[Value.ref b] below meth c H1 locs1 cells slots Q (F0 m 1344 ls [])) : W p l e room_1 s m #[Value.ref b] below meth c H locs cells slots Q (F0 m 430 ls []) := by
  obtain ⟨hx, hb, hml, hown, hts, -, -, -, -, -, hL3⟩ := id C
  obtain ⟨hok, al, ft, hP, hS⟩ := I
  obtain ⟨a1, a2, ft2⟩ := joint (H := fun h => H_X11_price (lw_x xs i 1).toInt (lw_x xs i 2).toInt h) (G := fun g => H_X12_price (lw_x xs i 1).toInt (lw_x xs i 2).toInt g) al ft (fun h g al => (m_price al (lw_x xs i 1).toInt (lw_x xs i 2).toInt).2.2.2)
  have a1 : AL j (H_X11_price (lw_x xs i 1).toInt (lw_x xs i 2).toInt j) := a1
  have a2 : AL (H_X12_price (lw_x xs i 1).toInt (lw_x xs i 2).toInt (H_X11_price (lw_x xs i 1).toInt (lw_x xs i 2).toInt j)) (H_X12_price (lw_x xs i 1).toInt (lw_x xs i 2).toInt (H_X11_price (lw_x xs i 1).toInt (lw_x xs i 2).toInt j)) := a2
  have ft2 : FIT (H_X12_price (lw_x xs i 1).toInt (lw_x xs i 2).toInt (H_X11_price (lw_x xs i 1).toInt (lw_x xs i 2).toInt j)) := ft2
  have q1 := m_price al (lw_x xs i 1).toInt (lw_x xs i 2).toInt
  have q2 := m_price a1 (lw_x xs i 1).toInt (lw_x xs i 2).toInt
  have hF : (F_X11_price (lw_x xs i 1).toInt (lw_x xs i 2).toInt j) = (F_X12_price (lw_x xs i 1).toInt (lw_x xs i 2).toInt (H_X11_price (lw_x xs i 1).toInt (lw_x xs i 2).toInt j)) := q2.2.2.1
  refine lv_aload_n hx hb dL_law_430 rfl (lv_at hl 2 rfl) ?_
  refine lw_ld C (kn := 1) (by omega) hl hS dL_law_431 dL_law_432 dL_law_433 (by decide) dL_law_434 dL_law_435 ?_
  refine lw_ld C (kn := 2) (by omega) hl hS dL_law_436 dL_law_437 dL_law_438 (by decide) dL_law_439 dL_law_440 ?_
  refine lw_call C (k := 102) (tag := 13) (a := 0) (as := [(0, (lw_x xs i 1).toInt), (0, (lw_x xs i 2).toInt)]) (rv := .int (Int32.ofInt (F_X11_price (lw_x xs i 1).toInt (lw_x xs i 2).toInt j))) (rest := []) (by decide) hok hP hS (c_X11_price (lw_x xs i 1).toInt (lw_x xs i 2).toInt j (q1.1)) rfl rfl (by decide) (List.forall_mem_cons.mpr ⟨lw_ok0, List.forall_mem_cons.mpr ⟨lw_oki (lw_x xs i 1), List.forall_mem_cons.mpr ⟨lw_oki (lw_x xs i 2), fun _ h => absurd h List.not_mem_nil⟩⟩⟩) (pm_TB_in (j := 598) (by decide +kernel) rfl) (by decide +kernel) hl.1 (Nat.le_of_ble_eq_true rfl) (by rw [show ([(0, (lw_x xs i 1).toInt), (0, (lw_x xs i 2).toInt)] : List pV).map (pm_emb (lw_ad s) sa) = [Value.int (lw_x xs i 1), Value.int (lw_x xs i 2)] from by simp only [List.map_cons, List.map_nil, lw_ei, lw_el]]; rfl) rfl hcs dL_law_441 (fun H locs hok hP hS => ?_)
  refine lv_aload_n hx hb dL_law_444 rfl (lv_at hl 3 rfl) ?_
  refine lw_ld C (kn := 1) (by omega) hl hS dL_law_445 dL_law_446 dL_law_447 (by decide) dL_law_448 dL_law_449 ?_
  refine lw_ld C (kn := 2) (by omega) hl hS dL_law_450 dL_law_451 dL_law_452 (by decide) dL_law_453 dL_law_454 ?_
  refine lw_call C (k := 152) (tag := 14) (a := 248) (as := [(0, (lw_x xs i 1).toInt), (0, (lw_x xs i 2).toInt)]) (rv := .int (Int32.ofInt (F_X12_price (lw_x xs i 1).toInt (lw_x xs i 2).toInt (H_X11_price (lw_x xs i 1).toInt (lw_x xs i 2).toInt j)))) (rest := [Value.int (Int32.ofInt (F_X11_price (lw_x xs i 1).toInt (lw_x xs i 2).toInt j))]) (by decide) hok hP hS (c_X12_price (lw_x xs i 1).toInt (lw_x xs i 2).toInt (H_X11_price (lw_x xs i 1).toInt (lw_x xs i 2).toInt j) (q2.2.1)) rfl rfl (by decide) (List.forall_mem_cons.mpr ⟨lw_ok248, List.forall_mem_cons.mpr ⟨lw_oki (lw_x xs i 1), List.forall_mem_cons.mpr ⟨lw_oki (lw_x xs i 2), fun _ h => absurd h List.not_mem_nil⟩⟩⟩) (pm_TB_in (j := 1415) (by decide +kernel) rfl) (by decide +kernel) hl.1 (Nat.le_of_ble_eq_true rfl) (by rw [show ([(0, (lw_x xs i 1).toInt), (0, (lw_x xs i 2).toInt)] : List pV).map (pm_emb (lw_ad s) sa) = [Value.int (lw_x xs i 1), Value.int (lw_x xs i 2)] from by simp only [List.map_cons, List.map_nil, lw_ei, lw_el]]; rfl) rfl hcs dL_law_455 (fun H locs hok hP hS => ?_)
  exact lv_icmp_eq (tgt := 1344) hx hb dL_law_458 (by decide) (fun _ => kk _ H locs ⟨hok, a2, ft2, hP, hS⟩) (fun c9 => absurd (congrArg Int32.ofInt hF) c9)
set_option maxHeartbeats 4000000 in
set_option maxRecDepth 100000 in
theorem law_c7 (C : lw_C p s m c b L xs D G sa sv) {i : Nat} (hi : i + 6 ≤ L) {ls : Array Slot} (hl : lv_has ls 4 (lw_L s b i)) {j : pH} {H : Heap} {locs : List Loc} (I : lw_I D G s j H locs) (hcs : cells ≤ 600000 ∧ slots ≤ 7302250) (kk : ∀ (j1 : pH) (H1 : Heap) (locs1 : List Loc), lw_I D G s j1 H1 locs1 → W p l e room_1 s m #[Value.ref b] below meth c H1 locs1 cells slots Q (F0 m 1344 ls [])) : W p l e room_1 s m #[Value.ref b] below meth c H locs cells slots Q (F0 m 463 ls []) := by
  obtain ⟨hx, hb, hml, hown, hts, -, -, -, -, -, hL3⟩ := id C
  obtain ⟨hok, al, ft, hP, hS⟩ := I
  obtain ⟨a1, a2, ft2⟩ := joint (H := fun h => H_X11_store (lw_x xs i 1).toInt (lw_x xs i 2).toInt (lw_x xs i 3).toInt h) (G := fun g => H_X12_store (lw_x xs i 1).toInt (lw_x xs i 2).toInt (lw_x xs i 3).toInt g) al ft (fun h g al => (m_store al (lw_x xs i 1).toInt (lw_x xs i 2).toInt (lw_x xs i 3).toInt).2)
  have a1 : AL j (H_X11_store (lw_x xs i 1).toInt (lw_x xs i 2).toInt (lw_x xs i 3).toInt j) := a1
  have a2 : AL (H_X12_store (lw_x xs i 1).toInt (lw_x xs i 2).toInt (lw_x xs i 3).toInt (H_X11_store (lw_x xs i 1).toInt (lw_x xs i 2).toInt (lw_x xs i 3).toInt j)) (H_X12_store (lw_x xs i 1).toInt (lw_x xs i 2).toInt (lw_x xs i 3).toInt (H_X11_store (lw_x xs i 1).toInt (lw_x xs i 2).toInt (lw_x xs i 3).toInt j)) := a2
  have ft2 : FIT (H_X12_store (lw_x xs i 1).toInt (lw_x xs i 2).toInt (lw_x xs i 3).toInt (H_X11_store (lw_x xs i 1).toInt (lw_x xs i 2).toInt (lw_x xs i 3).toInt j)) := ft2
  have q1 := m_store al (lw_x xs i 1).toInt (lw_x xs i 2).toInt (lw_x xs i 3).toInt
  have q2 := m_store a1 (lw_x xs i 1).toInt (lw_x xs i 2).toInt (lw_x xs i 3).toInt
  have hF : (F_X11_store (lw_x xs i 1).toInt (lw_x xs i 2).toInt (lw_x xs i 3).toInt j) = (F_X12_store (lw_x xs i 1).toInt (lw_x xs i 2).toInt (lw_x xs i 3).toInt (H_X11_store (lw_x xs i 1).toInt (lw_x xs i 2).toInt (lw_x xs i 3).toInt j)) := q2.1
  refine lv_aload_n hx hb dL_law_463 rfl (lv_at hl 2 rfl) ?_
  refine lw_ld C (kn := 1) (by omega) hl hS dL_law_464 dL_law_465 dL_law_466 (by decide) dL_law_467 dL_law_468 ?_
  refine lw_ld C (kn := 2) (by omega) hl hS dL_law_469 dL_law_470 dL_law_471 (by decide) dL_law_472 dL_law_473 ?_
  refine lw_ld C (kn := 3) (by omega) hl hS dL_law_474 dL_law_475 dL_law_476 (by decide) dL_law_477 dL_law_478 ?_
  refine lw_call C (k := 103) (tag := 13) (a := 0) (as := [(0, (lw_x xs i 1).toInt), (0, (lw_x xs i 2).toInt), (0, (lw_x xs i 3).toInt)]) (rv := .int (Int32.ofInt (F_X11_store (lw_x xs i 1).toInt (lw_x xs i 2).toInt (lw_x xs i 3).toInt j))) (rest := []) (by decide) hok hP hS (c_X11_store (lw_x xs i 1).toInt (lw_x xs i 2).toInt (lw_x xs i 3).toInt j) rfl rfl (by decide) (List.forall_mem_cons.mpr ⟨lw_ok0, List.forall_mem_cons.mpr ⟨lw_oki (lw_x xs i 1), List.forall_mem_cons.mpr ⟨lw_oki (lw_x xs i 2), List.forall_mem_cons.mpr ⟨lw_oki (lw_x xs i 3), fun _ h => absurd h List.not_mem_nil⟩⟩⟩⟩) (pm_TB_in (j := 602) (by decide +kernel) rfl) (by decide +kernel) hl.1 (Nat.le_of_ble_eq_true rfl) (by rw [show ([(0, (lw_x xs i 1).toInt), (0, (lw_x xs i 2).toInt), (0, (lw_x xs i 3).toInt)] : List pV).map (pm_emb (lw_ad s) sa) = [Value.int (lw_x xs i 1), Value.int (lw_x xs i 2), Value.int (lw_x xs i 3)] from by simp only [List.map_cons, List.map_nil, lw_ei, lw_el]]; rfl) rfl hcs dL_law_479 (fun H locs hok hP hS => ?_)
  refine lv_aload_n hx hb dL_law_482 rfl (lv_at hl 3 rfl) ?_
  refine lw_ld C (kn := 1) (by omega) hl hS dL_law_483 dL_law_484 dL_law_485 (by decide) dL_law_486 dL_law_487 ?_
  refine lw_ld C (kn := 2) (by omega) hl hS dL_law_488 dL_law_489 dL_law_490 (by decide) dL_law_491 dL_law_492 ?_
  refine lw_ld C (kn := 3) (by omega) hl hS dL_law_493 dL_law_494 dL_law_495 (by decide) dL_law_496 dL_law_497 ?_
  refine lw_call C (k := 153) (tag := 14) (a := 248) (as := [(0, (lw_x xs i 1).toInt), (0, (lw_x xs i 2).toInt), (0, (lw_x xs i 3).toInt)]) (rv := .int (Int32.ofInt (F_X12_store (lw_x xs i 1).toInt (lw_x xs i 2).toInt (lw_x xs i 3).toInt (H_X11_store (lw_x xs i 1).toInt (lw_x xs i 2).toInt (lw_x xs i 3).toInt j)))) (rest := [Value.int (Int32.ofInt (F_X11_store (lw_x xs i 1).toInt (lw_x xs i 2).toInt (lw_x xs i 3).toInt j))]) (by decide) hok hP hS (c_X12_store (lw_x xs i 1).toInt (lw_x xs i 2).toInt (lw_x xs i 3).toInt (H_X11_store (lw_x xs i 1).toInt (lw_x xs i 2).toInt (lw_x xs i 3).toInt j)) rfl rfl (by decide) (List.forall_mem_cons.mpr ⟨lw_ok248, List.forall_mem_cons.mpr ⟨lw_oki (lw_x xs i 1), List.forall_mem_cons.mpr ⟨lw_oki (lw_x xs i 2), List.forall_mem_cons.mpr ⟨lw_oki (lw_x xs i 3), fun _ h => absurd h List.not_mem_nil⟩⟩⟩⟩) (pm_TB_in (j := 1421) (by decide +kernel) rfl) (by decide +kernel) hl.1 (Nat.le_of_ble_eq_true rfl) (by rw [show ([(0, (lw_x xs i 1).toInt), (0, (lw_x xs i 2).toInt), (0, (lw_x xs i 3).toInt)] : List pV).map (pm_emb (lw_ad s) sa) = [Value.int (lw_x xs i 1), Value.int (lw_x xs i 2), Value.int (lw_x xs i 3)] from by simp only [List.map_cons, List.map_nil, lw_ei, lw_el]]; rfl) rfl hcs dL_law_498 (fun H locs hok hP hS => ?_)
  exact lv_icmp_eq (tgt := 1344) hx hb dL_law_501 (by decide) (fun _ => kk _ H locs ⟨hok, a2, ft2, hP, hS⟩) (fun c9 => absurd (congrArg Int32.ofInt hF) c9)
set_option maxHeartbeats 4000000 in
set_option maxRecDepth 100000 in
theorem law_c8 (C : lw_C p s m c b L xs D G sa sv) {i : Nat} (hi : i + 6 ≤ L) {ls : Array Slot} (hl : lv_has ls 4 (lw_L s b i)) {j : pH} {H : Heap} {locs : List Loc} (I : lw_I D G s j H locs) (hcs : cells ≤ 600000 ∧ slots ≤ 7302250) (kk : ∀ (j1 : pH) (H1 : Heap) (locs1 : List Loc), lw_I D G s j1 H1 locs1 → W p l e room_1 s m #[Value.ref b] below meth c H1 locs1 cells slots Q (F0 m 1344 ls [])) : W p l e room_1 s m #[Value.ref b] below meth c H locs cells slots Q (F0 m 506 ls []) := by
  obtain ⟨hx, hb, hml, hown, hts, -, -, -, -, -, hL3⟩ := id C
  obtain ⟨hok, al, ft, hP, hS⟩ := I
  obtain ⟨a1, a2, ft2⟩ := joint (H := fun h => H_X11_late (lw_x xs i 1).toInt h) (G := fun g => H_X12_late (lw_x xs i 1).toInt g) al ft (fun h g al => (m_late al (lw_x xs i 1).toInt).2.2)
  have a1 : AL j (H_X11_late (lw_x xs i 1).toInt j) := a1
  have a2 : AL (H_X12_late (lw_x xs i 1).toInt (H_X11_late (lw_x xs i 1).toInt j)) (H_X12_late (lw_x xs i 1).toInt (H_X11_late (lw_x xs i 1).toInt j)) := a2
  have ft2 : FIT (H_X12_late (lw_x xs i 1).toInt (H_X11_late (lw_x xs i 1).toInt j)) := ft2
  have q1 := m_late al (lw_x xs i 1).toInt
  have q2 := m_late a1 (lw_x xs i 1).toInt
  have hF : (F_X11_late (lw_x xs i 1).toInt j) = (F_X12_late (lw_x xs i 1).toInt (H_X11_late (lw_x xs i 1).toInt j)) := q2.2.1
  refine lv_aload_n hx hb dL_law_506 rfl (lv_at hl 2 rfl) ?_
  refine lw_ld C (kn := 1) (by omega) hl hS dL_law_507 dL_law_508 dL_law_509 (by decide) dL_law_510 dL_law_511 ?_
  refine lw_call C (k := 104) (tag := 13) (a := 0) (as := [(0, (lw_x xs i 1).toInt)]) (rv := .int (Int32.ofInt (F_X11_late (lw_x xs i 1).toInt j))) (rest := []) (by decide) hok hP hS (c_X11_late (lw_x xs i 1).toInt j) rfl rfl (by decide) (List.forall_mem_cons.mpr ⟨lw_ok0, List.forall_mem_cons.mpr ⟨lw_oki (lw_x xs i 1), fun _ h => absurd h List.not_mem_nil⟩⟩) (pm_TB_in (j := 606) (by decide +kernel) rfl) (by decide +kernel) hl.1 (Nat.le_of_ble_eq_true rfl) (by rw [show ([(0, (lw_x xs i 1).toInt)] : List pV).map (pm_emb (lw_ad s) sa) = [Value.int (lw_x xs i 1)] from by simp only [List.map_cons, List.map_nil, lw_ei, lw_el]]; rfl) rfl hcs dL_law_512 (fun H locs hok hP hS => ?_)
  refine lv_aload_n hx hb dL_law_515 rfl (lv_at hl 3 rfl) ?_
  refine lw_ld C (kn := 1) (by omega) hl hS dL_law_516 dL_law_517 dL_law_518 (by decide) dL_law_519 dL_law_520 ?_
  refine lw_call C (k := 154) (tag := 14) (a := 248) (as := [(0, (lw_x xs i 1).toInt)]) (rv := .int (Int32.ofInt (F_X12_late (lw_x xs i 1).toInt (H_X11_late (lw_x xs i 1).toInt j)))) (rest := [Value.int (Int32.ofInt (F_X11_late (lw_x xs i 1).toInt j))]) (by decide) hok hP hS (c_X12_late (lw_x xs i 1).toInt (H_X11_late (lw_x xs i 1).toInt j) (q2.1)) rfl rfl (by decide) (List.forall_mem_cons.mpr ⟨lw_ok248, List.forall_mem_cons.mpr ⟨lw_oki (lw_x xs i 1), fun _ h => absurd h List.not_mem_nil⟩⟩) (pm_TB_in (j := 1425) (by decide +kernel) rfl) (by decide +kernel) hl.1 (Nat.le_of_ble_eq_true rfl) (by rw [show ([(0, (lw_x xs i 1).toInt)] : List pV).map (pm_emb (lw_ad s) sa) = [Value.int (lw_x xs i 1)] from by simp only [List.map_cons, List.map_nil, lw_ei, lw_el]]; rfl) rfl hcs dL_law_521 (fun H locs hok hP hS => ?_)
  exact lv_icmp_eq (tgt := 1344) hx hb dL_law_524 (by decide) (fun _ => kk _ H locs ⟨hok, a2, ft2, hP, hS⟩) (fun c9 => absurd (congrArg Int32.ofInt hF) c9)
set_option maxHeartbeats 4000000 in
set_option maxRecDepth 100000 in
theorem law_c9 (C : lw_C p s m c b L xs D G sa sv) {i : Nat} (hi : i + 6 ≤ L) {ls : Array Slot} (hl : lv_has ls 4 (lw_L s b i)) {j : pH} {H : Heap} {locs : List Loc} (I : lw_I D G s j H locs) (hcs : cells ≤ 600000 ∧ slots ≤ 7302250) (kk : ∀ (j1 : pH) (H1 : Heap) (locs1 : List Loc), lw_I D G s j1 H1 locs1 → W p l e room_1 s m #[Value.ref b] below meth c H1 locs1 cells slots Q (F0 m 1344 ls [])) : W p l e room_1 s m #[Value.ref b] below meth c H locs cells slots Q (F0 m 529 ls []) := by
  obtain ⟨hx, hb, hml, hown, hts, -, -, -, -, -, hL3⟩ := id C
  obtain ⟨hok, al, ft, hP, hS⟩ := I
  obtain ⟨a1, a2, ft2⟩ := joint (H := fun h => H_X11_odds (lw_x xs i 1).toInt (lw_x xs i 2).toInt (lw_x xs i 3).toInt h) (G := fun g => H_X12_odds (lw_x xs i 1).toInt (lw_x xs i 2).toInt (lw_x xs i 3).toInt g) al ft (fun h g al => (m_odds al (lw_x xs i 1).toInt (lw_x xs i 2).toInt (lw_x xs i 3).toInt ⟨(pm_rI (lw_x xs i 3)).1, Int.le_of_lt_add_one (pm_rI (lw_x xs i 3)).2⟩).2)
  have a1 : AL j (H_X11_odds (lw_x xs i 1).toInt (lw_x xs i 2).toInt (lw_x xs i 3).toInt j) := a1
  have a2 : AL (H_X12_odds (lw_x xs i 1).toInt (lw_x xs i 2).toInt (lw_x xs i 3).toInt (H_X11_odds (lw_x xs i 1).toInt (lw_x xs i 2).toInt (lw_x xs i 3).toInt j)) (H_X12_odds (lw_x xs i 1).toInt (lw_x xs i 2).toInt (lw_x xs i 3).toInt (H_X11_odds (lw_x xs i 1).toInt (lw_x xs i 2).toInt (lw_x xs i 3).toInt j)) := a2
  have ft2 : FIT (H_X12_odds (lw_x xs i 1).toInt (lw_x xs i 2).toInt (lw_x xs i 3).toInt (H_X11_odds (lw_x xs i 1).toInt (lw_x xs i 2).toInt (lw_x xs i 3).toInt j)) := ft2
  have q1 := m_odds al (lw_x xs i 1).toInt (lw_x xs i 2).toInt (lw_x xs i 3).toInt ⟨(pm_rI (lw_x xs i 3)).1, Int.le_of_lt_add_one (pm_rI (lw_x xs i 3)).2⟩
  have q2 := m_odds a1 (lw_x xs i 1).toInt (lw_x xs i 2).toInt (lw_x xs i 3).toInt ⟨(pm_rI (lw_x xs i 3)).1, Int.le_of_lt_add_one (pm_rI (lw_x xs i 3)).2⟩
  have hF : (F_X11_odds (lw_x xs i 1).toInt (lw_x xs i 2).toInt (lw_x xs i 3).toInt j) = (F_X12_odds (lw_x xs i 1).toInt (lw_x xs i 2).toInt (lw_x xs i 3).toInt (H_X11_odds (lw_x xs i 1).toInt (lw_x xs i 2).toInt (lw_x xs i 3).toInt j)) := q2.1
  refine lv_aload_n hx hb dL_law_529 rfl (lv_at hl 2 rfl) ?_
  refine lw_ld C (kn := 1) (by omega) hl hS dL_law_530 dL_law_531 dL_law_532 (by decide) dL_law_533 dL_law_534 ?_
  refine lw_ld C (kn := 2) (by omega) hl hS dL_law_535 dL_law_536 dL_law_537 (by decide) dL_law_538 dL_law_539 ?_
  refine lw_ld C (kn := 3) (by omega) hl hS dL_law_540 dL_law_541 dL_law_542 (by decide) dL_law_543 dL_law_544 ?_
  refine lw_call C (k := 105) (tag := 13) (a := 0) (as := [(0, (lw_x xs i 1).toInt), (0, (lw_x xs i 2).toInt), (0, (lw_x xs i 3).toInt)]) (rv := .int (Int32.ofInt (F_X11_odds (lw_x xs i 1).toInt (lw_x xs i 2).toInt (lw_x xs i 3).toInt j))) (rest := []) (by decide) hok hP hS (c_X11_odds (lw_x xs i 1).toInt (lw_x xs i 2).toInt (lw_x xs i 3).toInt j) rfl rfl (by decide) (List.forall_mem_cons.mpr ⟨lw_ok0, List.forall_mem_cons.mpr ⟨lw_oki (lw_x xs i 1), List.forall_mem_cons.mpr ⟨lw_oki (lw_x xs i 2), List.forall_mem_cons.mpr ⟨lw_oki (lw_x xs i 3), fun _ h => absurd h List.not_mem_nil⟩⟩⟩⟩) (pm_TB_in (j := 610) (by decide +kernel) rfl) (by decide +kernel) hl.1 (Nat.le_of_ble_eq_true rfl) (by rw [show ([(0, (lw_x xs i 1).toInt), (0, (lw_x xs i 2).toInt), (0, (lw_x xs i 3).toInt)] : List pV).map (pm_emb (lw_ad s) sa) = [Value.int (lw_x xs i 1), Value.int (lw_x xs i 2), Value.int (lw_x xs i 3)] from by simp only [List.map_cons, List.map_nil, lw_ei, lw_el]]; rfl) rfl hcs dL_law_545 (fun H locs hok hP hS => ?_)
  refine lv_aload_n hx hb dL_law_548 rfl (lv_at hl 3 rfl) ?_
  refine lw_ld C (kn := 1) (by omega) hl hS dL_law_549 dL_law_550 dL_law_551 (by decide) dL_law_552 dL_law_553 ?_
  refine lw_ld C (kn := 2) (by omega) hl hS dL_law_554 dL_law_555 dL_law_556 (by decide) dL_law_557 dL_law_558 ?_
  refine lw_ld C (kn := 3) (by omega) hl hS dL_law_559 dL_law_560 dL_law_561 (by decide) dL_law_562 dL_law_563 ?_
  refine lw_call C (k := 155) (tag := 14) (a := 248) (as := [(0, (lw_x xs i 1).toInt), (0, (lw_x xs i 2).toInt), (0, (lw_x xs i 3).toInt)]) (rv := .int (Int32.ofInt (F_X12_odds (lw_x xs i 1).toInt (lw_x xs i 2).toInt (lw_x xs i 3).toInt (H_X11_odds (lw_x xs i 1).toInt (lw_x xs i 2).toInt (lw_x xs i 3).toInt j)))) (rest := [Value.int (Int32.ofInt (F_X11_odds (lw_x xs i 1).toInt (lw_x xs i 2).toInt (lw_x xs i 3).toInt j))]) (by decide) hok hP hS (c_X12_odds (lw_x xs i 1).toInt (lw_x xs i 2).toInt (lw_x xs i 3).toInt (H_X11_odds (lw_x xs i 1).toInt (lw_x xs i 2).toInt (lw_x xs i 3).toInt j)) rfl rfl (by decide) (List.forall_mem_cons.mpr ⟨lw_ok248, List.forall_mem_cons.mpr ⟨lw_oki (lw_x xs i 1), List.forall_mem_cons.mpr ⟨lw_oki (lw_x xs i 2), List.forall_mem_cons.mpr ⟨lw_oki (lw_x xs i 3), fun _ h => absurd h List.not_mem_nil⟩⟩⟩⟩) (pm_TB_in (j := 1430) (by decide +kernel) rfl) (by decide +kernel) hl.1 (Nat.le_of_ble_eq_true rfl) (by rw [show ([(0, (lw_x xs i 1).toInt), (0, (lw_x xs i 2).toInt), (0, (lw_x xs i 3).toInt)] : List pV).map (pm_emb (lw_ad s) sa) = [Value.int (lw_x xs i 1), Value.int (lw_x xs i 2), Value.int (lw_x xs i 3)] from by simp only [List.map_cons, List.map_nil, lw_ei, lw_el]]; rfl) rfl hcs dL_law_564 (fun H locs hok hP hS => ?_)
  exact lv_icmp_eq (tgt := 1344) hx hb dL_law_567 (by decide) (fun _ => kk _ H locs ⟨hok, a2, ft2, hP, hS⟩) (fun c9 => absurd (congrArg Int32.ofInt hF) c9)
set_option maxHeartbeats 4000000 in
set_option maxRecDepth 100000 in
theorem law_c10 (C : lw_C p s m c b L xs D G sa sv) {i : Nat} (hi : i + 6 ≤ L) {ls : Array Slot} (hl : lv_has ls 4 (lw_L s b i)) {j : pH} {H : Heap} {locs : List Loc} (I : lw_I D G s j H locs) (hcs : cells ≤ 600000 ∧ slots ≤ 7302250) (kk : ∀ (j1 : pH) (H1 : Heap) (locs1 : List Loc), lw_I D G s j1 H1 locs1 → W p l e room_1 s m #[Value.ref b] below meth c H1 locs1 cells slots Q (F0 m 1344 ls [])) : W p l e room_1 s m #[Value.ref b] below meth c H locs cells slots Q (F0 m 572 ls []) := by
  obtain ⟨hx, hb, hml, hown, hts, -, -, -, -, -, hL3⟩ := id C
  obtain ⟨hok, al, ft, hP, hS⟩ := I
  obtain ⟨a1, a2, ft2⟩ := joint (H := fun h => H_X11_house (lw_x xs i 1).toInt (lw_x xs i 2).toInt (lw_x xs i 3).toInt (lw_x xs i 4).toInt h) (G := fun g => H_X12_house (lw_x xs i 1).toInt (lw_x xs i 2).toInt (lw_x xs i 3).toInt (lw_x xs i 4).toInt g) al ft (fun h g al => (m_house al (lw_x xs i 1).toInt (lw_x xs i 2).toInt (lw_x xs i 3).toInt (lw_x xs i 4).toInt).2.2.2)
  have a1 : AL j (H_X11_house (lw_x xs i 1).toInt (lw_x xs i 2).toInt (lw_x xs i 3).toInt (lw_x xs i 4).toInt j) := a1
  have a2 : AL (H_X12_house (lw_x xs i 1).toInt (lw_x xs i 2).toInt (lw_x xs i 3).toInt (lw_x xs i 4).toInt (H_X11_house (lw_x xs i 1).toInt (lw_x xs i 2).toInt (lw_x xs i 3).toInt (lw_x xs i 4).toInt j)) (H_X12_house (lw_x xs i 1).toInt (lw_x xs i 2).toInt (lw_x xs i 3).toInt (lw_x xs i 4).toInt (H_X11_house (lw_x xs i 1).toInt (lw_x xs i 2).toInt (lw_x xs i 3).toInt (lw_x xs i 4).toInt j)) := a2
  have ft2 : FIT (H_X12_house (lw_x xs i 1).toInt (lw_x xs i 2).toInt (lw_x xs i 3).toInt (lw_x xs i 4).toInt (H_X11_house (lw_x xs i 1).toInt (lw_x xs i 2).toInt (lw_x xs i 3).toInt (lw_x xs i 4).toInt j)) := ft2
  have q1 := m_house al (lw_x xs i 1).toInt (lw_x xs i 2).toInt (lw_x xs i 3).toInt (lw_x xs i 4).toInt
  have q2 := m_house a1 (lw_x xs i 1).toInt (lw_x xs i 2).toInt (lw_x xs i 3).toInt (lw_x xs i 4).toInt
  have hF : (F_X11_house (lw_x xs i 1).toInt (lw_x xs i 2).toInt (lw_x xs i 3).toInt (lw_x xs i 4).toInt j) = (F_X12_house (lw_x xs i 1).toInt (lw_x xs i 2).toInt (lw_x xs i 3).toInt (lw_x xs i 4).toInt (H_X11_house (lw_x xs i 1).toInt (lw_x xs i 2).toInt (lw_x xs i 3).toInt (lw_x xs i 4).toInt j)) := q2.2.2.1
  refine lv_aload_n hx hb dL_law_572 rfl (lv_at hl 2 rfl) ?_
  refine lw_ld C (kn := 1) (by omega) hl hS dL_law_573 dL_law_574 dL_law_575 (by decide) dL_law_576 dL_law_577 ?_
  refine lw_ld C (kn := 2) (by omega) hl hS dL_law_578 dL_law_579 dL_law_580 (by decide) dL_law_581 dL_law_582 ?_
  refine lw_ld C (kn := 3) (by omega) hl hS dL_law_583 dL_law_584 dL_law_585 (by decide) dL_law_586 dL_law_587 ?_
  refine lw_ld C (kn := 4) (by omega) hl hS dL_law_588 dL_law_589 dL_law_590 (by decide) dL_law_591 dL_law_592 ?_
  refine lw_call C (k := 106) (tag := 13) (a := 0) (as := [(0, (lw_x xs i 1).toInt), (0, (lw_x xs i 2).toInt), (0, (lw_x xs i 3).toInt), (0, (lw_x xs i 4).toInt)]) (rv := .int (Int32.ofInt (F_X11_house (lw_x xs i 1).toInt (lw_x xs i 2).toInt (lw_x xs i 3).toInt (lw_x xs i 4).toInt j))) (rest := []) (by decide) hok hP hS (c_X11_house (lw_x xs i 1).toInt (lw_x xs i 2).toInt (lw_x xs i 3).toInt (lw_x xs i 4).toInt j (q1.1)) rfl rfl (by decide) (List.forall_mem_cons.mpr ⟨lw_ok0, List.forall_mem_cons.mpr ⟨lw_oki (lw_x xs i 1), List.forall_mem_cons.mpr ⟨lw_oki (lw_x xs i 2), List.forall_mem_cons.mpr ⟨lw_oki (lw_x xs i 3), List.forall_mem_cons.mpr ⟨lw_oki (lw_x xs i 4), fun _ h => absurd h List.not_mem_nil⟩⟩⟩⟩⟩) (pm_TB_in (j := 614) (by decide +kernel) rfl) (by decide +kernel) hl.1 (Nat.le_of_ble_eq_true rfl) (by rw [show ([(0, (lw_x xs i 1).toInt), (0, (lw_x xs i 2).toInt), (0, (lw_x xs i 3).toInt), (0, (lw_x xs i 4).toInt)] : List pV).map (pm_emb (lw_ad s) sa) = [Value.int (lw_x xs i 1), Value.int (lw_x xs i 2), Value.int (lw_x xs i 3), Value.int (lw_x xs i 4)] from by simp only [List.map_cons, List.map_nil, lw_ei, lw_el]]; rfl) rfl hcs dL_law_593 (fun H locs hok hP hS => ?_)
  refine lv_aload_n hx hb dL_law_596 rfl (lv_at hl 3 rfl) ?_
  refine lw_ld C (kn := 1) (by omega) hl hS dL_law_597 dL_law_598 dL_law_599 (by decide) dL_law_600 dL_law_601 ?_
  refine lw_ld C (kn := 2) (by omega) hl hS dL_law_602 dL_law_603 dL_law_604 (by decide) dL_law_605 dL_law_606 ?_
  refine lw_ld C (kn := 3) (by omega) hl hS dL_law_607 dL_law_608 dL_law_609 (by decide) dL_law_610 dL_law_611 ?_
  refine lw_ld C (kn := 4) (by omega) hl hS dL_law_612 dL_law_613 dL_law_614 (by decide) dL_law_615 dL_law_616 ?_
  refine lw_call C (k := 157) (tag := 14) (a := 248) (as := [(0, (lw_x xs i 1).toInt), (0, (lw_x xs i 2).toInt), (0, (lw_x xs i 3).toInt), (0, (lw_x xs i 4).toInt)]) (rv := .int (Int32.ofInt (F_X12_house (lw_x xs i 1).toInt (lw_x xs i 2).toInt (lw_x xs i 3).toInt (lw_x xs i 4).toInt (H_X11_house (lw_x xs i 1).toInt (lw_x xs i 2).toInt (lw_x xs i 3).toInt (lw_x xs i 4).toInt j)))) (rest := [Value.int (Int32.ofInt (F_X11_house (lw_x xs i 1).toInt (lw_x xs i 2).toInt (lw_x xs i 3).toInt (lw_x xs i 4).toInt j))]) (by decide) hok hP hS (c_X12_house (lw_x xs i 1).toInt (lw_x xs i 2).toInt (lw_x xs i 3).toInt (lw_x xs i 4).toInt (H_X11_house (lw_x xs i 1).toInt (lw_x xs i 2).toInt (lw_x xs i 3).toInt (lw_x xs i 4).toInt j) (q2.2.1)) rfl rfl (by decide) (List.forall_mem_cons.mpr ⟨lw_ok248, List.forall_mem_cons.mpr ⟨lw_oki (lw_x xs i 1), List.forall_mem_cons.mpr ⟨lw_oki (lw_x xs i 2), List.forall_mem_cons.mpr ⟨lw_oki (lw_x xs i 3), List.forall_mem_cons.mpr ⟨lw_oki (lw_x xs i 4), fun _ h => absurd h List.not_mem_nil⟩⟩⟩⟩⟩) (pm_TB_in (j := 1434) (by decide +kernel) rfl) (by decide +kernel) hl.1 (Nat.le_of_ble_eq_true rfl) (by rw [show ([(0, (lw_x xs i 1).toInt), (0, (lw_x xs i 2).toInt), (0, (lw_x xs i 3).toInt), (0, (lw_x xs i 4).toInt)] : List pV).map (pm_emb (lw_ad s) sa) = [Value.int (lw_x xs i 1), Value.int (lw_x xs i 2), Value.int (lw_x xs i 3), Value.int (lw_x xs i 4)] from by simp only [List.map_cons, List.map_nil, lw_ei, lw_el]]; rfl) rfl hcs dL_law_617 (fun H locs hok hP hS => ?_)
  exact lv_icmp_eq (tgt := 1344) hx hb dL_law_620 (by decide) (fun _ => kk _ H locs ⟨hok, a2, ft2, hP, hS⟩) (fun c9 => absurd (congrArg Int32.ofInt hF) c9)
set_option maxHeartbeats 4000000 in
set_option maxRecDepth 100000 in
theorem law_c11 (C : lw_C p s m c b L xs D G sa sv) {i : Nat} (hi : i + 6 ≤ L) {ls : Array Slot} (hl : lv_has ls 4 (lw_L s b i)) {j : pH} {H : Heap} {locs : List Loc} (I : lw_I D G s j H locs) (hcs : cells ≤ 600000 ∧ slots ≤ 7302250) (kk : ∀ (j1 : pH) (H1 : Heap) (locs1 : List Loc), lw_I D G s j1 H1 locs1 → W p l e room_1 s m #[Value.ref b] below meth c H1 locs1 cells slots Q (F0 m 1344 ls [])) : W p l e room_1 s m #[Value.ref b] below meth c H locs cells slots Q (F0 m 625 ls []) := by
  obtain ⟨hx, hb, hml, hown, hts, -, -, -, -, -, hL3⟩ := id C
  obtain ⟨hok, al, ft, hP, hS⟩ := I
  obtain ⟨a1, a2, ft2⟩ := joint (H := fun h => H_X11_batch (lw_x xs i 1).toInt (lw_x xs i 2).toInt (lw_x xs i 3).toInt (lw_x xs i 4).toInt h) (G := fun g => H_X12_batch (lw_x xs i 1).toInt (lw_x xs i 2).toInt (lw_x xs i 3).toInt (lw_x xs i 4).toInt g) al ft (fun h g al => (m_batch al (lw_x xs i 1).toInt (lw_x xs i 2).toInt (lw_x xs i 3).toInt (lw_x xs i 4).toInt).2.2.2)
  have a1 : AL j (H_X11_batch (lw_x xs i 1).toInt (lw_x xs i 2).toInt (lw_x xs i 3).toInt (lw_x xs i 4).toInt j) := a1
  have a2 : AL (H_X12_batch (lw_x xs i 1).toInt (lw_x xs i 2).toInt (lw_x xs i 3).toInt (lw_x xs i 4).toInt (H_X11_batch (lw_x xs i 1).toInt (lw_x xs i 2).toInt (lw_x xs i 3).toInt (lw_x xs i 4).toInt j)) (H_X12_batch (lw_x xs i 1).toInt (lw_x xs i 2).toInt (lw_x xs i 3).toInt (lw_x xs i 4).toInt (H_X11_batch (lw_x xs i 1).toInt (lw_x xs i 2).toInt (lw_x xs i 3).toInt (lw_x xs i 4).toInt j)) := a2
  have ft2 : FIT (H_X12_batch (lw_x xs i 1).toInt (lw_x xs i 2).toInt (lw_x xs i 3).toInt (lw_x xs i 4).toInt (H_X11_batch (lw_x xs i 1).toInt (lw_x xs i 2).toInt (lw_x xs i 3).toInt (lw_x xs i 4).toInt j)) := ft2
  have q1 := m_batch al (lw_x xs i 1).toInt (lw_x xs i 2).toInt (lw_x xs i 3).toInt (lw_x xs i 4).toInt
  have q2 := m_batch a1 (lw_x xs i 1).toInt (lw_x xs i 2).toInt (lw_x xs i 3).toInt (lw_x xs i 4).toInt
  have hF : (F_X11_batch (lw_x xs i 1).toInt (lw_x xs i 2).toInt (lw_x xs i 3).toInt (lw_x xs i 4).toInt j) = (F_X12_batch (lw_x xs i 1).toInt (lw_x xs i 2).toInt (lw_x xs i 3).toInt (lw_x xs i 4).toInt (H_X11_batch (lw_x xs i 1).toInt (lw_x xs i 2).toInt (lw_x xs i 3).toInt (lw_x xs i 4).toInt j)) := q2.2.2.1
  refine lv_aload_n hx hb dL_law_625 rfl (lv_at hl 2 rfl) ?_
  refine lw_ld C (kn := 1) (by omega) hl hS dL_law_626 dL_law_627 dL_law_628 (by decide) dL_law_629 dL_law_630 ?_
  refine lw_ld C (kn := 2) (by omega) hl hS dL_law_631 dL_law_632 dL_law_633 (by decide) dL_law_634 dL_law_635 ?_
  refine lw_ld C (kn := 3) (by omega) hl hS dL_law_636 dL_law_637 dL_law_638 (by decide) dL_law_639 dL_law_640 ?_
  refine lw_ld C (kn := 4) (by omega) hl hS dL_law_641 dL_law_642 dL_law_643 (by decide) dL_law_644 dL_law_645 ?_
  refine lw_call C (k := 107) (tag := 13) (a := 0) (as := [(0, (lw_x xs i 1).toInt), (0, (lw_x xs i 2).toInt), (0, (lw_x xs i 3).toInt), (0, (lw_x xs i 4).toInt)]) (rv := .int (Int32.ofInt (F_X11_batch (lw_x xs i 1).toInt (lw_x xs i 2).toInt (lw_x xs i 3).toInt (lw_x xs i 4).toInt j))) (rest := []) (by decide) hok hP hS (c_X11_batch (lw_x xs i 1).toInt (lw_x xs i 2).toInt (lw_x xs i 3).toInt (lw_x xs i 4).toInt j (q1.1)) rfl rfl (by decide) (List.forall_mem_cons.mpr ⟨lw_ok0, List.forall_mem_cons.mpr ⟨lw_oki (lw_x xs i 1), List.forall_mem_cons.mpr ⟨lw_oki (lw_x xs i 2), List.forall_mem_cons.mpr ⟨lw_oki (lw_x xs i 3), List.forall_mem_cons.mpr ⟨lw_oki (lw_x xs i 4), fun _ h => absurd h List.not_mem_nil⟩⟩⟩⟩⟩) (pm_TB_in (j := 637) (by decide +kernel) rfl) (by decide +kernel) hl.1 (Nat.le_of_ble_eq_true rfl) (by rw [show ([(0, (lw_x xs i 1).toInt), (0, (lw_x xs i 2).toInt), (0, (lw_x xs i 3).toInt), (0, (lw_x xs i 4).toInt)] : List pV).map (pm_emb (lw_ad s) sa) = [Value.int (lw_x xs i 1), Value.int (lw_x xs i 2), Value.int (lw_x xs i 3), Value.int (lw_x xs i 4)] from by simp only [List.map_cons, List.map_nil, lw_ei, lw_el]]; rfl) rfl hcs dL_law_646 (fun H locs hok hP hS => ?_)
  refine lv_aload_n hx hb dL_law_649 rfl (lv_at hl 3 rfl) ?_
  refine lw_ld C (kn := 1) (by omega) hl hS dL_law_650 dL_law_651 dL_law_652 (by decide) dL_law_653 dL_law_654 ?_
  refine lw_ld C (kn := 2) (by omega) hl hS dL_law_655 dL_law_656 dL_law_657 (by decide) dL_law_658 dL_law_659 ?_
  refine lw_ld C (kn := 3) (by omega) hl hS dL_law_660 dL_law_661 dL_law_662 (by decide) dL_law_663 dL_law_664 ?_
  refine lw_ld C (kn := 4) (by omega) hl hS dL_law_665 dL_law_666 dL_law_667 (by decide) dL_law_668 dL_law_669 ?_
  refine lw_call C (k := 160) (tag := 14) (a := 248) (as := [(0, (lw_x xs i 1).toInt), (0, (lw_x xs i 2).toInt), (0, (lw_x xs i 3).toInt), (0, (lw_x xs i 4).toInt)]) (rv := .int (Int32.ofInt (F_X12_batch (lw_x xs i 1).toInt (lw_x xs i 2).toInt (lw_x xs i 3).toInt (lw_x xs i 4).toInt (H_X11_batch (lw_x xs i 1).toInt (lw_x xs i 2).toInt (lw_x xs i 3).toInt (lw_x xs i 4).toInt j)))) (rest := [Value.int (Int32.ofInt (F_X11_batch (lw_x xs i 1).toInt (lw_x xs i 2).toInt (lw_x xs i 3).toInt (lw_x xs i 4).toInt j))]) (by decide) hok hP hS (c_X12_batch (lw_x xs i 1).toInt (lw_x xs i 2).toInt (lw_x xs i 3).toInt (lw_x xs i 4).toInt (H_X11_batch (lw_x xs i 1).toInt (lw_x xs i 2).toInt (lw_x xs i 3).toInt (lw_x xs i 4).toInt j) (q2.2.1)) rfl rfl (by decide) (List.forall_mem_cons.mpr ⟨lw_ok248, List.forall_mem_cons.mpr ⟨lw_oki (lw_x xs i 1), List.forall_mem_cons.mpr ⟨lw_oki (lw_x xs i 2), List.forall_mem_cons.mpr ⟨lw_oki (lw_x xs i 3), List.forall_mem_cons.mpr ⟨lw_oki (lw_x xs i 4), fun _ h => absurd h List.not_mem_nil⟩⟩⟩⟩⟩) (pm_TB_in (j := 1443) (by decide +kernel) rfl) (by decide +kernel) hl.1 (Nat.le_of_ble_eq_true rfl) (by rw [show ([(0, (lw_x xs i 1).toInt), (0, (lw_x xs i 2).toInt), (0, (lw_x xs i 3).toInt), (0, (lw_x xs i 4).toInt)] : List pV).map (pm_emb (lw_ad s) sa) = [Value.int (lw_x xs i 1), Value.int (lw_x xs i 2), Value.int (lw_x xs i 3), Value.int (lw_x xs i 4)] from by simp only [List.map_cons, List.map_nil, lw_ei, lw_el]]; rfl) rfl hcs dL_law_670 (fun H locs hok hP hS => ?_)
  exact lv_icmp_eq (tgt := 1344) hx hb dL_law_673 (by decide) (fun _ => kk _ H locs ⟨hok, a2, ft2, hP, hS⟩) (fun c9 => absurd (congrArg Int32.ofInt hF) c9)
end LWK
