/-! THE LAW: cases 6 to 11 (printed by wip/whole/law.py) -/
theorem dL_law_478 : decode code 478 = .ok (.aload_n 1, 1) := by decide +kernel
theorem dL_law_479 : decode code 479 = .ok (.aload_n 0, 1) := by decide +kernel
theorem dL_law_480 : decode code 480 = .ok (.iload_n 3, 1) := by decide +kernel
theorem dL_law_481 : decode code 481 = .ok (.iconst 1, 1) := by decide +kernel
theorem dL_law_482 : decode code 482 = .ok (.iadd, 1) := by decide +kernel
theorem dL_law_483 : decode code 483 = .ok (.iaload, 1) := by decide +kernel
theorem dL_law_484 : decode code 484 = .ok (.aload_n 0, 1) := by decide +kernel
theorem dL_law_485 : decode code 485 = .ok (.iload_n 3, 1) := by decide +kernel
theorem dL_law_486 : decode code 486 = .ok (.iconst 2, 1) := by decide +kernel
theorem dL_law_487 : decode code 487 = .ok (.iadd, 1) := by decide +kernel
theorem dL_law_488 : decode code 488 = .ok (.iaload, 1) := by decide +kernel
theorem dL_law_489 : decode code 489 = .ok (.invokevirtual 40, 3) := by decide +kernel
theorem dL_law_492 : decode code 492 = .ok (.aload_n 2, 1) := by decide +kernel
theorem dL_law_493 : decode code 493 = .ok (.aload_n 0, 1) := by decide +kernel
theorem dL_law_494 : decode code 494 = .ok (.iload_n 3, 1) := by decide +kernel
theorem dL_law_495 : decode code 495 = .ok (.iconst 1, 1) := by decide +kernel
theorem dL_law_496 : decode code 496 = .ok (.iadd, 1) := by decide +kernel
theorem dL_law_497 : decode code 497 = .ok (.iaload, 1) := by decide +kernel
theorem dL_law_498 : decode code 498 = .ok (.aload_n 0, 1) := by decide +kernel
theorem dL_law_499 : decode code 499 = .ok (.iload_n 3, 1) := by decide +kernel
theorem dL_law_500 : decode code 500 = .ok (.iconst 2, 1) := by decide +kernel
theorem dL_law_501 : decode code 501 = .ok (.iadd, 1) := by decide +kernel
theorem dL_law_502 : decode code 502 = .ok (.iaload, 1) := by decide +kernel
theorem dL_law_503 : decode code 503 = .ok (.invokevirtual 43, 3) := by decide +kernel
theorem dL_law_506 : decode code 506 = .ok (.if_icmp .eq 872, 3) := by decide +kernel
theorem dL_law_511 : decode code 511 = .ok (.aload_n 1, 1) := by decide +kernel
theorem dL_law_512 : decode code 512 = .ok (.aload_n 0, 1) := by decide +kernel
theorem dL_law_513 : decode code 513 = .ok (.iload_n 3, 1) := by decide +kernel
theorem dL_law_514 : decode code 514 = .ok (.iconst 1, 1) := by decide +kernel
theorem dL_law_515 : decode code 515 = .ok (.iadd, 1) := by decide +kernel
theorem dL_law_516 : decode code 516 = .ok (.iaload, 1) := by decide +kernel
theorem dL_law_517 : decode code 517 = .ok (.invokevirtual 44, 3) := by decide +kernel
theorem dL_law_520 : decode code 520 = .ok (.aload_n 2, 1) := by decide +kernel
theorem dL_law_521 : decode code 521 = .ok (.aload_n 0, 1) := by decide +kernel
theorem dL_law_522 : decode code 522 = .ok (.iload_n 3, 1) := by decide +kernel
theorem dL_law_523 : decode code 523 = .ok (.iconst 1, 1) := by decide +kernel
theorem dL_law_524 : decode code 524 = .ok (.iadd, 1) := by decide +kernel
theorem dL_law_525 : decode code 525 = .ok (.iaload, 1) := by decide +kernel
theorem dL_law_526 : decode code 526 = .ok (.invokevirtual 48, 3) := by decide +kernel
theorem dL_law_529 : decode code 529 = .ok (.if_icmp .eq 849, 3) := by decide +kernel
theorem dL_law_534 : decode code 534 = .ok (.aload_n 1, 1) := by decide +kernel
theorem dL_law_535 : decode code 535 = .ok (.aload_n 0, 1) := by decide +kernel
theorem dL_law_536 : decode code 536 = .ok (.iload_n 3, 1) := by decide +kernel
theorem dL_law_537 : decode code 537 = .ok (.iconst 1, 1) := by decide +kernel
theorem dL_law_538 : decode code 538 = .ok (.iadd, 1) := by decide +kernel
theorem dL_law_539 : decode code 539 = .ok (.iaload, 1) := by decide +kernel
theorem dL_law_540 : decode code 540 = .ok (.aload_n 0, 1) := by decide +kernel
theorem dL_law_541 : decode code 541 = .ok (.iload_n 3, 1) := by decide +kernel
theorem dL_law_542 : decode code 542 = .ok (.iconst 2, 1) := by decide +kernel
theorem dL_law_543 : decode code 543 = .ok (.iadd, 1) := by decide +kernel
theorem dL_law_544 : decode code 544 = .ok (.iaload, 1) := by decide +kernel
theorem dL_law_545 : decode code 545 = .ok (.ifCond .eq 7, 3) := by decide +kernel
theorem dL_law_548 : decode code 548 = .ok (.iconst 1, 1) := by decide +kernel
theorem dL_law_549 : decode code 549 = .ok (.goto 4, 3) := by decide +kernel
theorem dL_law_552 : decode code 552 = .ok (.iconst 0, 1) := by decide +kernel
theorem dL_law_553 : decode code 553 = .ok (.invokevirtual 49, 3) := by decide +kernel
theorem dL_law_556 : decode code 556 = .ok (.aload_n 2, 1) := by decide +kernel
theorem dL_law_557 : decode code 557 = .ok (.aload_n 0, 1) := by decide +kernel
theorem dL_law_558 : decode code 558 = .ok (.iload_n 3, 1) := by decide +kernel
theorem dL_law_559 : decode code 559 = .ok (.iconst 1, 1) := by decide +kernel
theorem dL_law_560 : decode code 560 = .ok (.iadd, 1) := by decide +kernel
theorem dL_law_561 : decode code 561 = .ok (.iaload, 1) := by decide +kernel
theorem dL_law_562 : decode code 562 = .ok (.aload_n 0, 1) := by decide +kernel
theorem dL_law_563 : decode code 563 = .ok (.iload_n 3, 1) := by decide +kernel
theorem dL_law_564 : decode code 564 = .ok (.iconst 2, 1) := by decide +kernel
theorem dL_law_565 : decode code 565 = .ok (.iadd, 1) := by decide +kernel
theorem dL_law_566 : decode code 566 = .ok (.iaload, 1) := by decide +kernel
theorem dL_law_567 : decode code 567 = .ok (.ifCond .eq 7, 3) := by decide +kernel
theorem dL_law_570 : decode code 570 = .ok (.iconst 1, 1) := by decide +kernel
theorem dL_law_571 : decode code 571 = .ok (.goto 4, 3) := by decide +kernel
theorem dL_law_574 : decode code 574 = .ok (.iconst 0, 1) := by decide +kernel
theorem dL_law_575 : decode code 575 = .ok (.invokevirtual 53, 3) := by decide +kernel
theorem dL_law_578 : decode code 578 = .ok (.if_icmp .eq 800, 3) := by decide +kernel
theorem dL_law_583 : decode code 583 = .ok (.aload_n 1, 1) := by decide +kernel
theorem dL_law_584 : decode code 584 = .ok (.aload_n 0, 1) := by decide +kernel
theorem dL_law_585 : decode code 585 = .ok (.iload_n 3, 1) := by decide +kernel
theorem dL_law_586 : decode code 586 = .ok (.iconst 1, 1) := by decide +kernel
theorem dL_law_587 : decode code 587 = .ok (.iadd, 1) := by decide +kernel
theorem dL_law_588 : decode code 588 = .ok (.iaload, 1) := by decide +kernel
theorem dL_law_589 : decode code 589 = .ok (.invokevirtual 54, 3) := by decide +kernel
theorem dL_law_592 : decode code 592 = .ok (.aload_n 2, 1) := by decide +kernel
theorem dL_law_593 : decode code 593 = .ok (.aload_n 0, 1) := by decide +kernel
theorem dL_law_594 : decode code 594 = .ok (.iload_n 3, 1) := by decide +kernel
theorem dL_law_595 : decode code 595 = .ok (.iconst 1, 1) := by decide +kernel
theorem dL_law_596 : decode code 596 = .ok (.iadd, 1) := by decide +kernel
theorem dL_law_597 : decode code 597 = .ok (.iaload, 1) := by decide +kernel
theorem dL_law_598 : decode code 598 = .ok (.invokevirtual 57, 3) := by decide +kernel
theorem dL_law_601 : decode code 601 = .ok (.if_icmp .eq 777, 3) := by decide +kernel
theorem dL_law_606 : decode code 606 = .ok (.aload_n 1, 1) := by decide +kernel
theorem dL_law_607 : decode code 607 = .ok (.aload_n 0, 1) := by decide +kernel
theorem dL_law_608 : decode code 608 = .ok (.iload_n 3, 1) := by decide +kernel
theorem dL_law_609 : decode code 609 = .ok (.iconst 1, 1) := by decide +kernel
theorem dL_law_610 : decode code 610 = .ok (.iadd, 1) := by decide +kernel
theorem dL_law_611 : decode code 611 = .ok (.iaload, 1) := by decide +kernel
theorem dL_law_612 : decode code 612 = .ok (.invokevirtual 58, 3) := by decide +kernel
theorem dL_law_615 : decode code 615 = .ok (.aload_n 2, 1) := by decide +kernel
theorem dL_law_616 : decode code 616 = .ok (.aload_n 0, 1) := by decide +kernel
theorem dL_law_617 : decode code 617 = .ok (.iload_n 3, 1) := by decide +kernel
theorem dL_law_618 : decode code 618 = .ok (.iconst 1, 1) := by decide +kernel
theorem dL_law_619 : decode code 619 = .ok (.iadd, 1) := by decide +kernel
theorem dL_law_620 : decode code 620 = .ok (.iaload, 1) := by decide +kernel
theorem dL_law_621 : decode code 621 = .ok (.invokevirtual 61, 3) := by decide +kernel
theorem dL_law_624 : decode code 624 = .ok (.if_icmp .eq 754, 3) := by decide +kernel
theorem dL_law_629 : decode code 629 = .ok (.aload_n 1, 1) := by decide +kernel
theorem dL_law_630 : decode code 630 = .ok (.aload_n 0, 1) := by decide +kernel
theorem dL_law_631 : decode code 631 = .ok (.iload_n 3, 1) := by decide +kernel
theorem dL_law_632 : decode code 632 = .ok (.iconst 1, 1) := by decide +kernel
theorem dL_law_633 : decode code 633 = .ok (.iadd, 1) := by decide +kernel
theorem dL_law_634 : decode code 634 = .ok (.iaload, 1) := by decide +kernel
theorem dL_law_635 : decode code 635 = .ok (.invokevirtual 62, 3) := by decide +kernel
theorem dL_law_638 : decode code 638 = .ok (.aload_n 2, 1) := by decide +kernel
theorem dL_law_639 : decode code 639 = .ok (.aload_n 0, 1) := by decide +kernel
theorem dL_law_640 : decode code 640 = .ok (.iload_n 3, 1) := by decide +kernel
theorem dL_law_641 : decode code 641 = .ok (.iconst 1, 1) := by decide +kernel
theorem dL_law_642 : decode code 642 = .ok (.iadd, 1) := by decide +kernel
theorem dL_law_643 : decode code 643 = .ok (.iaload, 1) := by decide +kernel
theorem dL_law_644 : decode code 644 = .ok (.invokevirtual 65, 3) := by decide +kernel
theorem dL_law_647 : decode code 647 = .ok (.if_icmp .eq 731, 3) := by decide +kernel
theorem twl_48 : Cond.methodLink R_law 40 yX6_wedge ∈ Tg := tg_tab (List.mem_of_getElem? (i := 335) (by decide +kernel)) (by decide +kernel)
theorem twl_49 : Cond.code yX6_wedge cX6_wedge 4 (some .int) ∈ Tg := tg_tab (List.mem_of_getElem? (i := 338) (by decide +kernel)) (by decide +kernel)
theorem twl_50 : Cond.instanceMethod yX6_wedge ∈ Tg := tg_tab (List.mem_of_getElem? (i := 336) (by decide +kernel)) (by decide +kernel)
theorem twl_51 : Cond.selects RX6 yX6_wedge yX6_wedge ∈ Tg := tg_tab (List.mem_of_getElem? (i := 337) (by decide +kernel)) (by decide +kernel)
theorem twl_52 : Cond.methodLink R_law 43 yX7_wedge ∈ Tg := tg_tab (List.mem_of_getElem? (i := 958) (by decide +kernel)) (by decide +kernel)
theorem twl_53 : Cond.code yX7_wedge cX7_wedge 4 (some .int) ∈ Tg := tg_tab (List.mem_of_getElem? (i := 961) (by decide +kernel)) (by decide +kernel)
theorem twl_54 : Cond.instanceMethod yX7_wedge ∈ Tg := tg_tab (List.mem_of_getElem? (i := 959) (by decide +kernel)) (by decide +kernel)
theorem twl_55 : Cond.selects RX7 yX7_wedge yX7_wedge ∈ Tg := tg_tab (List.mem_of_getElem? (i := 960) (by decide +kernel)) (by decide +kernel)
theorem twl_56 : Cond.methodLink R_law 44 yX6_slack ∈ Tg := tg_tab (List.mem_of_getElem? (i := 339) (by decide +kernel)) (by decide +kernel)
theorem twl_57 : Cond.code yX6_slack cX6_slack 3 (some .int) ∈ Tg := tg_tab (List.mem_of_getElem? (i := 342) (by decide +kernel)) (by decide +kernel)
theorem twl_58 : Cond.instanceMethod yX6_slack ∈ Tg := tg_tab (List.mem_of_getElem? (i := 340) (by decide +kernel)) (by decide +kernel)
theorem twl_59 : Cond.selects RX6 yX6_slack yX6_slack ∈ Tg := tg_tab (List.mem_of_getElem? (i := 341) (by decide +kernel)) (by decide +kernel)
theorem twl_60 : Cond.methodLink R_law 48 yX7_slack ∈ Tg := tg_tab (List.mem_of_getElem? (i := 962) (by decide +kernel)) (by decide +kernel)
theorem twl_61 : Cond.code yX7_slack cX7_slack 3 (some .int) ∈ Tg := tg_tab (List.mem_of_getElem? (i := 965) (by decide +kernel)) (by decide +kernel)
theorem twl_62 : Cond.instanceMethod yX7_slack ∈ Tg := tg_tab (List.mem_of_getElem? (i := 963) (by decide +kernel)) (by decide +kernel)
theorem twl_63 : Cond.selects RX7 yX7_slack yX7_slack ∈ Tg := tg_tab (List.mem_of_getElem? (i := 964) (by decide +kernel)) (by decide +kernel)
theorem twl_64 : Cond.methodLink R_law 49 yX6_beam ∈ Tg := tg_tab (List.mem_of_getElem? (i := 343) (by decide +kernel)) (by decide +kernel)
theorem twl_65 : Cond.code yX6_beam cX6_beam 4 (some .int) ∈ Tg := tg_tab (List.mem_of_getElem? (i := 346) (by decide +kernel)) (by decide +kernel)
theorem twl_66 : Cond.instanceMethod yX6_beam ∈ Tg := tg_tab (List.mem_of_getElem? (i := 344) (by decide +kernel)) (by decide +kernel)
theorem twl_67 : Cond.selects RX6 yX6_beam yX6_beam ∈ Tg := tg_tab (List.mem_of_getElem? (i := 345) (by decide +kernel)) (by decide +kernel)
theorem twl_68 : Cond.methodLink R_law 53 yX7_beam ∈ Tg := tg_tab (List.mem_of_getElem? (i := 966) (by decide +kernel)) (by decide +kernel)
theorem twl_69 : Cond.code yX7_beam cX7_beam 4 (some .int) ∈ Tg := tg_tab (List.mem_of_getElem? (i := 969) (by decide +kernel)) (by decide +kernel)
theorem twl_70 : Cond.instanceMethod yX7_beam ∈ Tg := tg_tab (List.mem_of_getElem? (i := 967) (by decide +kernel)) (by decide +kernel)
theorem twl_71 : Cond.selects RX7 yX7_beam yX7_beam ∈ Tg := tg_tab (List.mem_of_getElem? (i := 968) (by decide +kernel)) (by decide +kernel)
theorem twl_72 : Cond.methodLink R_law 54 yX6_nights ∈ Tg := tg_tab (List.mem_of_getElem? (i := 351) (by decide +kernel)) (by decide +kernel)
theorem twl_73 : Cond.code yX6_nights cX6_nights 3 (some .int) ∈ Tg := tg_tab (List.mem_of_getElem? (i := 354) (by decide +kernel)) (by decide +kernel)
theorem twl_74 : Cond.instanceMethod yX6_nights ∈ Tg := tg_tab (List.mem_of_getElem? (i := 352) (by decide +kernel)) (by decide +kernel)
theorem twl_75 : Cond.selects RX6 yX6_nights yX6_nights ∈ Tg := tg_tab (List.mem_of_getElem? (i := 353) (by decide +kernel)) (by decide +kernel)
theorem twl_76 : Cond.methodLink R_law 57 yX7_nights ∈ Tg := tg_tab (List.mem_of_getElem? (i := 974) (by decide +kernel)) (by decide +kernel)
theorem twl_77 : Cond.code yX7_nights cX7_nights 3 (some .int) ∈ Tg := tg_tab (List.mem_of_getElem? (i := 977) (by decide +kernel)) (by decide +kernel)
theorem twl_78 : Cond.instanceMethod yX7_nights ∈ Tg := tg_tab (List.mem_of_getElem? (i := 975) (by decide +kernel)) (by decide +kernel)
theorem twl_79 : Cond.selects RX7 yX7_nights yX7_nights ∈ Tg := tg_tab (List.mem_of_getElem? (i := 976) (by decide +kernel)) (by decide +kernel)
theorem twl_80 : Cond.methodLink R_law 58 yX6_now ∈ Tg := tg_tab (List.mem_of_getElem? (i := 361) (by decide +kernel)) (by decide +kernel)
theorem twl_81 : Cond.code yX6_now cX6_now 2 (some .int) ∈ Tg := tg_tab (List.mem_of_getElem? (i := 364) (by decide +kernel)) (by decide +kernel)
theorem twl_82 : Cond.instanceMethod yX6_now ∈ Tg := tg_tab (List.mem_of_getElem? (i := 362) (by decide +kernel)) (by decide +kernel)
theorem twl_83 : Cond.selects RX6 yX6_now yX6_now ∈ Tg := tg_tab (List.mem_of_getElem? (i := 363) (by decide +kernel)) (by decide +kernel)
theorem twl_84 : Cond.methodLink R_law 61 yX7_now ∈ Tg := tg_tab (List.mem_of_getElem? (i := 983) (by decide +kernel)) (by decide +kernel)
theorem twl_85 : Cond.code yX7_now cX7_now 2 (some .int) ∈ Tg := tg_tab (List.mem_of_getElem? (i := 986) (by decide +kernel)) (by decide +kernel)
theorem twl_86 : Cond.instanceMethod yX7_now ∈ Tg := tg_tab (List.mem_of_getElem? (i := 984) (by decide +kernel)) (by decide +kernel)
theorem twl_87 : Cond.selects RX7 yX7_now yX7_now ∈ Tg := tg_tab (List.mem_of_getElem? (i := 985) (by decide +kernel)) (by decide +kernel)
theorem twl_88 : Cond.methodLink R_law 62 yX6_pull ∈ Tg := tg_tab (List.mem_of_getElem? (i := 382) (by decide +kernel)) (by decide +kernel)
theorem twl_89 : Cond.code yX6_pull cX6_pull 3 (some .int) ∈ Tg := tg_tab (List.mem_of_getElem? (i := 385) (by decide +kernel)) (by decide +kernel)
theorem twl_90 : Cond.instanceMethod yX6_pull ∈ Tg := tg_tab (List.mem_of_getElem? (i := 383) (by decide +kernel)) (by decide +kernel)
theorem twl_91 : Cond.selects RX6 yX6_pull yX6_pull ∈ Tg := tg_tab (List.mem_of_getElem? (i := 384) (by decide +kernel)) (by decide +kernel)
theorem twl_92 : Cond.methodLink R_law 65 yX7_pull ∈ Tg := tg_tab (List.mem_of_getElem? (i := 1002) (by decide +kernel)) (by decide +kernel)
theorem twl_93 : Cond.code yX7_pull cX7_pull 3 (some .int) ∈ Tg := tg_tab (List.mem_of_getElem? (i := 1005) (by decide +kernel)) (by decide +kernel)
theorem twl_94 : Cond.instanceMethod yX7_pull ∈ Tg := tg_tab (List.mem_of_getElem? (i := 1003) (by decide +kernel)) (by decide +kernel)
theorem twl_95 : Cond.selects RX7 yX7_pull yX7_pull ∈ Tg := tg_tab (List.mem_of_getElem? (i := 1004) (by decide +kernel)) (by decide +kernel)
theorem lc_6 {L : Nat} {xs : Nat → Int32} {i : Nat} (hL : L ≤ 3072) (hi : i + 6 ≤ L) {σ : St} (I : Inv σ) (nxt : ∀ σ2, Inv σ2 → Lw L xs 1378 (lsL i) [] σ2) : Lw L xs 478 (lsL i) [] σ := by
  refine L_aload_n dL_law_478 rfl (by decide) ?_
  refine L_arg (k := 1) dL_law_479 dL_law_480 dL_law_481 dL_law_482 dL_law_483 (by decide) hL (by omega) ?_
  refine L_arg (k := 2) dL_law_484 dL_law_485 dL_law_486 dL_law_487 dL_law_488 (by decide) hL (by omega) ?_
  refine L_callV (n := 2) (k := 0) (ci := 6) (rest := []) (R' := rmX6_wedge) dL_law_489 ⟨twl_48, tw_141, twl_49, by decide +kernel, by decide +kernel, by decide +kernel⟩ twl_50 (by decide) (by decide) rfl twl_51 ⟨rfl, rfl, Nat.le_of_ble_eq_true rfl, Nat.le_of_ble_eq_true rfl⟩ rfl rfl (Nat.le_of_ble_eq_true rfl) (mt_X6_wedge _ _ σ _ (pp_wedge I _ _)) (fun r σ1 q => ?_)
  obtain ⟨x, rfl, q⟩ := q
  refine L_aload_n dL_law_492 rfl (by decide) ?_
  refine L_arg (k := 1) dL_law_493 dL_law_494 dL_law_495 dL_law_496 dL_law_497 (by decide) hL (by omega) ?_
  refine L_arg (k := 2) dL_law_498 dL_law_499 dL_law_500 dL_law_501 dL_law_502 (by decide) hL (by omega) ?_
  refine L_callV (n := 2) (k := 49) (ci := 7) (rest := [.int x]) (R' := rmX7_wedge) dL_law_503 ⟨twl_52, tw_454, twl_53, by decide +kernel, by decide +kernel, by decide +kernel⟩ twl_54 (by decide) (by decide) rfl twl_55 ⟨rfl, rfl, Nat.le_of_ble_eq_true rfl, Nat.le_of_ble_eq_true rfl⟩ rfl rfl (Nat.le_of_ble_eq_true rfl) (mt_X7_wedge _ _ σ1 _ q) (fun r σ2 q => ?_)
  obtain ⟨y, rfl, q, J⟩ := q
  exact L_icmp_eq 1378 dL_law_506 (by decide) (fun _ => nxt σ2 J) (fun z => absurd q z)
theorem lc_7 {L : Nat} {xs : Nat → Int32} {i : Nat} (hL : L ≤ 3072) (hi : i + 6 ≤ L) {σ : St} (I : Inv σ) (nxt : ∀ σ2, Inv σ2 → Lw L xs 1378 (lsL i) [] σ2) : Lw L xs 511 (lsL i) [] σ := by
  refine L_aload_n dL_law_511 rfl (by decide) ?_
  refine L_arg (k := 1) dL_law_512 dL_law_513 dL_law_514 dL_law_515 dL_law_516 (by decide) hL (by omega) ?_
  refine L_callV (n := 1) (k := 0) (ci := 6) (rest := []) (R' := rmX6_slack) dL_law_517 ⟨twl_56, tw_141, twl_57, by decide +kernel, by decide +kernel, by decide +kernel⟩ twl_58 (by decide) (by decide) rfl twl_59 ⟨rfl, rfl, Nat.le_of_ble_eq_true rfl, Nat.le_of_ble_eq_true rfl⟩ rfl rfl (Nat.le_of_ble_eq_true rfl) (mt_X6_slack _ σ _ (pp_slack I _)) (fun r σ1 q => ?_)
  obtain ⟨x, rfl, q⟩ := q
  refine L_aload_n dL_law_520 rfl (by decide) ?_
  refine L_arg (k := 1) dL_law_521 dL_law_522 dL_law_523 dL_law_524 dL_law_525 (by decide) hL (by omega) ?_
  refine L_callV (n := 1) (k := 49) (ci := 7) (rest := [.int x]) (R' := rmX7_slack) dL_law_526 ⟨twl_60, tw_454, twl_61, by decide +kernel, by decide +kernel, by decide +kernel⟩ twl_62 (by decide) (by decide) rfl twl_63 ⟨rfl, rfl, Nat.le_of_ble_eq_true rfl, Nat.le_of_ble_eq_true rfl⟩ rfl rfl (Nat.le_of_ble_eq_true rfl) (mt_X7_slack _ σ1 _ q) (fun r σ2 q => ?_)
  obtain ⟨y, rfl, q, J⟩ := q
  exact L_icmp_eq 1378 dL_law_529 (by decide) (fun _ => nxt σ2 J) (fun z => absurd q z)
theorem lc_8 {L : Nat} {xs : Nat → Int32} {i : Nat} (hL : L ≤ 3072) (hi : i + 6 ≤ L) {σ : St} (I : Inv σ) (nxt : ∀ σ2, Inv σ2 → Lw L xs 1378 (lsL i) [] σ2) : Lw L xs 534 (lsL i) [] σ := by
  refine L_aload_n dL_law_534 rfl (by decide) ?_
  refine L_arg (k := 1) dL_law_535 dL_law_536 dL_law_537 dL_law_538 dL_law_539 (by decide) hL (by omega) ?_
  refine L_arg (k := 2) dL_law_540 dL_law_541 dL_law_542 dL_law_543 dL_law_544 (by decide) hL (by omega) ?_
  refine L_ifnz dL_law_545 dL_law_548 dL_law_549 dL_law_552 ?_
  refine L_callV (n := 2) (k := 0) (ci := 6) (rest := []) (R' := rmX6_beam) dL_law_553 ⟨twl_64, tw_141, twl_65, by decide +kernel, by decide +kernel, by decide +kernel⟩ twl_66 (by decide) (by decide) rfl twl_67 ⟨rfl, rfl, Nat.le_of_ble_eq_true rfl, Nat.le_of_ble_eq_true rfl⟩ rfl rfl (Nat.le_of_ble_eq_true rfl) (mt_X6_beam _ _ σ _ (pp_beam I _ _)) (fun r σ1 q => ?_)
  obtain ⟨x, rfl, q⟩ := q
  refine L_aload_n dL_law_556 rfl (by decide) ?_
  refine L_arg (k := 1) dL_law_557 dL_law_558 dL_law_559 dL_law_560 dL_law_561 (by decide) hL (by omega) ?_
  refine L_arg (k := 2) dL_law_562 dL_law_563 dL_law_564 dL_law_565 dL_law_566 (by decide) hL (by omega) ?_
  refine L_ifnz dL_law_567 dL_law_570 dL_law_571 dL_law_574 ?_
  refine L_callV (n := 2) (k := 49) (ci := 7) (rest := [.int x]) (R' := rmX7_beam) dL_law_575 ⟨twl_68, tw_454, twl_69, by decide +kernel, by decide +kernel, by decide +kernel⟩ twl_70 (by decide) (by decide) rfl twl_71 ⟨rfl, rfl, Nat.le_of_ble_eq_true rfl, Nat.le_of_ble_eq_true rfl⟩ rfl rfl (Nat.le_of_ble_eq_true rfl) (mt_X7_beam _ _ σ1 _ q) (fun r σ2 q => ?_)
  obtain ⟨y, rfl, q, J⟩ := q
  exact L_icmp_eq 1378 dL_law_578 (by decide) (fun _ => nxt σ2 J) (fun z => absurd q z)
theorem lc_9 {L : Nat} {xs : Nat → Int32} {i : Nat} (hL : L ≤ 3072) (hi : i + 6 ≤ L) {σ : St} (I : Inv σ) (nxt : ∀ σ2, Inv σ2 → Lw L xs 1378 (lsL i) [] σ2) : Lw L xs 583 (lsL i) [] σ := by
  refine L_aload_n dL_law_583 rfl (by decide) ?_
  refine L_arg (k := 1) dL_law_584 dL_law_585 dL_law_586 dL_law_587 dL_law_588 (by decide) hL (by omega) ?_
  refine L_callV (n := 1) (k := 0) (ci := 6) (rest := []) (R' := rmX6_nights) dL_law_589 ⟨twl_72, tw_141, twl_73, by decide +kernel, by decide +kernel, by decide +kernel⟩ twl_74 (by decide) (by decide) rfl twl_75 ⟨rfl, rfl, Nat.le_of_ble_eq_true rfl, Nat.le_of_ble_eq_true rfl⟩ rfl rfl (Nat.le_of_ble_eq_true rfl) (mt_X6_nights _ σ _ (pp_nights I _)) (fun r σ1 q => ?_)
  obtain ⟨x, rfl, q⟩ := q
  refine L_aload_n dL_law_592 rfl (by decide) ?_
  refine L_arg (k := 1) dL_law_593 dL_law_594 dL_law_595 dL_law_596 dL_law_597 (by decide) hL (by omega) ?_
  refine L_callV (n := 1) (k := 49) (ci := 7) (rest := [.int x]) (R' := rmX7_nights) dL_law_598 ⟨twl_76, tw_454, twl_77, by decide +kernel, by decide +kernel, by decide +kernel⟩ twl_78 (by decide) (by decide) rfl twl_79 ⟨rfl, rfl, Nat.le_of_ble_eq_true rfl, Nat.le_of_ble_eq_true rfl⟩ rfl rfl (Nat.le_of_ble_eq_true rfl) (mt_X7_nights _ σ1 _ q) (fun r σ2 q => ?_)
  obtain ⟨y, rfl, q, J⟩ := q
  exact L_icmp_eq 1378 dL_law_601 (by decide) (fun _ => nxt σ2 J) (fun z => absurd q z)
theorem lc_10 {L : Nat} {xs : Nat → Int32} {i : Nat} (hL : L ≤ 3072) (hi : i + 6 ≤ L) {σ : St} (I : Inv σ) (nxt : ∀ σ2, Inv σ2 → Lw L xs 1378 (lsL i) [] σ2) : Lw L xs 606 (lsL i) [] σ := by
  refine L_aload_n dL_law_606 rfl (by decide) ?_
  refine L_arg (k := 1) dL_law_607 dL_law_608 dL_law_609 dL_law_610 dL_law_611 (by decide) hL (by omega) ?_
  refine L_callV (n := 1) (k := 0) (ci := 6) (rest := []) (R' := rmX6_now) dL_law_612 ⟨twl_80, tw_141, twl_81, by decide +kernel, by decide +kernel, by decide +kernel⟩ twl_82 (by decide) (by decide) rfl twl_83 ⟨rfl, rfl, Nat.le_of_ble_eq_true rfl, Nat.le_of_ble_eq_true rfl⟩ rfl rfl (Nat.le_of_ble_eq_true rfl) (mt_X6_now _ σ _ (pp_now I _)) (fun r σ1 q => ?_)
  obtain ⟨x, rfl, q⟩ := q
  refine L_aload_n dL_law_615 rfl (by decide) ?_
  refine L_arg (k := 1) dL_law_616 dL_law_617 dL_law_618 dL_law_619 dL_law_620 (by decide) hL (by omega) ?_
  refine L_callV (n := 1) (k := 49) (ci := 7) (rest := [.int x]) (R' := rmX7_now) dL_law_621 ⟨twl_84, tw_454, twl_85, by decide +kernel, by decide +kernel, by decide +kernel⟩ twl_86 (by decide) (by decide) rfl twl_87 ⟨rfl, rfl, Nat.le_of_ble_eq_true rfl, Nat.le_of_ble_eq_true rfl⟩ rfl rfl (Nat.le_of_ble_eq_true rfl) (mt_X7_now _ σ1 _ q) (fun r σ2 q => ?_)
  obtain ⟨y, rfl, q, J⟩ := q
  exact L_icmp_eq 1378 dL_law_624 (by decide) (fun _ => nxt σ2 J) (fun z => absurd q z)
theorem lc_11 {L : Nat} {xs : Nat → Int32} {i : Nat} (hL : L ≤ 3072) (hi : i + 6 ≤ L) {σ : St} (I : Inv σ) (nxt : ∀ σ2, Inv σ2 → Lw L xs 1378 (lsL i) [] σ2) : Lw L xs 629 (lsL i) [] σ := by
  refine L_aload_n dL_law_629 rfl (by decide) ?_
  refine L_arg (k := 1) dL_law_630 dL_law_631 dL_law_632 dL_law_633 dL_law_634 (by decide) hL (by omega) ?_
  refine L_callV (n := 1) (k := 0) (ci := 6) (rest := []) (R' := rmX6_pull) dL_law_635 ⟨twl_88, tw_141, twl_89, by decide +kernel, by decide +kernel, by decide +kernel⟩ twl_90 (by decide) (by decide) rfl twl_91 ⟨rfl, rfl, Nat.le_of_ble_eq_true rfl, Nat.le_of_ble_eq_true rfl⟩ rfl rfl (Nat.le_of_ble_eq_true rfl) (mt_X6_pull _ σ _ (pp_pull I _)) (fun r σ1 q => ?_)
  obtain ⟨x, rfl, q⟩ := q
  refine L_aload_n dL_law_638 rfl (by decide) ?_
  refine L_arg (k := 1) dL_law_639 dL_law_640 dL_law_641 dL_law_642 dL_law_643 (by decide) hL (by omega) ?_
  refine L_callV (n := 1) (k := 49) (ci := 7) (rest := [.int x]) (R' := rmX7_pull) dL_law_644 ⟨twl_92, tw_454, twl_93, by decide +kernel, by decide +kernel, by decide +kernel⟩ twl_94 (by decide) (by decide) rfl twl_95 ⟨rfl, rfl, Nat.le_of_ble_eq_true rfl, Nat.le_of_ble_eq_true rfl⟩ rfl rfl (Nat.le_of_ble_eq_true rfl) (mt_X7_pull _ σ1 _ q) (fun r σ2 q => ?_)
  obtain ⟨y, rfl, q, J⟩ := q
  exact L_icmp_eq 1378 dL_law_647 (by decide) (fun _ => nxt σ2 J) (fun z => absurd q z)
