/-! the law: cases 7 to 13 -/
theorem d_law_495 : decode code 495 = .ok (.aload_n 1, 1) := by decide +kernel
theorem d_law_496 : decode code 496 = .ok (.aload_n 0, 1) := by decide +kernel
theorem d_law_497 : decode code 497 = .ok (.iload_n 3, 1) := by decide +kernel
theorem d_law_498 : decode code 498 = .ok (.iconst 1, 1) := by decide +kernel
theorem d_law_499 : decode code 499 = .ok (.iadd, 1) := by decide +kernel
theorem d_law_500 : decode code 500 = .ok (.iaload, 1) := by decide +kernel
theorem d_law_501 : decode code 501 = .ok (.aload_n 0, 1) := by decide +kernel
theorem d_law_502 : decode code 502 = .ok (.iload_n 3, 1) := by decide +kernel
theorem d_law_503 : decode code 503 = .ok (.iconst 2, 1) := by decide +kernel
theorem d_law_504 : decode code 504 = .ok (.iadd, 1) := by decide +kernel
theorem d_law_505 : decode code 505 = .ok (.iaload, 1) := by decide +kernel
theorem d_law_506 : decode code 506 = .ok (.aload_n 0, 1) := by decide +kernel
theorem d_law_507 : decode code 507 = .ok (.iload_n 3, 1) := by decide +kernel
theorem d_law_508 : decode code 508 = .ok (.iconst 3, 1) := by decide +kernel
theorem d_law_509 : decode code 509 = .ok (.iadd, 1) := by decide +kernel
theorem d_law_510 : decode code 510 = .ok (.iaload, 1) := by decide +kernel
theorem d_law_511 : decode code 511 = .ok (.invokevirtual 45, 3) := by decide +kernel
theorem d_law_514 : decode code 514 = .ok (.aload_n 2, 1) := by decide +kernel
theorem d_law_515 : decode code 515 = .ok (.aload_n 0, 1) := by decide +kernel
theorem d_law_516 : decode code 516 = .ok (.iload_n 3, 1) := by decide +kernel
theorem d_law_517 : decode code 517 = .ok (.iconst 1, 1) := by decide +kernel
theorem d_law_518 : decode code 518 = .ok (.iadd, 1) := by decide +kernel
theorem d_law_519 : decode code 519 = .ok (.iaload, 1) := by decide +kernel
theorem d_law_520 : decode code 520 = .ok (.aload_n 0, 1) := by decide +kernel
theorem d_law_521 : decode code 521 = .ok (.iload_n 3, 1) := by decide +kernel
theorem d_law_522 : decode code 522 = .ok (.iconst 2, 1) := by decide +kernel
theorem d_law_523 : decode code 523 = .ok (.iadd, 1) := by decide +kernel
theorem d_law_524 : decode code 524 = .ok (.iaload, 1) := by decide +kernel
theorem d_law_525 : decode code 525 = .ok (.aload_n 0, 1) := by decide +kernel
theorem d_law_526 : decode code 526 = .ok (.iload_n 3, 1) := by decide +kernel
theorem d_law_527 : decode code 527 = .ok (.iconst 3, 1) := by decide +kernel
theorem d_law_528 : decode code 528 = .ok (.iadd, 1) := by decide +kernel
theorem d_law_529 : decode code 529 = .ok (.iaload, 1) := by decide +kernel
theorem d_law_530 : decode code 530 = .ok (.invokevirtual 48, 3) := by decide +kernel
theorem d_law_533 : decode code 533 = .ok (.if_icmp .eq 1061, 3) := by decide +kernel
theorem law_c7 {Γ : GmT} {b L : Nat} {xs : Nat → Int32} {CL SL : Nat} {G : Dt → Nat → List (Nat × Value) → List Value → Prop} (C : LawG Γ b L xs CL SL G) {D : Dt} {i : Int32} (hI : Inv D) (hin : vp_in (i + 1) L ∧ vp_in (i + 2) L ∧ vp_in (i + 3) L ∧ vp_in (i + 4) L ∧ vp_in (i + 5) L) (next : ∀ D2, Inv D2 → G D2 1594 (lvL Γ b i) []) : G D 495 (lvL Γ b i) [] := by
  obtain ⟨x, D1, D2, h1, h2, hI2⟩ := both_put hI (xs (i + 1).toNatClampNeg) (xs (i + 2).toNatClampNeg) (xs (i + 3).toNatClampNeg)
  refine l_aload C 1 d_law_495 rfl rfl ?_
  refine l_arg C d_law_496 d_law_497 d_law_498 rfl d_law_499 d_law_500 rfl rfl hin.1 ?_
  refine l_arg C d_law_501 d_law_502 d_law_503 rfl d_law_504 d_law_505 rfl rfl hin.2.1 ?_
  refine l_arg C d_law_506 d_law_507 d_law_508 rfl d_law_509 d_law_510 rfl rfl hin.2.2.1 ?_
  refine l_call C (As := [.int (xs (i + 1).toNatClampNeg), .int (xs (i + 2).toNatClampNeg), .int (xs (i + 3).toNatClampNeg)]) (rest := []) ok_Root_put (List.mem_of_getElem? (i := 458) (by decide +kernel)) k_id0 (by decide) ⟨Nat.le_of_ble_eq_true rfl, Nat.le_of_ble_eq_true rfl⟩ rfl rfl (Nat.le_of_ble_eq_true rfl) d_law_511 (c_Root_put Γ h1) ?_
  refine l_aload C 2 d_law_514 rfl rfl ?_
  refine l_arg C d_law_515 d_law_516 d_law_517 rfl d_law_518 d_law_519 rfl rfl hin.1 ?_
  refine l_arg C d_law_520 d_law_521 d_law_522 rfl d_law_523 d_law_524 rfl rfl hin.2.1 ?_
  refine l_arg C d_law_525 d_law_526 d_law_527 rfl d_law_528 d_law_529 rfl rfl hin.2.2.1 ?_
  refine l_call C (As := [.int (xs (i + 1).toNatClampNeg), .int (xs (i + 2).toNatClampNeg), .int (xs (i + 3).toNatClampNeg)]) (rest := [.int x]) ok_Model_put (List.mem_of_getElem? (i := 1278) (by decide +kernel)) k_id176 (by decide) ⟨Nat.le_of_ble_eq_true rfl, Nat.le_of_ble_eq_true rfl⟩ rfl rfl (Nat.le_of_ble_eq_true rfl) d_law_530 (c_Model_put Γ h2) ?_
  refine l_icmpeq C d_law_533 (tgt := 1594) (by decide) ?_
  exact next D2 hI2
theorem d_law_538 : decode code 538 = .ok (.aload_n 1, 1) := by decide +kernel
theorem d_law_539 : decode code 539 = .ok (.aload_n 0, 1) := by decide +kernel
theorem d_law_540 : decode code 540 = .ok (.iload_n 3, 1) := by decide +kernel
theorem d_law_541 : decode code 541 = .ok (.iconst 1, 1) := by decide +kernel
theorem d_law_542 : decode code 542 = .ok (.iadd, 1) := by decide +kernel
theorem d_law_543 : decode code 543 = .ok (.iaload, 1) := by decide +kernel
theorem d_law_544 : decode code 544 = .ok (.invokevirtual 49, 3) := by decide +kernel
theorem d_law_547 : decode code 547 = .ok (.aload_n 2, 1) := by decide +kernel
theorem d_law_548 : decode code 548 = .ok (.aload_n 0, 1) := by decide +kernel
theorem d_law_549 : decode code 549 = .ok (.iload_n 3, 1) := by decide +kernel
theorem d_law_550 : decode code 550 = .ok (.iconst 1, 1) := by decide +kernel
theorem d_law_551 : decode code 551 = .ok (.iadd, 1) := by decide +kernel
theorem d_law_552 : decode code 552 = .ok (.iaload, 1) := by decide +kernel
theorem d_law_553 : decode code 553 = .ok (.invokevirtual 52, 3) := by decide +kernel
theorem d_law_556 : decode code 556 = .ok (.if_icmp .eq 1038, 3) := by decide +kernel
theorem law_c8 {Γ : GmT} {b L : Nat} {xs : Nat → Int32} {CL SL : Nat} {G : Dt → Nat → List (Nat × Value) → List Value → Prop} (C : LawG Γ b L xs CL SL G) {D : Dt} {i : Int32} (hI : Inv D) (hin : vp_in (i + 1) L ∧ vp_in (i + 2) L ∧ vp_in (i + 3) L ∧ vp_in (i + 4) L ∧ vp_in (i + 5) L) (next : ∀ D2, Inv D2 → G D2 1594 (lvL Γ b i) []) : G D 538 (lvL Γ b i) [] := by
  obtain ⟨x, D1, D2, h1, h2, hI2⟩ := both_fault hI (xs (i + 1).toNatClampNeg)
  refine l_aload C 1 d_law_538 rfl rfl ?_
  refine l_arg C d_law_539 d_law_540 d_law_541 rfl d_law_542 d_law_543 rfl rfl hin.1 ?_
  refine l_call C (As := [.int (xs (i + 1).toNatClampNeg)]) (rest := []) ok_Root_fault (List.mem_of_getElem? (i := 470) (by decide +kernel)) k_id0 (by decide) ⟨Nat.le_of_ble_eq_true rfl, Nat.le_of_ble_eq_true rfl⟩ rfl rfl (Nat.le_of_ble_eq_true rfl) d_law_544 (c_Root_fault Γ h1) ?_
  refine l_aload C 2 d_law_547 rfl rfl ?_
  refine l_arg C d_law_548 d_law_549 d_law_550 rfl d_law_551 d_law_552 rfl rfl hin.1 ?_
  refine l_call C (As := [.int (xs (i + 1).toNatClampNeg)]) (rest := [.int x]) ok_Model_fault (List.mem_of_getElem? (i := 1282) (by decide +kernel)) k_id176 (by decide) ⟨Nat.le_of_ble_eq_true rfl, Nat.le_of_ble_eq_true rfl⟩ rfl rfl (Nat.le_of_ble_eq_true rfl) d_law_553 (c_Model_fault Γ h2) ?_
  refine l_icmpeq C d_law_556 (tgt := 1594) (by decide) ?_
  exact next D2 hI2
theorem d_law_561 : decode code 561 = .ok (.aload_n 1, 1) := by decide +kernel
theorem d_law_562 : decode code 562 = .ok (.aload_n 0, 1) := by decide +kernel
theorem d_law_563 : decode code 563 = .ok (.iload_n 3, 1) := by decide +kernel
theorem d_law_564 : decode code 564 = .ok (.iconst 1, 1) := by decide +kernel
theorem d_law_565 : decode code 565 = .ok (.iadd, 1) := by decide +kernel
theorem d_law_566 : decode code 566 = .ok (.iaload, 1) := by decide +kernel
theorem d_law_567 : decode code 567 = .ok (.invokevirtual 53, 3) := by decide +kernel
theorem d_law_570 : decode code 570 = .ok (.aload_n 2, 1) := by decide +kernel
theorem d_law_571 : decode code 571 = .ok (.aload_n 0, 1) := by decide +kernel
theorem d_law_572 : decode code 572 = .ok (.iload_n 3, 1) := by decide +kernel
theorem d_law_573 : decode code 573 = .ok (.iconst 1, 1) := by decide +kernel
theorem d_law_574 : decode code 574 = .ok (.iadd, 1) := by decide +kernel
theorem d_law_575 : decode code 575 = .ok (.iaload, 1) := by decide +kernel
theorem d_law_576 : decode code 576 = .ok (.invokevirtual 56, 3) := by decide +kernel
theorem d_law_579 : decode code 579 = .ok (.if_icmp .eq 1015, 3) := by decide +kernel
theorem law_c9 {Γ : GmT} {b L : Nat} {xs : Nat → Int32} {CL SL : Nat} {G : Dt → Nat → List (Nat × Value) → List Value → Prop} (C : LawG Γ b L xs CL SL G) {D : Dt} {i : Int32} (hI : Inv D) (hin : vp_in (i + 1) L ∧ vp_in (i + 2) L ∧ vp_in (i + 3) L ∧ vp_in (i + 4) L ∧ vp_in (i + 5) L) (next : ∀ D2, Inv D2 → G D2 1594 (lvL Γ b i) []) : G D 561 (lvL Γ b i) [] := by
  obtain ⟨x, D1, D2, h1, h2, hI2⟩ := both_street hI (xs (i + 1).toNatClampNeg)
  refine l_aload C 1 d_law_561 rfl rfl ?_
  refine l_arg C d_law_562 d_law_563 d_law_564 rfl d_law_565 d_law_566 rfl rfl hin.1 ?_
  refine l_call C (As := [.int (xs (i + 1).toNatClampNeg)]) (rest := []) ok_Root_street (List.mem_of_getElem? (i := 499) (by decide +kernel)) k_id0 (by decide) ⟨Nat.le_of_ble_eq_true rfl, Nat.le_of_ble_eq_true rfl⟩ rfl rfl (Nat.le_of_ble_eq_true rfl) d_law_567 (c_Root_street Γ h1) ?_
  refine l_aload C 2 d_law_570 rfl rfl ?_
  refine l_arg C d_law_571 d_law_572 d_law_573 rfl d_law_574 d_law_575 rfl rfl hin.1 ?_
  refine l_call C (As := [.int (xs (i + 1).toNatClampNeg)]) (rest := [.int x]) ok_Model_street (List.mem_of_getElem? (i := 1309) (by decide +kernel)) k_id176 (by decide) ⟨Nat.le_of_ble_eq_true rfl, Nat.le_of_ble_eq_true rfl⟩ rfl rfl (Nat.le_of_ble_eq_true rfl) d_law_576 (c_Model_street Γ h2) ?_
  refine l_icmpeq C d_law_579 (tgt := 1594) (by decide) ?_
  exact next D2 hI2
theorem d_law_584 : decode code 584 = .ok (.aload_n 1, 1) := by decide +kernel
theorem d_law_585 : decode code 585 = .ok (.aload_n 0, 1) := by decide +kernel
theorem d_law_586 : decode code 586 = .ok (.iload_n 3, 1) := by decide +kernel
theorem d_law_587 : decode code 587 = .ok (.iconst 1, 1) := by decide +kernel
theorem d_law_588 : decode code 588 = .ok (.iadd, 1) := by decide +kernel
theorem d_law_589 : decode code 589 = .ok (.iaload, 1) := by decide +kernel
theorem d_law_590 : decode code 590 = .ok (.aload_n 0, 1) := by decide +kernel
theorem d_law_591 : decode code 591 = .ok (.iload_n 3, 1) := by decide +kernel
theorem d_law_592 : decode code 592 = .ok (.iconst 2, 1) := by decide +kernel
theorem d_law_593 : decode code 593 = .ok (.iadd, 1) := by decide +kernel
theorem d_law_594 : decode code 594 = .ok (.iaload, 1) := by decide +kernel
theorem d_law_595 : decode code 595 = .ok (.invokevirtual 57, 3) := by decide +kernel
theorem d_law_598 : decode code 598 = .ok (.aload_n 2, 1) := by decide +kernel
theorem d_law_599 : decode code 599 = .ok (.aload_n 0, 1) := by decide +kernel
theorem d_law_600 : decode code 600 = .ok (.iload_n 3, 1) := by decide +kernel
theorem d_law_601 : decode code 601 = .ok (.iconst 1, 1) := by decide +kernel
theorem d_law_602 : decode code 602 = .ok (.iadd, 1) := by decide +kernel
theorem d_law_603 : decode code 603 = .ok (.iaload, 1) := by decide +kernel
theorem d_law_604 : decode code 604 = .ok (.aload_n 0, 1) := by decide +kernel
theorem d_law_605 : decode code 605 = .ok (.iload_n 3, 1) := by decide +kernel
theorem d_law_606 : decode code 606 = .ok (.iconst 2, 1) := by decide +kernel
theorem d_law_607 : decode code 607 = .ok (.iadd, 1) := by decide +kernel
theorem d_law_608 : decode code 608 = .ok (.iaload, 1) := by decide +kernel
theorem d_law_609 : decode code 609 = .ok (.invokevirtual 60, 3) := by decide +kernel
theorem d_law_612 : decode code 612 = .ok (.if_icmp .eq 982, 3) := by decide +kernel
theorem law_c10 {Γ : GmT} {b L : Nat} {xs : Nat → Int32} {CL SL : Nat} {G : Dt → Nat → List (Nat × Value) → List Value → Prop} (C : LawG Γ b L xs CL SL G) {D : Dt} {i : Int32} (hI : Inv D) (hin : vp_in (i + 1) L ∧ vp_in (i + 2) L ∧ vp_in (i + 3) L ∧ vp_in (i + 4) L ∧ vp_in (i + 5) L) (next : ∀ D2, Inv D2 → G D2 1594 (lvL Γ b i) []) : G D 584 (lvL Γ b i) [] := by
  obtain ⟨x, D1, D2, h1, h2, hI2⟩ := both_house hI (xs (i + 1).toNatClampNeg) (xs (i + 2).toNatClampNeg)
  refine l_aload C 1 d_law_584 rfl rfl ?_
  refine l_arg C d_law_585 d_law_586 d_law_587 rfl d_law_588 d_law_589 rfl rfl hin.1 ?_
  refine l_arg C d_law_590 d_law_591 d_law_592 rfl d_law_593 d_law_594 rfl rfl hin.2.1 ?_
  refine l_call C (As := [.int (xs (i + 1).toNatClampNeg), .int (xs (i + 2).toNatClampNeg)]) (rest := []) ok_Root_house (List.mem_of_getElem? (i := 517) (by decide +kernel)) k_id0 (by decide) ⟨Nat.le_of_ble_eq_true rfl, Nat.le_of_ble_eq_true rfl⟩ rfl rfl (Nat.le_of_ble_eq_true rfl) d_law_595 (c_Root_house Γ h1) ?_
  refine l_aload C 2 d_law_598 rfl rfl ?_
  refine l_arg C d_law_599 d_law_600 d_law_601 rfl d_law_602 d_law_603 rfl rfl hin.1 ?_
  refine l_arg C d_law_604 d_law_605 d_law_606 rfl d_law_607 d_law_608 rfl rfl hin.2.1 ?_
  refine l_call C (As := [.int (xs (i + 1).toNatClampNeg), .int (xs (i + 2).toNatClampNeg)]) (rest := [.int x]) ok_Model_house (List.mem_of_getElem? (i := 1317) (by decide +kernel)) k_id176 (by decide) ⟨Nat.le_of_ble_eq_true rfl, Nat.le_of_ble_eq_true rfl⟩ rfl rfl (Nat.le_of_ble_eq_true rfl) d_law_609 (c_Model_house Γ h2) ?_
  refine l_icmpeq C d_law_612 (tgt := 1594) (by decide) ?_
  exact next D2 hI2
theorem d_law_617 : decode code 617 = .ok (.aload_n 1, 1) := by decide +kernel
theorem d_law_618 : decode code 618 = .ok (.aload_n 0, 1) := by decide +kernel
theorem d_law_619 : decode code 619 = .ok (.iload_n 3, 1) := by decide +kernel
theorem d_law_620 : decode code 620 = .ok (.iconst 1, 1) := by decide +kernel
theorem d_law_621 : decode code 621 = .ok (.iadd, 1) := by decide +kernel
theorem d_law_622 : decode code 622 = .ok (.iaload, 1) := by decide +kernel
theorem d_law_623 : decode code 623 = .ok (.aload_n 0, 1) := by decide +kernel
theorem d_law_624 : decode code 624 = .ok (.iload_n 3, 1) := by decide +kernel
theorem d_law_625 : decode code 625 = .ok (.iconst 2, 1) := by decide +kernel
theorem d_law_626 : decode code 626 = .ok (.iadd, 1) := by decide +kernel
theorem d_law_627 : decode code 627 = .ok (.iaload, 1) := by decide +kernel
theorem d_law_628 : decode code 628 = .ok (.invokevirtual 61, 3) := by decide +kernel
theorem d_law_631 : decode code 631 = .ok (.aload_n 2, 1) := by decide +kernel
theorem d_law_632 : decode code 632 = .ok (.aload_n 0, 1) := by decide +kernel
theorem d_law_633 : decode code 633 = .ok (.iload_n 3, 1) := by decide +kernel
theorem d_law_634 : decode code 634 = .ok (.iconst 1, 1) := by decide +kernel
theorem d_law_635 : decode code 635 = .ok (.iadd, 1) := by decide +kernel
theorem d_law_636 : decode code 636 = .ok (.iaload, 1) := by decide +kernel
theorem d_law_637 : decode code 637 = .ok (.aload_n 0, 1) := by decide +kernel
theorem d_law_638 : decode code 638 = .ok (.iload_n 3, 1) := by decide +kernel
theorem d_law_639 : decode code 639 = .ok (.iconst 2, 1) := by decide +kernel
theorem d_law_640 : decode code 640 = .ok (.iadd, 1) := by decide +kernel
theorem d_law_641 : decode code 641 = .ok (.iaload, 1) := by decide +kernel
theorem d_law_642 : decode code 642 = .ok (.invokevirtual 64, 3) := by decide +kernel
theorem d_law_645 : decode code 645 = .ok (.if_icmp .eq 949, 3) := by decide +kernel
theorem law_c11 {Γ : GmT} {b L : Nat} {xs : Nat → Int32} {CL SL : Nat} {G : Dt → Nat → List (Nat × Value) → List Value → Prop} (C : LawG Γ b L xs CL SL G) {D : Dt} {i : Int32} (hI : Inv D) (hin : vp_in (i + 1) L ∧ vp_in (i + 2) L ∧ vp_in (i + 3) L ∧ vp_in (i + 4) L ∧ vp_in (i + 5) L) (next : ∀ D2, Inv D2 → G D2 1594 (lvL Γ b i) []) : G D 617 (lvL Γ b i) [] := by
  obtain ⟨x, D1, D2, h1, h2, hI2⟩ := both_mark hI (xs (i + 1).toNatClampNeg) (xs (i + 2).toNatClampNeg)
  refine l_aload C 1 d_law_617 rfl rfl ?_
  refine l_arg C d_law_618 d_law_619 d_law_620 rfl d_law_621 d_law_622 rfl rfl hin.1 ?_
  refine l_arg C d_law_623 d_law_624 d_law_625 rfl d_law_626 d_law_627 rfl rfl hin.2.1 ?_
  refine l_call C (As := [.int (xs (i + 1).toNatClampNeg), .int (xs (i + 2).toNatClampNeg)]) (rest := []) ok_Root_mark (List.mem_of_getElem? (i := 529) (by decide +kernel)) k_id0 (by decide) ⟨Nat.le_of_ble_eq_true rfl, Nat.le_of_ble_eq_true rfl⟩ rfl rfl (Nat.le_of_ble_eq_true rfl) d_law_628 (c_Root_mark Γ h1) ?_
  refine l_aload C 2 d_law_631 rfl rfl ?_
  refine l_arg C d_law_632 d_law_633 d_law_634 rfl d_law_635 d_law_636 rfl rfl hin.1 ?_
  refine l_arg C d_law_637 d_law_638 d_law_639 rfl d_law_640 d_law_641 rfl rfl hin.2.1 ?_
  refine l_call C (As := [.int (xs (i + 1).toNatClampNeg), .int (xs (i + 2).toNatClampNeg)]) (rest := [.int x]) ok_Model_mark (List.mem_of_getElem? (i := 1333) (by decide +kernel)) k_id176 (by decide) ⟨Nat.le_of_ble_eq_true rfl, Nat.le_of_ble_eq_true rfl⟩ rfl rfl (Nat.le_of_ble_eq_true rfl) d_law_642 (c_Model_mark Γ h2) ?_
  refine l_icmpeq C d_law_645 (tgt := 1594) (by decide) ?_
  exact next D2 hI2
theorem d_law_650 : decode code 650 = .ok (.aload_n 1, 1) := by decide +kernel
theorem d_law_651 : decode code 651 = .ok (.aload_n 0, 1) := by decide +kernel
theorem d_law_652 : decode code 652 = .ok (.iload_n 3, 1) := by decide +kernel
theorem d_law_653 : decode code 653 = .ok (.iconst 1, 1) := by decide +kernel
theorem d_law_654 : decode code 654 = .ok (.iadd, 1) := by decide +kernel
theorem d_law_655 : decode code 655 = .ok (.iaload, 1) := by decide +kernel
theorem d_law_656 : decode code 656 = .ok (.aload_n 0, 1) := by decide +kernel
theorem d_law_657 : decode code 657 = .ok (.iload_n 3, 1) := by decide +kernel
theorem d_law_658 : decode code 658 = .ok (.iconst 2, 1) := by decide +kernel
theorem d_law_659 : decode code 659 = .ok (.iadd, 1) := by decide +kernel
theorem d_law_660 : decode code 660 = .ok (.iaload, 1) := by decide +kernel
theorem d_law_661 : decode code 661 = .ok (.invokevirtual 65, 3) := by decide +kernel
theorem d_law_664 : decode code 664 = .ok (.aload_n 2, 1) := by decide +kernel
theorem d_law_665 : decode code 665 = .ok (.aload_n 0, 1) := by decide +kernel
theorem d_law_666 : decode code 666 = .ok (.iload_n 3, 1) := by decide +kernel
theorem d_law_667 : decode code 667 = .ok (.iconst 1, 1) := by decide +kernel
theorem d_law_668 : decode code 668 = .ok (.iadd, 1) := by decide +kernel
theorem d_law_669 : decode code 669 = .ok (.iaload, 1) := by decide +kernel
theorem d_law_670 : decode code 670 = .ok (.aload_n 0, 1) := by decide +kernel
theorem d_law_671 : decode code 671 = .ok (.iload_n 3, 1) := by decide +kernel
theorem d_law_672 : decode code 672 = .ok (.iconst 2, 1) := by decide +kernel
theorem d_law_673 : decode code 673 = .ok (.iadd, 1) := by decide +kernel
theorem d_law_674 : decode code 674 = .ok (.iaload, 1) := by decide +kernel
theorem d_law_675 : decode code 675 = .ok (.invokevirtual 68, 3) := by decide +kernel
theorem d_law_678 : decode code 678 = .ok (.if_icmp .eq 916, 3) := by decide +kernel
theorem law_c12 {Γ : GmT} {b L : Nat} {xs : Nat → Int32} {CL SL : Nat} {G : Dt → Nat → List (Nat × Value) → List Value → Prop} (C : LawG Γ b L xs CL SL G) {D : Dt} {i : Int32} (hI : Inv D) (hin : vp_in (i + 1) L ∧ vp_in (i + 2) L ∧ vp_in (i + 3) L ∧ vp_in (i + 4) L ∧ vp_in (i + 5) L) (next : ∀ D2, Inv D2 → G D2 1594 (lvL Γ b i) []) : G D 650 (lvL Γ b i) [] := by
  obtain ⟨x, D1, D2, h1, h2, hI2⟩ := both_sill hI (xs (i + 1).toNatClampNeg) (xs (i + 2).toNatClampNeg)
  refine l_aload C 1 d_law_650 rfl rfl ?_
  refine l_arg C d_law_651 d_law_652 d_law_653 rfl d_law_654 d_law_655 rfl rfl hin.1 ?_
  refine l_arg C d_law_656 d_law_657 d_law_658 rfl d_law_659 d_law_660 rfl rfl hin.2.1 ?_
  refine l_call C (As := [.int (xs (i + 1).toNatClampNeg), .int (xs (i + 2).toNatClampNeg)]) (rest := []) ok_Root_sill (List.mem_of_getElem? (i := 579) (by decide +kernel)) k_id0 (by decide) ⟨Nat.le_of_ble_eq_true rfl, Nat.le_of_ble_eq_true rfl⟩ rfl rfl (Nat.le_of_ble_eq_true rfl) d_law_661 (c_Root_sill Γ h1) ?_
  refine l_aload C 2 d_law_664 rfl rfl ?_
  refine l_arg C d_law_665 d_law_666 d_law_667 rfl d_law_668 d_law_669 rfl rfl hin.1 ?_
  refine l_arg C d_law_670 d_law_671 d_law_672 rfl d_law_673 d_law_674 rfl rfl hin.2.1 ?_
  refine l_call C (As := [.int (xs (i + 1).toNatClampNeg), .int (xs (i + 2).toNatClampNeg)]) (rest := [.int x]) ok_Model_sill (List.mem_of_getElem? (i := 1370) (by decide +kernel)) k_id176 (by decide) ⟨Nat.le_of_ble_eq_true rfl, Nat.le_of_ble_eq_true rfl⟩ rfl rfl (Nat.le_of_ble_eq_true rfl) d_law_675 (c_Model_sill Γ h2) ?_
  refine l_icmpeq C d_law_678 (tgt := 1594) (by decide) ?_
  exact next D2 hI2
theorem d_law_683 : decode code 683 = .ok (.aload_n 1, 1) := by decide +kernel
theorem d_law_684 : decode code 684 = .ok (.aload_n 0, 1) := by decide +kernel
theorem d_law_685 : decode code 685 = .ok (.iload_n 3, 1) := by decide +kernel
theorem d_law_686 : decode code 686 = .ok (.iconst 1, 1) := by decide +kernel
theorem d_law_687 : decode code 687 = .ok (.iadd, 1) := by decide +kernel
theorem d_law_688 : decode code 688 = .ok (.iaload, 1) := by decide +kernel
theorem d_law_689 : decode code 689 = .ok (.invokevirtual 69, 3) := by decide +kernel
theorem d_law_692 : decode code 692 = .ok (.aload_n 2, 1) := by decide +kernel
theorem d_law_693 : decode code 693 = .ok (.aload_n 0, 1) := by decide +kernel
theorem d_law_694 : decode code 694 = .ok (.iload_n 3, 1) := by decide +kernel
theorem d_law_695 : decode code 695 = .ok (.iconst 1, 1) := by decide +kernel
theorem d_law_696 : decode code 696 = .ok (.iadd, 1) := by decide +kernel
theorem d_law_697 : decode code 697 = .ok (.iaload, 1) := by decide +kernel
theorem d_law_698 : decode code 698 = .ok (.invokevirtual 72, 3) := by decide +kernel
theorem d_law_701 : decode code 701 = .ok (.if_icmp .eq 893, 3) := by decide +kernel
theorem law_c13 {Γ : GmT} {b L : Nat} {xs : Nat → Int32} {CL SL : Nat} {G : Dt → Nat → List (Nat × Value) → List Value → Prop} (C : LawG Γ b L xs CL SL G) {D : Dt} {i : Int32} (hI : Inv D) (hin : vp_in (i + 1) L ∧ vp_in (i + 2) L ∧ vp_in (i + 3) L ∧ vp_in (i + 4) L ∧ vp_in (i + 5) L) (next : ∀ D2, Inv D2 → G D2 1594 (lvL Γ b i) []) : G D 683 (lvL Γ b i) [] := by
  obtain ⟨x, D1, D2, h1, h2, hI2⟩ := both_flow hI (xs (i + 1).toNatClampNeg)
  refine l_aload C 1 d_law_683 rfl rfl ?_
  refine l_arg C d_law_684 d_law_685 d_law_686 rfl d_law_687 d_law_688 rfl rfl hin.1 ?_
  refine l_call C (As := [.int (xs (i + 1).toNatClampNeg)]) (rest := []) ok_Root_flow (List.mem_of_getElem? (i := 583) (by decide +kernel)) k_id0 (by decide) ⟨Nat.le_of_ble_eq_true rfl, Nat.le_of_ble_eq_true rfl⟩ rfl rfl (Nat.le_of_ble_eq_true rfl) d_law_689 (c_Root_flow Γ h1) ?_
  refine l_aload C 2 d_law_692 rfl rfl ?_
  refine l_arg C d_law_693 d_law_694 d_law_695 rfl d_law_696 d_law_697 rfl rfl hin.1 ?_
  refine l_call C (As := [.int (xs (i + 1).toNatClampNeg)]) (rest := [.int x]) ok_Model_flow (List.mem_of_getElem? (i := 1374) (by decide +kernel)) k_id176 (by decide) ⟨Nat.le_of_ble_eq_true rfl, Nat.le_of_ble_eq_true rfl⟩ rfl rfl (Nat.le_of_ble_eq_true rfl) d_law_698 (c_Model_flow Γ h2) ?_
  refine l_icmpeq C d_law_701 (tgt := 1594) (by decide) ?_
  exact next D2 hI2
