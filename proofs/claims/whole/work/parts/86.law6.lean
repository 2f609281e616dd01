/-! the law: cases 42 to 48 -/
theorem d_law_1480 : decode code 1480 = .ok (.aload_n 1, 1) := by decide +kernel
theorem d_law_1481 : decode code 1481 = .ok (.invokevirtual 187, 3) := by decide +kernel
theorem d_law_1484 : decode code 1484 = .ok (.aload_n 2, 1) := by decide +kernel
theorem d_law_1485 : decode code 1485 = .ok (.invokevirtual 190, 3) := by decide +kernel
theorem d_law_1488 : decode code 1488 = .ok (.if_icmp .eq 106, 3) := by decide +kernel
theorem law_c42 {Γ : GmT} {b L : Nat} {xs : Nat → Int32} {CL SL : Nat} {G : Dt → Nat → List (Nat × Value) → List Value → Prop} (C : LawG Γ b L xs CL SL G) {D : Dt} {i : Int32} (hI : Inv D) (hin : vp_in (i + 1) L ∧ vp_in (i + 2) L ∧ vp_in (i + 3) L ∧ vp_in (i + 4) L ∧ vp_in (i + 5) L) (next : ∀ D2, Inv D2 → G D2 1594 (lvL Γ b i) []) : G D 1480 (lvL Γ b i) [] := by
  obtain ⟨x, D1, D2, h1, h2, hI2⟩ := both_asked hI
  refine l_aload C 1 d_law_1480 rfl rfl ?_
  refine l_call C (As := []) (rest := []) ok_Root_asked (List.mem_of_getElem? (i := 960) (by decide +kernel)) k_id0 (by decide) ⟨Nat.le_of_ble_eq_true rfl, Nat.le_of_ble_eq_true rfl⟩ rfl rfl (Nat.le_of_ble_eq_true rfl) d_law_1481 (c_Root_asked Γ h1) ?_
  refine l_aload C 2 d_law_1484 rfl rfl ?_
  refine l_call C (As := []) (rest := [.int x]) ok_Model_asked (List.mem_of_getElem? (i := 1228) (by decide +kernel)) k_id176 (by decide) ⟨Nat.le_of_ble_eq_true rfl, Nat.le_of_ble_eq_true rfl⟩ rfl rfl (Nat.le_of_ble_eq_true rfl) d_law_1485 (c_Model_asked Γ h2) ?_
  refine l_icmpeq C d_law_1488 (tgt := 1594) (by decide) ?_
  exact next D2 hI2
theorem d_law_1493 : decode code 1493 = .ok (.aload_n 1, 1) := by decide +kernel
theorem d_law_1494 : decode code 1494 = .ok (.invokevirtual 191, 3) := by decide +kernel
theorem d_law_1497 : decode code 1497 = .ok (.aload_n 2, 1) := by decide +kernel
theorem d_law_1498 : decode code 1498 = .ok (.invokevirtual 195, 3) := by decide +kernel
theorem d_law_1501 : decode code 1501 = .ok (.lcmp, 1) := by decide +kernel
theorem d_law_1502 : decode code 1502 = .ok (.ifCond .eq 92, 3) := by decide +kernel
theorem law_c43 {Γ : GmT} {b L : Nat} {xs : Nat → Int32} {CL SL : Nat} {G : Dt → Nat → List (Nat × Value) → List Value → Prop} (C : LawG Γ b L xs CL SL G) {D : Dt} {i : Int32} (hI : Inv D) (hin : vp_in (i + 1) L ∧ vp_in (i + 2) L ∧ vp_in (i + 3) L ∧ vp_in (i + 4) L ∧ vp_in (i + 5) L) (next : ∀ D2, Inv D2 → G D2 1594 (lvL Γ b i) []) : G D 1493 (lvL Γ b i) [] := by
  obtain ⟨x, D1, D2, h1, h2, hI2⟩ := both_upper hI
  refine l_aload C 1 d_law_1493 rfl rfl ?_
  refine l_call C (As := []) (rest := []) ok_Root_upper (List.mem_of_getElem? (i := 964) (by decide +kernel)) k_id0 (by decide) ⟨Nat.le_of_ble_eq_true rfl, Nat.le_of_ble_eq_true rfl⟩ rfl rfl (Nat.le_of_ble_eq_true rfl) d_law_1494 (c_Root_upper Γ h1) ?_
  refine l_aload C 2 d_law_1497 rfl rfl ?_
  refine l_call C (As := []) (rest := [.long x]) ok_Model_upper (List.mem_of_getElem? (i := 1571) (by decide +kernel)) k_id176 (by decide) ⟨Nat.le_of_ble_eq_true rfl, Nat.le_of_ble_eq_true rfl⟩ rfl rfl (Nat.le_of_ble_eq_true rfl) d_law_1498 (c_Model_upper Γ h2) ?_
  refine l_lcmpeq C d_law_1501 d_law_1502 (tgt := 1594) (by decide) ?_
  exact next D2 hI2
theorem d_law_1507 : decode code 1507 = .ok (.aload_n 1, 1) := by decide +kernel
theorem d_law_1508 : decode code 1508 = .ok (.invokevirtual 196, 3) := by decide +kernel
theorem d_law_1511 : decode code 1511 = .ok (.aload_n 2, 1) := by decide +kernel
theorem d_law_1512 : decode code 1512 = .ok (.invokevirtual 199, 3) := by decide +kernel
theorem d_law_1515 : decode code 1515 = .ok (.lcmp, 1) := by decide +kernel
theorem d_law_1516 : decode code 1516 = .ok (.ifCond .eq 78, 3) := by decide +kernel
theorem law_c44 {Γ : GmT} {b L : Nat} {xs : Nat → Int32} {CL SL : Nat} {G : Dt → Nat → List (Nat × Value) → List Value → Prop} (C : LawG Γ b L xs CL SL G) {D : Dt} {i : Int32} (hI : Inv D) (hin : vp_in (i + 1) L ∧ vp_in (i + 2) L ∧ vp_in (i + 3) L ∧ vp_in (i + 4) L ∧ vp_in (i + 5) L) (next : ∀ D2, Inv D2 → G D2 1594 (lvL Γ b i) []) : G D 1507 (lvL Γ b i) [] := by
  obtain ⟨x, D1, D2, h1, h2, hI2⟩ := both_lower hI
  refine l_aload C 1 d_law_1507 rfl rfl ?_
  refine l_call C (As := []) (rest := []) ok_Root_lower (List.mem_of_getElem? (i := 976) (by decide +kernel)) k_id0 (by decide) ⟨Nat.le_of_ble_eq_true rfl, Nat.le_of_ble_eq_true rfl⟩ rfl rfl (Nat.le_of_ble_eq_true rfl) d_law_1508 (c_Root_lower Γ h1) ?_
  refine l_aload C 2 d_law_1511 rfl rfl ?_
  refine l_call C (As := []) (rest := [.long x]) ok_Model_lower (List.mem_of_getElem? (i := 1583) (by decide +kernel)) k_id176 (by decide) ⟨Nat.le_of_ble_eq_true rfl, Nat.le_of_ble_eq_true rfl⟩ rfl rfl (Nat.le_of_ble_eq_true rfl) d_law_1512 (c_Model_lower Γ h2) ?_
  refine l_lcmpeq C d_law_1515 d_law_1516 (tgt := 1594) (by decide) ?_
  exact next D2 hI2
theorem d_law_1521 : decode code 1521 = .ok (.aload_n 1, 1) := by decide +kernel
theorem d_law_1522 : decode code 1522 = .ok (.aload_n 0, 1) := by decide +kernel
theorem d_law_1523 : decode code 1523 = .ok (.iload_n 3, 1) := by decide +kernel
theorem d_law_1524 : decode code 1524 = .ok (.iconst 1, 1) := by decide +kernel
theorem d_law_1525 : decode code 1525 = .ok (.iadd, 1) := by decide +kernel
theorem d_law_1526 : decode code 1526 = .ok (.iaload, 1) := by decide +kernel
theorem d_law_1527 : decode code 1527 = .ok (.invokevirtual 200, 3) := by decide +kernel
theorem d_law_1530 : decode code 1530 = .ok (.aload_n 2, 1) := by decide +kernel
theorem d_law_1531 : decode code 1531 = .ok (.aload_n 0, 1) := by decide +kernel
theorem d_law_1532 : decode code 1532 = .ok (.iload_n 3, 1) := by decide +kernel
theorem d_law_1533 : decode code 1533 = .ok (.iconst 1, 1) := by decide +kernel
theorem d_law_1534 : decode code 1534 = .ok (.iadd, 1) := by decide +kernel
theorem d_law_1535 : decode code 1535 = .ok (.iaload, 1) := by decide +kernel
theorem d_law_1536 : decode code 1536 = .ok (.invokevirtual 203, 3) := by decide +kernel
theorem d_law_1539 : decode code 1539 = .ok (.if_icmp .eq 55, 3) := by decide +kernel
theorem law_c45 {Γ : GmT} {b L : Nat} {xs : Nat → Int32} {CL SL : Nat} {G : Dt → Nat → List (Nat × Value) → List Value → Prop} (C : LawG Γ b L xs CL SL G) {D : Dt} {i : Int32} (hI : Inv D) (hin : vp_in (i + 1) L ∧ vp_in (i + 2) L ∧ vp_in (i + 3) L ∧ vp_in (i + 4) L ∧ vp_in (i + 5) L) (next : ∀ D2, Inv D2 → G D2 1594 (lvL Γ b i) []) : G D 1521 (lvL Γ b i) [] := by
  obtain ⟨x, D1, D2, h1, h2, hI2⟩ := both_count hI (xs (i + 1).toNatClampNeg)
  refine l_aload C 1 d_law_1521 rfl rfl ?_
  refine l_arg C d_law_1522 d_law_1523 d_law_1524 rfl d_law_1525 d_law_1526 rfl rfl hin.1 ?_
  refine l_call C (As := [.int (xs (i + 1).toNatClampNeg)]) (rest := []) ok_Root_count (List.mem_of_getElem? (i := 980) (by decide +kernel)) k_id0 (by decide) ⟨Nat.le_of_ble_eq_true rfl, Nat.le_of_ble_eq_true rfl⟩ rfl rfl (Nat.le_of_ble_eq_true rfl) d_law_1527 (c_Root_count Γ h1) ?_
  refine l_aload C 2 d_law_1530 rfl rfl ?_
  refine l_arg C d_law_1531 d_law_1532 d_law_1533 rfl d_law_1534 d_law_1535 rfl rfl hin.1 ?_
  refine l_call C (As := [.int (xs (i + 1).toNatClampNeg)]) (rest := [.int x]) ok_Model_count (List.mem_of_getElem? (i := 1587) (by decide +kernel)) k_id176 (by decide) ⟨Nat.le_of_ble_eq_true rfl, Nat.le_of_ble_eq_true rfl⟩ rfl rfl (Nat.le_of_ble_eq_true rfl) d_law_1536 (c_Model_count Γ h2) ?_
  refine l_icmpeq C d_law_1539 (tgt := 1594) (by decide) ?_
  exact next D2 hI2
theorem d_law_1544 : decode code 1544 = .ok (.aload_n 1, 1) := by decide +kernel
theorem d_law_1545 : decode code 1545 = .ok (.invokevirtual 204, 3) := by decide +kernel
theorem d_law_1548 : decode code 1548 = .ok (.aload_n 2, 1) := by decide +kernel
theorem d_law_1549 : decode code 1549 = .ok (.invokevirtual 207, 3) := by decide +kernel
theorem d_law_1552 : decode code 1552 = .ok (.if_icmp .eq 42, 3) := by decide +kernel
theorem law_c46 {Γ : GmT} {b L : Nat} {xs : Nat → Int32} {CL SL : Nat} {G : Dt → Nat → List (Nat × Value) → List Value → Prop} (C : LawG Γ b L xs CL SL G) {D : Dt} {i : Int32} (hI : Inv D) (hin : vp_in (i + 1) L ∧ vp_in (i + 2) L ∧ vp_in (i + 3) L ∧ vp_in (i + 4) L ∧ vp_in (i + 5) L) (next : ∀ D2, Inv D2 → G D2 1594 (lvL Γ b i) []) : G D 1544 (lvL Γ b i) [] := by
  obtain ⟨x, D1, D2, h1, h2, hI2⟩ := both_finding hI
  refine l_aload C 1 d_law_1544 rfl rfl ?_
  refine l_call C (As := []) (rest := []) ok_Root_finding (List.mem_of_getElem? (i := 1005) (by decide +kernel)) k_id0 (by decide) ⟨Nat.le_of_ble_eq_true rfl, Nat.le_of_ble_eq_true rfl⟩ rfl rfl (Nat.le_of_ble_eq_true rfl) d_law_1545 (c_Root_finding Γ h1) ?_
  refine l_aload C 2 d_law_1548 rfl rfl ?_
  refine l_call C (As := []) (rest := [.int x]) ok_Model_finding (List.mem_of_getElem? (i := 1217) (by decide +kernel)) k_id176 (by decide) ⟨Nat.le_of_ble_eq_true rfl, Nat.le_of_ble_eq_true rfl⟩ rfl rfl (Nat.le_of_ble_eq_true rfl) d_law_1549 (c_Model_finding Γ h2) ?_
  refine l_icmpeq C d_law_1552 (tgt := 1594) (by decide) ?_
  exact next D2 hI2
theorem d_law_1557 : decode code 1557 = .ok (.aload_n 1, 1) := by decide +kernel
theorem d_law_1558 : decode code 1558 = .ok (.aload_n 0, 1) := by decide +kernel
theorem d_law_1559 : decode code 1559 = .ok (.iload_n 3, 1) := by decide +kernel
theorem d_law_1560 : decode code 1560 = .ok (.iconst 1, 1) := by decide +kernel
theorem d_law_1561 : decode code 1561 = .ok (.iadd, 1) := by decide +kernel
theorem d_law_1562 : decode code 1562 = .ok (.iaload, 1) := by decide +kernel
theorem d_law_1563 : decode code 1563 = .ok (.invokevirtual 208, 3) := by decide +kernel
theorem d_law_1566 : decode code 1566 = .ok (.aload_n 2, 1) := by decide +kernel
theorem d_law_1567 : decode code 1567 = .ok (.aload_n 0, 1) := by decide +kernel
theorem d_law_1568 : decode code 1568 = .ok (.iload_n 3, 1) := by decide +kernel
theorem d_law_1569 : decode code 1569 = .ok (.iconst 1, 1) := by decide +kernel
theorem d_law_1570 : decode code 1570 = .ok (.iadd, 1) := by decide +kernel
theorem d_law_1571 : decode code 1571 = .ok (.iaload, 1) := by decide +kernel
theorem d_law_1572 : decode code 1572 = .ok (.invokevirtual 211, 3) := by decide +kernel
theorem d_law_1575 : decode code 1575 = .ok (.if_icmp .eq 19, 3) := by decide +kernel
theorem law_c47 {Γ : GmT} {b L : Nat} {xs : Nat → Int32} {CL SL : Nat} {G : Dt → Nat → List (Nat × Value) → List Value → Prop} (C : LawG Γ b L xs CL SL G) {D : Dt} {i : Int32} (hI : Inv D) (hin : vp_in (i + 1) L ∧ vp_in (i + 2) L ∧ vp_in (i + 3) L ∧ vp_in (i + 4) L ∧ vp_in (i + 5) L) (next : ∀ D2, Inv D2 → G D2 1594 (lvL Γ b i) []) : G D 1557 (lvL Γ b i) [] := by
  obtain ⟨x, D1, D2, h1, h2, hI2⟩ := both_findings hI (xs (i + 1).toNatClampNeg)
  refine l_aload C 1 d_law_1557 rfl rfl ?_
  refine l_arg C d_law_1558 d_law_1559 d_law_1560 rfl d_law_1561 d_law_1562 rfl rfl hin.1 ?_
  refine l_call C (As := [.int (xs (i + 1).toNatClampNeg)]) (rest := []) ok_Root_findings (List.mem_of_getElem? (i := 1009) (by decide +kernel)) k_id0 (by decide) ⟨Nat.le_of_ble_eq_true rfl, Nat.le_of_ble_eq_true rfl⟩ rfl rfl (Nat.le_of_ble_eq_true rfl) d_law_1563 (c_Root_findings Γ h1) ?_
  refine l_aload C 2 d_law_1566 rfl rfl ?_
  refine l_arg C d_law_1567 d_law_1568 d_law_1569 rfl d_law_1570 d_law_1571 rfl rfl hin.1 ?_
  refine l_call C (As := [.int (xs (i + 1).toNatClampNeg)]) (rest := [.int x]) ok_Model_findings (List.mem_of_getElem? (i := 1221) (by decide +kernel)) k_id176 (by decide) ⟨Nat.le_of_ble_eq_true rfl, Nat.le_of_ble_eq_true rfl⟩ rfl rfl (Nat.le_of_ble_eq_true rfl) d_law_1572 (c_Model_findings Γ h2) ?_
  refine l_icmpeq C d_law_1575 (tgt := 1594) (by decide) ?_
  exact next D2 hI2
theorem d_law_1580 : decode code 1580 = .ok (.aload_n 1, 1) := by decide +kernel
theorem d_law_1581 : decode code 1581 = .ok (.invokevirtual 212, 3) := by decide +kernel
theorem d_law_1584 : decode code 1584 = .ok (.aload_n 2, 1) := by decide +kernel
theorem d_law_1585 : decode code 1585 = .ok (.invokevirtual 215, 3) := by decide +kernel
theorem d_law_1588 : decode code 1588 = .ok (.lcmp, 1) := by decide +kernel
theorem d_law_1589 : decode code 1589 = .ok (.ifCond .eq 5, 3) := by decide +kernel
theorem law_c48 {Γ : GmT} {b L : Nat} {xs : Nat → Int32} {CL SL : Nat} {G : Dt → Nat → List (Nat × Value) → List Value → Prop} (C : LawG Γ b L xs CL SL G) {D : Dt} {i : Int32} (hI : Inv D) (hin : vp_in (i + 1) L ∧ vp_in (i + 2) L ∧ vp_in (i + 3) L ∧ vp_in (i + 4) L ∧ vp_in (i + 5) L) (next : ∀ D2, Inv D2 → G D2 1594 (lvL Γ b i) []) : G D 1580 (lvL Γ b i) [] := by
  obtain ⟨x, D1, D2, h1, h2, hI2⟩ := both_digest hI
  refine l_aload C 1 d_law_1580 rfl rfl ?_
  refine l_call C (As := []) (rest := []) ok_Root_digest (List.mem_of_getElem? (i := 1013) (by decide +kernel)) k_id0 (by decide) ⟨Nat.le_of_ble_eq_true rfl, Nat.le_of_ble_eq_true rfl⟩ rfl rfl (Nat.le_of_ble_eq_true rfl) d_law_1581 (c_Root_digest Γ h1) ?_
  refine l_aload C 2 d_law_1584 rfl rfl ?_
  refine l_call C (As := []) (rest := [.long x]) ok_Model_digest (List.mem_of_getElem? (i := 1595) (by decide +kernel)) k_id176 (by decide) ⟨Nat.le_of_ble_eq_true rfl, Nat.le_of_ble_eq_true rfl⟩ rfl rfl (Nat.le_of_ble_eq_true rfl) d_law_1585 (c_Model_digest Γ h2) ?_
  refine l_lcmpeq C d_law_1588 d_law_1589 (tgt := 1594) (by decide) ?_
  exact next D2 hI2
