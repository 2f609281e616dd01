/-! 15.model0: printed by wip/whole/gen/gmeth.py out of the bytecode -/
abbrev b_Model_in : ByteArray := prog_11_method_2_code
abbrev y_Model_in : MethodName := ⟨"RiverTuesdaysModel", "in", "(III)Z"⟩
theorem ok_Model_in : okS y_Model_in b_Model_in 3 (some .boolean) 3 := ⟨mGW (List.mem_of_getElem? (i := 1226) (by decide +kernel)) rfl, mGW (List.mem_of_getElem? (i := 83) (by decide +kernel)) rfl, mGW (List.mem_of_getElem? (i := 1227) (by decide +kernel)) rfl, ⟨by decide, by decide, by decide +kernel⟩⟩
theorem d_Model_in_0 : decode b_Model_in 0 = .ok (.iload_n 0, 1) := by decide +kernel
theorem d_Model_in_1 : decode b_Model_in 1 = .ok (.iload_n 1, 1) := by decide +kernel
theorem d_Model_in_2 : decode b_Model_in 2 = .ok (.if_icmp .lt 12, 3) := by decide +kernel
theorem d_Model_in_5 : decode b_Model_in 5 = .ok (.iload_n 0, 1) := by decide +kernel
theorem d_Model_in_6 : decode b_Model_in 6 = .ok (.iload_n 2, 1) := by decide +kernel
theorem d_Model_in_7 : decode b_Model_in 7 = .ok (.if_icmp .gt 7, 3) := by decide +kernel
theorem d_Model_in_10 : decode b_Model_in 10 = .ok (.iconst 1, 1) := by decide +kernel
theorem d_Model_in_11 : decode b_Model_in 11 = .ok (.goto 4, 3) := by decide +kernel
theorem d_Model_in_14 : decode b_Model_in 14 = .ok (.iconst 0, 1) := by decide +kernel
theorem d_Model_in_15 : decode b_Model_in 15 = .ok (.ireturn, 1) := by decide +kernel
abbrev b_Model_has : ByteArray := prog_11_method_3_code
abbrev y_Model_has : MethodName := ⟨"RiverTuesdaysModel", "has", "(II)Z"⟩
theorem ok_Model_has : okS y_Model_has b_Model_has 2 (some .boolean) 2 := ⟨mGW (List.mem_of_getElem? (i := 1446) (by decide +kernel)) rfl, mGW (List.mem_of_getElem? (i := 83) (by decide +kernel)) rfl, mGW (List.mem_of_getElem? (i := 1447) (by decide +kernel)) rfl, ⟨by decide, by decide, by decide +kernel⟩⟩
theorem d_Model_has_0 : decode b_Model_has 0 = .ok (.iload_n 0, 1) := by decide +kernel
theorem d_Model_has_1 : decode b_Model_has 1 = .ok (.iload_n 1, 1) := by decide +kernel
theorem d_Model_has_2 : decode b_Model_has 2 = .ok (.ishr, 1) := by decide +kernel
theorem d_Model_has_3 : decode b_Model_has 3 = .ok (.iconst 1, 1) := by decide +kernel
theorem d_Model_has_4 : decode b_Model_has 4 = .ok (.iand, 1) := by decide +kernel
theorem d_Model_has_5 : decode b_Model_has 5 = .ok (.iconst 1, 1) := by decide +kernel
theorem d_Model_has_6 : decode b_Model_has 6 = .ok (.if_icmp .ne 7, 3) := by decide +kernel
theorem d_Model_has_9 : decode b_Model_has 9 = .ok (.iconst 1, 1) := by decide +kernel
theorem d_Model_has_10 : decode b_Model_has 10 = .ok (.goto 4, 3) := by decide +kernel
theorem d_Model_has_13 : decode b_Model_has 13 = .ok (.iconst 0, 1) := by decide +kernel
theorem d_Model_has_14 : decode b_Model_has 14 = .ok (.ireturn, 1) := by decide +kernel
abbrev b_Model_bits : ByteArray := prog_11_method_4_code
abbrev y_Model_bits : MethodName := ⟨"RiverTuesdaysModel", "bits", "(I)I"⟩
theorem ok_Model_bits : okS y_Model_bits b_Model_bits 3 (some .int) 1 := ⟨mGW (List.mem_of_getElem? (i := 1457) (by decide +kernel)) rfl, mGW (List.mem_of_getElem? (i := 83) (by decide +kernel)) rfl, mGW (List.mem_of_getElem? (i := 1458) (by decide +kernel)) rfl, ⟨by decide, by decide, by decide +kernel⟩⟩
theorem d_Model_bits_0 : decode b_Model_bits 0 = .ok (.iconst 0, 1) := by decide +kernel
theorem d_Model_bits_1 : decode b_Model_bits 1 = .ok (.istore_n 1, 1) := by decide +kernel
theorem d_Model_bits_2 : decode b_Model_bits 2 = .ok (.iload_n 0, 1) := by decide +kernel
theorem d_Model_bits_3 : decode b_Model_bits 3 = .ok (.istore_n 2, 1) := by decide +kernel
theorem d_Model_bits_4 : decode b_Model_bits 4 = .ok (.iload_n 2, 1) := by decide +kernel
theorem d_Model_bits_5 : decode b_Model_bits 5 = .ok (.ifCond .eq 15, 3) := by decide +kernel
theorem d_Model_bits_8 : decode b_Model_bits 8 = .ok (.iinc 1 1, 3) := by decide +kernel
theorem d_Model_bits_11 : decode b_Model_bits 11 = .ok (.iload_n 2, 1) := by decide +kernel
theorem d_Model_bits_12 : decode b_Model_bits 12 = .ok (.iload_n 2, 1) := by decide +kernel
theorem d_Model_bits_13 : decode b_Model_bits 13 = .ok (.iconst 1, 1) := by decide +kernel
theorem d_Model_bits_14 : decode b_Model_bits 14 = .ok (.isub, 1) := by decide +kernel
theorem d_Model_bits_15 : decode b_Model_bits 15 = .ok (.iand, 1) := by decide +kernel
theorem d_Model_bits_16 : decode b_Model_bits 16 = .ok (.istore_n 2, 1) := by decide +kernel
theorem d_Model_bits_17 : decode b_Model_bits 17 = .ok (.goto (-13), 3) := by decide +kernel
theorem d_Model_bits_20 : decode b_Model_bits 20 = .ok (.iload_n 1, 1) := by decide +kernel
theorem d_Model_bits_21 : decode b_Model_bits 21 = .ok (.ireturn, 1) := by decide +kernel
abbrev b_Model_lesser : ByteArray := prog_11_method_5_code
abbrev y_Model_lesser : MethodName := ⟨"RiverTuesdaysModel", "lesser", "(II)I"⟩
theorem ok_Model_lesser : okS y_Model_lesser b_Model_lesser 2 (some .int) 2 := ⟨mGW (List.mem_of_getElem? (i := 1362) (by decide +kernel)) rfl, mGW (List.mem_of_getElem? (i := 83) (by decide +kernel)) rfl, mGW (List.mem_of_getElem? (i := 1363) (by decide +kernel)) rfl, ⟨by decide, by decide, by decide +kernel⟩⟩
theorem d_Model_lesser_0 : decode b_Model_lesser 0 = .ok (.iload_n 0, 1) := by decide +kernel
theorem d_Model_lesser_1 : decode b_Model_lesser 1 = .ok (.iload_n 1, 1) := by decide +kernel
theorem d_Model_lesser_2 : decode b_Model_lesser 2 = .ok (.if_icmp .ge 7, 3) := by decide +kernel
theorem d_Model_lesser_5 : decode b_Model_lesser 5 = .ok (.iload_n 0, 1) := by decide +kernel
theorem d_Model_lesser_6 : decode b_Model_lesser 6 = .ok (.goto 4, 3) := by decide +kernel
theorem d_Model_lesser_9 : decode b_Model_lesser 9 = .ok (.iload_n 1, 1) := by decide +kernel
theorem d_Model_lesser_10 : decode b_Model_lesser 10 = .ok (.ireturn, 1) := by decide +kernel
abbrev b_Model_greater : ByteArray := prog_11_method_6_code
abbrev y_Model_greater : MethodName := ⟨"RiverTuesdaysModel", "greater", "(II)I"⟩
theorem ok_Model_greater : okS y_Model_greater b_Model_greater 2 (some .int) 2 := ⟨mGW (List.mem_of_getElem? (i := 1368) (by decide +kernel)) rfl, mGW (List.mem_of_getElem? (i := 83) (by decide +kernel)) rfl, mGW (List.mem_of_getElem? (i := 1369) (by decide +kernel)) rfl, ⟨by decide, by decide, by decide +kernel⟩⟩
theorem d_Model_greater_0 : decode b_Model_greater 0 = .ok (.iload_n 0, 1) := by decide +kernel
theorem d_Model_greater_1 : decode b_Model_greater 1 = .ok (.iload_n 1, 1) := by decide +kernel
theorem d_Model_greater_2 : decode b_Model_greater 2 = .ok (.if_icmp .le 7, 3) := by decide +kernel
theorem d_Model_greater_5 : decode b_Model_greater 5 = .ok (.iload_n 0, 1) := by decide +kernel
theorem d_Model_greater_6 : decode b_Model_greater 6 = .ok (.goto 4, 3) := by decide +kernel
theorem d_Model_greater_9 : decode b_Model_greater 9 = .ok (.iload_n 1, 1) := by decide +kernel
theorem d_Model_greater_10 : decode b_Model_greater 10 = .ok (.ireturn, 1) := by decide +kernel
abbrev b_Model_meets : ByteArray := prog_11_method_7_code
abbrev y_Model_meets : MethodName := ⟨"RiverTuesdaysModel", "meets", "(I)I"⟩
theorem ok_Model_meets : okV y_Model_meets b_Model_meets 2 (some .int) 1 9 := ⟨mGW (List.mem_of_getElem? (i := 1241) (by decide +kernel)) rfl, mGW (List.mem_of_getElem? (i := 34) (by decide +kernel)) rfl, mGW (List.mem_of_getElem? (i := 83) (by decide +kernel)) rfl, mGW (List.mem_of_getElem? (i := 1242) (by decide +kernel)) rfl, ⟨by decide, by decide, by decide +kernel⟩, rfl⟩
theorem d_Model_meets_0 : decode b_Model_meets 0 = .ok (.aload_n 0, 1) := by decide +kernel
theorem d_Model_meets_1 : decode b_Model_meets 1 = .ok (.iload_n 1, 1) := by decide +kernel
theorem d_Model_meets_2 : decode b_Model_meets 2 = .ok (.putfield 114, 3) := by decide +kernel
theorem d_Model_meets_5 : decode b_Model_meets 5 = .ok (.aload_n 0, 1) := by decide +kernel
theorem d_Model_meets_6 : decode b_Model_meets 6 = .ok (.getfield 7, 3) := by decide +kernel
theorem d_Model_meets_9 : decode b_Model_meets 9 = .ok (.iload_n 1, 1) := by decide +kernel
theorem d_Model_meets_10 : decode b_Model_meets 10 = .ok (.dup2, 1) := by decide +kernel
theorem d_Model_meets_11 : decode b_Model_meets 11 = .ok (.iaload, 1) := by decide +kernel
theorem d_Model_meets_12 : decode b_Model_meets 12 = .ok (.iconst 1, 1) := by decide +kernel
theorem d_Model_meets_13 : decode b_Model_meets 13 = .ok (.iadd, 1) := by decide +kernel
theorem d_Model_meets_14 : decode b_Model_meets 14 = .ok (.iastore, 1) := by decide +kernel
theorem d_Model_meets_15 : decode b_Model_meets 15 = .ok (.bipush (-3), 2) := by decide +kernel
theorem d_Model_meets_17 : decode b_Model_meets 17 = .ok (.ireturn, 1) := by decide +kernel
abbrev b_Model_finding : ByteArray := prog_11_method_8_code
abbrev y_Model_finding : MethodName := ⟨"RiverTuesdaysModel", "finding", "()I"⟩
theorem ok_Model_finding : okV y_Model_finding b_Model_finding 1 (some .int) 0 9 := ⟨mGW (List.mem_of_getElem? (i := 1218) (by decide +kernel)) rfl, mGW (List.mem_of_getElem? (i := 1219) (by decide +kernel)) rfl, mGW (List.mem_of_getElem? (i := 83) (by decide +kernel)) rfl, mGW (List.mem_of_getElem? (i := 1220) (by decide +kernel)) rfl, ⟨by decide, by decide, by decide +kernel⟩, rfl⟩
theorem d_Model_finding_0 : decode b_Model_finding 0 = .ok (.aload_n 0, 1) := by decide +kernel
theorem d_Model_finding_1 : decode b_Model_finding 1 = .ok (.getfield 114, 3) := by decide +kernel
theorem d_Model_finding_4 : decode b_Model_finding 4 = .ok (.ireturn, 1) := by decide +kernel
abbrev b_Model_findings : ByteArray := prog_11_method_9_code
abbrev y_Model_findings : MethodName := ⟨"RiverTuesdaysModel", "findings", "(I)I"⟩
theorem ok_Model_findings : okV y_Model_findings b_Model_findings 2 (some .int) 1 9 := ⟨mGW (List.mem_of_getElem? (i := 1222) (by decide +kernel)) rfl, mGW (List.mem_of_getElem? (i := 1223) (by decide +kernel)) rfl, mGW (List.mem_of_getElem? (i := 83) (by decide +kernel)) rfl, mGW (List.mem_of_getElem? (i := 1224) (by decide +kernel)) rfl, ⟨by decide, by decide, by decide +kernel⟩, rfl⟩
theorem d_Model_findings_0 : decode b_Model_findings 0 = .ok (.iload_n 1, 1) := by decide +kernel
theorem d_Model_findings_1 : decode b_Model_findings 1 = .ok (.iconst 1, 1) := by decide +kernel
theorem d_Model_findings_2 : decode b_Model_findings 2 = .ok (.iconst 5, 1) := by decide +kernel
theorem d_Model_findings_3 : decode b_Model_findings 3 = .ok (.invokestatic 118, 3) := by decide +kernel
theorem d_Model_findings_6 : decode b_Model_findings 6 = .ok (.ifCond .eq 12, 3) := by decide +kernel
theorem d_Model_findings_9 : decode b_Model_findings 9 = .ok (.aload_n 0, 1) := by decide +kernel
theorem d_Model_findings_10 : decode b_Model_findings 10 = .ok (.getfield 7, 3) := by decide +kernel
theorem d_Model_findings_13 : decode b_Model_findings 13 = .ok (.iload_n 1, 1) := by decide +kernel
theorem d_Model_findings_14 : decode b_Model_findings 14 = .ok (.iaload, 1) := by decide +kernel
theorem d_Model_findings_15 : decode b_Model_findings 15 = .ok (.goto 4, 3) := by decide +kernel
theorem d_Model_findings_18 : decode b_Model_findings 18 = .ok (.iconst (-1), 1) := by decide +kernel
theorem d_Model_findings_19 : decode b_Model_findings 19 = .ok (.ireturn, 1) := by decide +kernel
abbrev b_Model_tells : ByteArray := prog_11_method_10_code
abbrev y_Model_tells : MethodName := ⟨"RiverTuesdaysModel", "tells", "(II)I"⟩
theorem ok_Model_tells : okV y_Model_tells b_Model_tells 3 (some .int) 2 9 := ⟨mGW (List.mem_of_getElem? (i := 1253) (by decide +kernel)) rfl, mGW (List.mem_of_getElem? (i := 36) (by decide +kernel)) rfl, mGW (List.mem_of_getElem? (i := 83) (by decide +kernel)) rfl, mGW (List.mem_of_getElem? (i := 1254) (by decide +kernel)) rfl, ⟨by decide, by decide, by decide +kernel⟩, rfl⟩
theorem d_Model_tells_0 : decode b_Model_tells 0 = .ok (.aload_n 0, 1) := by decide +kernel
theorem d_Model_tells_1 : decode b_Model_tells 1 = .ok (.iload_n 1, 1) := by decide +kernel
theorem d_Model_tells_2 : decode b_Model_tells 2 = .ok (.putfield 122, 3) := by decide +kernel
theorem d_Model_tells_5 : decode b_Model_tells 5 = .ok (.iload_n 2, 1) := by decide +kernel
theorem d_Model_tells_6 : decode b_Model_tells 6 = .ok (.ireturn, 1) := by decide +kernel
abbrev b_Model_asked : ByteArray := prog_11_method_11_code
abbrev y_Model_asked : MethodName := ⟨"RiverTuesdaysModel", "asked", "()I"⟩
theorem ok_Model_asked : okV y_Model_asked b_Model_asked 1 (some .int) 0 9 := ⟨mGW (List.mem_of_getElem? (i := 1229) (by decide +kernel)) rfl, mGW (List.mem_of_getElem? (i := 1230) (by decide +kernel)) rfl, mGW (List.mem_of_getElem? (i := 83) (by decide +kernel)) rfl, mGW (List.mem_of_getElem? (i := 1231) (by decide +kernel)) rfl, ⟨by decide, by decide, by decide +kernel⟩, rfl⟩
theorem d_Model_asked_0 : decode b_Model_asked 0 = .ok (.aload_n 0, 1) := by decide +kernel
theorem d_Model_asked_1 : decode b_Model_asked 1 = .ok (.getfield 122, 3) := by decide +kernel
theorem d_Model_asked_4 : decode b_Model_asked 4 = .ok (.ireturn, 1) := by decide +kernel
abbrev b_Model_isRow : ByteArray := prog_11_method_12_code
abbrev y_Model_isRow : MethodName := ⟨"RiverTuesdaysModel", "isRow", "(I)Z"⟩
theorem ok_Model_isRow : okS y_Model_isRow b_Model_isRow 1 (some .boolean) 1 := ⟨mGW (List.mem_of_getElem? (i := 1237) (by decide +kernel)) rfl, mGW (List.mem_of_getElem? (i := 83) (by decide +kernel)) rfl, mGW (List.mem_of_getElem? (i := 1238) (by decide +kernel)) rfl, ⟨by decide, by decide, by decide +kernel⟩⟩
theorem d_Model_isRow_0 : decode b_Model_isRow 0 = .ok (.iload_n 0, 1) := by decide +kernel
theorem d_Model_isRow_1 : decode b_Model_isRow 1 = .ok (.iconst 0, 1) := by decide +kernel
theorem d_Model_isRow_2 : decode b_Model_isRow 2 = .ok (.iconst 5, 1) := by decide +kernel
theorem d_Model_isRow_3 : decode b_Model_isRow 3 = .ok (.invokestatic 118, 3) := by decide +kernel
theorem d_Model_isRow_6 : decode b_Model_isRow 6 = .ok (.ireturn, 1) := by decide +kernel
abbrev b_Model_rowAt : ByteArray := prog_11_method_13_code
abbrev y_Model_rowAt : MethodName := ⟨"RiverTuesdaysModel", "rowAt", "(II)I"⟩
theorem ok_Model_rowAt : okV y_Model_rowAt b_Model_rowAt 3 (some .int) 2 9 := ⟨mGW (List.mem_of_getElem? (i := 1249) (by decide +kernel)) rfl, mGW (List.mem_of_getElem? (i := 35) (by decide +kernel)) rfl, mGW (List.mem_of_getElem? (i := 83) (by decide +kernel)) rfl, mGW (List.mem_of_getElem? (i := 1250) (by decide +kernel)) rfl, ⟨by decide, by decide, by decide +kernel⟩, rfl⟩
theorem d_Model_rowAt_0 : decode b_Model_rowAt 0 = .ok (.aload_n 0, 1) := by decide +kernel
theorem d_Model_rowAt_1 : decode b_Model_rowAt 1 = .ok (.getfield 16, 3) := by decide +kernel
theorem d_Model_rowAt_4 : decode b_Model_rowAt 4 = .ok (.bipush 60, 2) := by decide +kernel
theorem d_Model_rowAt_6 : decode b_Model_rowAt 6 = .ok (.iload_n 1, 1) := by decide +kernel
theorem d_Model_rowAt_7 : decode b_Model_rowAt 7 = .ok (.imul, 1) := by decide +kernel
theorem d_Model_rowAt_8 : decode b_Model_rowAt 8 = .ok (.iload_n 2, 1) := by decide +kernel
theorem d_Model_rowAt_9 : decode b_Model_rowAt 9 = .ok (.iadd, 1) := by decide +kernel
theorem d_Model_rowAt_10 : decode b_Model_rowAt 10 = .ok (.iaload, 1) := by decide +kernel
theorem d_Model_rowAt_11 : decode b_Model_rowAt 11 = .ok (.ireturn, 1) := by decide +kernel
abbrev b_Model_row : ByteArray := prog_11_method_14_code
abbrev y_Model_row : MethodName := ⟨"RiverTuesdaysModel", "row", "(II)I"⟩
theorem ok_Model_row : okV y_Model_row b_Model_row 4 (some .int) 2 9 := ⟨mGW (List.mem_of_getElem? (i := 1233) (by decide +kernel)) rfl, mGW (List.mem_of_getElem? (i := 1234) (by decide +kernel)) rfl, mGW (List.mem_of_getElem? (i := 83) (by decide +kernel)) rfl, mGW (List.mem_of_getElem? (i := 1235) (by decide +kernel)) rfl, ⟨by decide, by decide, by decide +kernel⟩, rfl⟩
theorem d_Model_row_0 : decode b_Model_row 0 = .ok (.iload_n 1, 1) := by decide +kernel
theorem d_Model_row_1 : decode b_Model_row 1 = .ok (.invokestatic 125, 3) := by decide +kernel
theorem d_Model_row_4 : decode b_Model_row 4 = .ok (.ifCond .eq 9, 3) := by decide +kernel
theorem d_Model_row_7 : decode b_Model_row 7 = .ok (.iload_n 2, 1) := by decide +kernel
theorem d_Model_row_8 : decode b_Model_row 8 = .ok (.bipush 60, 2) := by decide +kernel
theorem d_Model_row_10 : decode b_Model_row 10 = .ok (.if_icmp .le 5, 3) := by decide +kernel
theorem d_Model_row_13 : decode b_Model_row 13 = .ok (.iconst (-1), 1) := by decide +kernel
theorem d_Model_row_14 : decode b_Model_row 14 = .ok (.ireturn, 1) := by decide +kernel
theorem d_Model_row_15 : decode b_Model_row 15 = .ok (.iload_n 2, 1) := by decide +kernel
theorem d_Model_row_16 : decode b_Model_row 16 = .ok (.ifCond .ge 9, 3) := by decide +kernel
theorem d_Model_row_19 : decode b_Model_row 19 = .ok (.aload_n 0, 1) := by decide +kernel
theorem d_Model_row_20 : decode b_Model_row 20 = .ok (.iconst 5, 1) := by decide +kernel
theorem d_Model_row_21 : decode b_Model_row 21 = .ok (.invokevirtual 129, 3) := by decide +kernel
theorem d_Model_row_24 : decode b_Model_row 24 = .ok (.ireturn, 1) := by decide +kernel
theorem d_Model_row_25 : decode b_Model_row 25 = .ok (.aload_n 0, 1) := by decide +kernel
theorem d_Model_row_26 : decode b_Model_row 26 = .ok (.getfield 13, 3) := by decide +kernel
theorem d_Model_row_29 : decode b_Model_row 29 = .ok (.iload_n 1, 1) := by decide +kernel
theorem d_Model_row_30 : decode b_Model_row 30 = .ok (.iload_n 2, 1) := by decide +kernel
theorem d_Model_row_31 : decode b_Model_row 31 = .ok (.iastore, 1) := by decide +kernel
theorem d_Model_row_32 : decode b_Model_row 32 = .ok (.iconst 0, 1) := by decide +kernel
theorem d_Model_row_33 : decode b_Model_row 33 = .ok (.istore_n 3, 1) := by decide +kernel
theorem d_Model_row_34 : decode b_Model_row 34 = .ok (.iload_n 3, 1) := by decide +kernel
theorem d_Model_row_35 : decode b_Model_row 35 = .ok (.bipush 60, 2) := by decide +kernel
theorem d_Model_row_37 : decode b_Model_row 37 = .ok (.if_icmp .ge 21, 3) := by decide +kernel
theorem d_Model_row_40 : decode b_Model_row 40 = .ok (.aload_n 0, 1) := by decide +kernel
theorem d_Model_row_41 : decode b_Model_row 41 = .ok (.getfield 16, 3) := by decide +kernel
theorem d_Model_row_44 : decode b_Model_row 44 = .ok (.bipush 60, 2) := by decide +kernel
theorem d_Model_row_46 : decode b_Model_row 46 = .ok (.iload_n 1, 1) := by decide +kernel
theorem d_Model_row_47 : decode b_Model_row 47 = .ok (.imul, 1) := by decide +kernel
theorem d_Model_row_48 : decode b_Model_row 48 = .ok (.iload_n 3, 1) := by decide +kernel
theorem d_Model_row_49 : decode b_Model_row 49 = .ok (.iadd, 1) := by decide +kernel
theorem d_Model_row_50 : decode b_Model_row 50 = .ok (.iconst 0, 1) := by decide +kernel
theorem d_Model_row_51 : decode b_Model_row 51 = .ok (.iastore, 1) := by decide +kernel
theorem d_Model_row_52 : decode b_Model_row 52 = .ok (.iinc 3 1, 3) := by decide +kernel
theorem d_Model_row_55 : decode b_Model_row 55 = .ok (.goto (-21), 3) := by decide +kernel
theorem d_Model_row_58 : decode b_Model_row 58 = .ok (.iload_n 2, 1) := by decide +kernel
theorem d_Model_row_59 : decode b_Model_row 59 = .ok (.ireturn, 1) := by decide +kernel
abbrev b_Model_lay : ByteArray := prog_11_method_15_code
abbrev y_Model_lay : MethodName := ⟨"RiverTuesdaysModel", "lay", "(III)I"⟩
theorem ok_Model_lay : okV y_Model_lay b_Model_lay 5 (some .int) 3 9 := ⟨mGW (List.mem_of_getElem? (i := 1244) (by decide +kernel)) rfl, mGW (List.mem_of_getElem? (i := 1245) (by decide +kernel)) rfl, mGW (List.mem_of_getElem? (i := 83) (by decide +kernel)) rfl, mGW (List.mem_of_getElem? (i := 1246) (by decide +kernel)) rfl, ⟨by decide, by decide, by decide +kernel⟩, rfl⟩
theorem d_Model_lay_0 : decode b_Model_lay 0 = .ok (.iload_n 1, 1) := by decide +kernel
theorem d_Model_lay_1 : decode b_Model_lay 1 = .ok (.invokestatic 125, 3) := by decide +kernel
theorem d_Model_lay_4 : decode b_Model_lay 4 = .ok (.ifCond .ne 5, 3) := by decide +kernel
theorem d_Model_lay_7 : decode b_Model_lay 7 = .ok (.iconst (-1), 1) := by decide +kernel
theorem d_Model_lay_8 : decode b_Model_lay 8 = .ok (.ireturn, 1) := by decide +kernel
theorem d_Model_lay_9 : decode b_Model_lay 9 = .ok (.aload_n 0, 1) := by decide +kernel
theorem d_Model_lay_10 : decode b_Model_lay 10 = .ok (.getfield 13, 3) := by decide +kernel
theorem d_Model_lay_13 : decode b_Model_lay 13 = .ok (.iload_n 1, 1) := by decide +kernel
theorem d_Model_lay_14 : decode b_Model_lay 14 = .ok (.iaload, 1) := by decide +kernel
theorem d_Model_lay_15 : decode b_Model_lay 15 = .ok (.ifCond .ge 9, 3) := by decide +kernel
theorem d_Model_lay_18 : decode b_Model_lay 18 = .ok (.aload_n 0, 1) := by decide +kernel
theorem d_Model_lay_19 : decode b_Model_lay 19 = .ok (.iconst 1, 1) := by decide +kernel
theorem d_Model_lay_20 : decode b_Model_lay 20 = .ok (.invokevirtual 129, 3) := by decide +kernel
theorem d_Model_lay_23 : decode b_Model_lay 23 = .ok (.ireturn, 1) := by decide +kernel
theorem d_Model_lay_24 : decode b_Model_lay 24 = .ok (.iload_n 2, 1) := by decide +kernel
theorem d_Model_lay_25 : decode b_Model_lay 25 = .ok (.iconst 0, 1) := by decide +kernel
theorem d_Model_lay_26 : decode b_Model_lay 26 = .ok (.aload_n 0, 1) := by decide +kernel
theorem d_Model_lay_27 : decode b_Model_lay 27 = .ok (.getfield 13, 3) := by decide +kernel
theorem d_Model_lay_30 : decode b_Model_lay 30 = .ok (.iload_n 1, 1) := by decide +kernel
theorem d_Model_lay_31 : decode b_Model_lay 31 = .ok (.iaload, 1) := by decide +kernel
theorem d_Model_lay_32 : decode b_Model_lay 32 = .ok (.iconst 1, 1) := by decide +kernel
theorem d_Model_lay_33 : decode b_Model_lay 33 = .ok (.isub, 1) := by decide +kernel
theorem d_Model_lay_34 : decode b_Model_lay 34 = .ok (.invokestatic 118, 3) := by decide +kernel
theorem d_Model_lay_37 : decode b_Model_lay 37 = .ok (.ifCond .ne 9, 3) := by decide +kernel
theorem d_Model_lay_40 : decode b_Model_lay 40 = .ok (.aload_n 0, 1) := by decide +kernel
theorem d_Model_lay_41 : decode b_Model_lay 41 = .ok (.iconst 2, 1) := by decide +kernel
theorem d_Model_lay_42 : decode b_Model_lay 42 = .ok (.invokevirtual 129, 3) := by decide +kernel
theorem d_Model_lay_45 : decode b_Model_lay 45 = .ok (.ireturn, 1) := by decide +kernel
theorem d_Model_lay_46 : decode b_Model_lay 46 = .ok (.aload_n 0, 1) := by decide +kernel
theorem d_Model_lay_47 : decode b_Model_lay 47 = .ok (.iload_n 1, 1) := by decide +kernel
theorem d_Model_lay_48 : decode b_Model_lay 48 = .ok (.iload_n 2, 1) := by decide +kernel
theorem d_Model_lay_49 : decode b_Model_lay 49 = .ok (.invokevirtual 133, 3) := by decide +kernel
theorem d_Model_lay_52 : decode b_Model_lay 52 = .ok (.istore 4, 2) := by decide +kernel
theorem d_Model_lay_54 : decode b_Model_lay 54 = .ok (.aload_n 0, 1) := by decide +kernel
theorem d_Model_lay_55 : decode b_Model_lay 55 = .ok (.getfield 16, 3) := by decide +kernel
theorem d_Model_lay_58 : decode b_Model_lay 58 = .ok (.bipush 60, 2) := by decide +kernel
theorem d_Model_lay_60 : decode b_Model_lay 60 = .ok (.iload_n 1, 1) := by decide +kernel
theorem d_Model_lay_61 : decode b_Model_lay 61 = .ok (.imul, 1) := by decide +kernel
theorem d_Model_lay_62 : decode b_Model_lay 62 = .ok (.iload_n 2, 1) := by decide +kernel
theorem d_Model_lay_63 : decode b_Model_lay 63 = .ok (.iadd, 1) := by decide +kernel
theorem d_Model_lay_64 : decode b_Model_lay 64 = .ok (.iload_n 3, 1) := by decide +kernel
theorem d_Model_lay_65 : decode b_Model_lay 65 = .ok (.iastore, 1) := by decide +kernel
theorem d_Model_lay_66 : decode b_Model_lay 66 = .ok (.aload_n 0, 1) := by decide +kernel
theorem d_Model_lay_67 : decode b_Model_lay 67 = .ok (.iload 4, 2) := by decide +kernel
theorem d_Model_lay_69 : decode b_Model_lay 69 = .ok (.iconst 1, 1) := by decide +kernel
theorem d_Model_lay_70 : decode b_Model_lay 70 = .ok (.invokevirtual 137, 3) := by decide +kernel
theorem d_Model_lay_73 : decode b_Model_lay 73 = .ok (.ireturn, 1) := by decide +kernel
abbrev b_Model_at : ByteArray := prog_11_method_16_code
abbrev y_Model_at : MethodName := ⟨"RiverTuesdaysModel", "at", "(II)I"⟩
theorem ok_Model_at : okV y_Model_at b_Model_at 3 (some .int) 2 9 := ⟨mGW (List.mem_of_getElem? (i := 1256) (by decide +kernel)) rfl, mGW (List.mem_of_getElem? (i := 1257) (by decide +kernel)) rfl, mGW (List.mem_of_getElem? (i := 83) (by decide +kernel)) rfl, mGW (List.mem_of_getElem? (i := 1258) (by decide +kernel)) rfl, ⟨by decide, by decide, by decide +kernel⟩, rfl⟩
theorem d_Model_at_0 : decode b_Model_at 0 = .ok (.iload_n 1, 1) := by decide +kernel
theorem d_Model_at_1 : decode b_Model_at 1 = .ok (.invokestatic 125, 3) := by decide +kernel
theorem d_Model_at_4 : decode b_Model_at 4 = .ok (.ifCond .ne 5, 3) := by decide +kernel
theorem d_Model_at_7 : decode b_Model_at 7 = .ok (.iconst (-1), 1) := by decide +kernel
theorem d_Model_at_8 : decode b_Model_at 8 = .ok (.ireturn, 1) := by decide +kernel
theorem d_Model_at_9 : decode b_Model_at 9 = .ok (.aload_n 0, 1) := by decide +kernel
theorem d_Model_at_10 : decode b_Model_at 10 = .ok (.getfield 13, 3) := by decide +kernel
theorem d_Model_at_13 : decode b_Model_at 13 = .ok (.iload_n 1, 1) := by decide +kernel
theorem d_Model_at_14 : decode b_Model_at 14 = .ok (.iaload, 1) := by decide +kernel
theorem d_Model_at_15 : decode b_Model_at 15 = .ok (.ifCond .ge 9, 3) := by decide +kernel
theorem d_Model_at_18 : decode b_Model_at 18 = .ok (.aload_n 0, 1) := by decide +kernel
theorem d_Model_at_19 : decode b_Model_at 19 = .ok (.iconst 1, 1) := by decide +kernel
theorem d_Model_at_20 : decode b_Model_at 20 = .ok (.invokevirtual 129, 3) := by decide +kernel
theorem d_Model_at_23 : decode b_Model_at 23 = .ok (.ireturn, 1) := by decide +kernel
theorem d_Model_at_24 : decode b_Model_at 24 = .ok (.iload_n 2, 1) := by decide +kernel
theorem d_Model_at_25 : decode b_Model_at 25 = .ok (.iconst 0, 1) := by decide +kernel
theorem d_Model_at_26 : decode b_Model_at 26 = .ok (.aload_n 0, 1) := by decide +kernel
theorem d_Model_at_27 : decode b_Model_at 27 = .ok (.getfield 13, 3) := by decide +kernel
theorem d_Model_at_30 : decode b_Model_at 30 = .ok (.iload_n 1, 1) := by decide +kernel
theorem d_Model_at_31 : decode b_Model_at 31 = .ok (.iaload, 1) := by decide +kernel
theorem d_Model_at_32 : decode b_Model_at 32 = .ok (.iconst 1, 1) := by decide +kernel
theorem d_Model_at_33 : decode b_Model_at 33 = .ok (.isub, 1) := by decide +kernel
theorem d_Model_at_34 : decode b_Model_at 34 = .ok (.invokestatic 118, 3) := by decide +kernel
theorem d_Model_at_37 : decode b_Model_at 37 = .ok (.ifCond .eq 17, 3) := by decide +kernel
theorem d_Model_at_40 : decode b_Model_at 40 = .ok (.aload_n 0, 1) := by decide +kernel
theorem d_Model_at_41 : decode b_Model_at 41 = .ok (.aload_n 0, 1) := by decide +kernel
theorem d_Model_at_42 : decode b_Model_at 42 = .ok (.iload_n 1, 1) := by decide +kernel
theorem d_Model_at_43 : decode b_Model_at 43 = .ok (.iload_n 2, 1) := by decide +kernel
theorem d_Model_at_44 : decode b_Model_at 44 = .ok (.invokevirtual 133, 3) := by decide +kernel
theorem d_Model_at_47 : decode b_Model_at 47 = .ok (.iconst 1, 1) := by decide +kernel
theorem d_Model_at_48 : decode b_Model_at 48 = .ok (.invokevirtual 137, 3) := by decide +kernel
theorem d_Model_at_51 : decode b_Model_at 51 = .ok (.goto 8, 3) := by decide +kernel
theorem d_Model_at_54 : decode b_Model_at 54 = .ok (.aload_n 0, 1) := by decide +kernel
theorem d_Model_at_55 : decode b_Model_at 55 = .ok (.iconst 2, 1) := by decide +kernel
theorem d_Model_at_56 : decode b_Model_at 56 = .ok (.invokevirtual 129, 3) := by decide +kernel
theorem d_Model_at_59 : decode b_Model_at 59 = .ok (.ireturn, 1) := by decide +kernel
abbrev b_Model_tear : ByteArray := prog_11_method_17_code
abbrev y_Model_tear : MethodName := ⟨"RiverTuesdaysModel", "tear", "(I)I"⟩
theorem ok_Model_tear : okV y_Model_tear b_Model_tear 2 (some .int) 1 9 := ⟨mGW (List.mem_of_getElem? (i := 1260) (by decide +kernel)) rfl, mGW (List.mem_of_getElem? (i := 1261) (by decide +kernel)) rfl, mGW (List.mem_of_getElem? (i := 83) (by decide +kernel)) rfl, mGW (List.mem_of_getElem? (i := 1262) (by decide +kernel)) rfl, ⟨by decide, by decide, by decide +kernel⟩, rfl⟩
theorem d_Model_tear_0 : decode b_Model_tear 0 = .ok (.iload_n 1, 1) := by decide +kernel
theorem d_Model_tear_1 : decode b_Model_tear 1 = .ok (.invokestatic 125, 3) := by decide +kernel
theorem d_Model_tear_4 : decode b_Model_tear 4 = .ok (.ifCond .ne 5, 3) := by decide +kernel
theorem d_Model_tear_7 : decode b_Model_tear 7 = .ok (.iconst (-1), 1) := by decide +kernel
theorem d_Model_tear_8 : decode b_Model_tear 8 = .ok (.ireturn, 1) := by decide +kernel
theorem d_Model_tear_9 : decode b_Model_tear 9 = .ok (.aload_n 0, 1) := by decide +kernel
theorem d_Model_tear_10 : decode b_Model_tear 10 = .ok (.getfield 13, 3) := by decide +kernel
theorem d_Model_tear_13 : decode b_Model_tear 13 = .ok (.iload_n 1, 1) := by decide +kernel
theorem d_Model_tear_14 : decode b_Model_tear 14 = .ok (.iaload, 1) := by decide +kernel
theorem d_Model_tear_15 : decode b_Model_tear 15 = .ok (.ifCond .ge 9, 3) := by decide +kernel
theorem d_Model_tear_18 : decode b_Model_tear 18 = .ok (.aload_n 0, 1) := by decide +kernel
theorem d_Model_tear_19 : decode b_Model_tear 19 = .ok (.iconst 1, 1) := by decide +kernel
theorem d_Model_tear_20 : decode b_Model_tear 20 = .ok (.invokevirtual 129, 3) := by decide +kernel
theorem d_Model_tear_23 : decode b_Model_tear 23 = .ok (.ireturn, 1) := by decide +kernel
theorem d_Model_tear_24 : decode b_Model_tear 24 = .ok (.aload_n 0, 1) := by decide +kernel
theorem d_Model_tear_25 : decode b_Model_tear 25 = .ok (.getfield 13, 3) := by decide +kernel
theorem d_Model_tear_28 : decode b_Model_tear 28 = .ok (.iload_n 1, 1) := by decide +kernel
theorem d_Model_tear_29 : decode b_Model_tear 29 = .ok (.iconst (-1), 1) := by decide +kernel
theorem d_Model_tear_30 : decode b_Model_tear 30 = .ok (.iastore, 1) := by decide +kernel
theorem d_Model_tear_31 : decode b_Model_tear 31 = .ok (.iconst 1, 1) := by decide +kernel
theorem d_Model_tear_32 : decode b_Model_tear 32 = .ok (.ireturn, 1) := by decide +kernel
abbrev b_Model_copy : ByteArray := prog_11_method_18_code
abbrev y_Model_copy : MethodName := ⟨"RiverTuesdaysModel", "copy", "(IIIII)I"⟩
theorem ok_Model_copy : okV y_Model_copy b_Model_copy 7 (some .int) 5 9 := ⟨mGW (List.mem_of_getElem? (i := 1264) (by decide +kernel)) rfl, mGW (List.mem_of_getElem? (i := 1265) (by decide +kernel)) rfl, mGW (List.mem_of_getElem? (i := 83) (by decide +kernel)) rfl, mGW (List.mem_of_getElem? (i := 1266) (by decide +kernel)) rfl, ⟨by decide, by decide, by decide +kernel⟩, rfl⟩
theorem d_Model_copy_0 : decode b_Model_copy 0 = .ok (.iload_n 1, 1) := by decide +kernel
theorem d_Model_copy_1 : decode b_Model_copy 1 = .ok (.invokestatic 125, 3) := by decide +kernel
theorem d_Model_copy_4 : decode b_Model_copy 4 = .ok (.ifCond .eq 10, 3) := by decide +kernel
theorem d_Model_copy_7 : decode b_Model_copy 7 = .ok (.iload_n 3, 1) := by decide +kernel
theorem d_Model_copy_8 : decode b_Model_copy 8 = .ok (.invokestatic 125, 3) := by decide +kernel
theorem d_Model_copy_11 : decode b_Model_copy 11 = .ok (.ifCond .ne 5, 3) := by decide +kernel
theorem d_Model_copy_14 : decode b_Model_copy 14 = .ok (.iconst (-1), 1) := by decide +kernel
theorem d_Model_copy_15 : decode b_Model_copy 15 = .ok (.ireturn, 1) := by decide +kernel
theorem d_Model_copy_16 : decode b_Model_copy 16 = .ok (.iload 5, 2) := by decide +kernel
theorem d_Model_copy_18 : decode b_Model_copy 18 = .ok (.ifCond .ge 9, 3) := by decide +kernel
theorem d_Model_copy_21 : decode b_Model_copy 21 = .ok (.aload_n 0, 1) := by decide +kernel
theorem d_Model_copy_22 : decode b_Model_copy 22 = .ok (.iconst 5, 1) := by decide +kernel
theorem d_Model_copy_23 : decode b_Model_copy 23 = .ok (.invokevirtual 129, 3) := by decide +kernel
theorem d_Model_copy_26 : decode b_Model_copy 26 = .ok (.ireturn, 1) := by decide +kernel
theorem d_Model_copy_27 : decode b_Model_copy 27 = .ok (.aload_n 0, 1) := by decide +kernel
theorem d_Model_copy_28 : decode b_Model_copy 28 = .ok (.getfield 13, 3) := by decide +kernel
theorem d_Model_copy_31 : decode b_Model_copy 31 = .ok (.iload_n 1, 1) := by decide +kernel
theorem d_Model_copy_32 : decode b_Model_copy 32 = .ok (.iaload, 1) := by decide +kernel
theorem d_Model_copy_33 : decode b_Model_copy 33 = .ok (.ifCond .lt 12, 3) := by decide +kernel
theorem d_Model_copy_36 : decode b_Model_copy 36 = .ok (.aload_n 0, 1) := by decide +kernel
theorem d_Model_copy_37 : decode b_Model_copy 37 = .ok (.getfield 13, 3) := by decide +kernel
theorem d_Model_copy_40 : decode b_Model_copy 40 = .ok (.iload_n 3, 1) := by decide +kernel
theorem d_Model_copy_41 : decode b_Model_copy 41 = .ok (.iaload, 1) := by decide +kernel
theorem d_Model_copy_42 : decode b_Model_copy 42 = .ok (.ifCond .ge 9, 3) := by decide +kernel
theorem d_Model_copy_45 : decode b_Model_copy 45 = .ok (.aload_n 0, 1) := by decide +kernel
theorem d_Model_copy_46 : decode b_Model_copy 46 = .ok (.iconst 1, 1) := by decide +kernel
theorem d_Model_copy_47 : decode b_Model_copy 47 = .ok (.invokevirtual 129, 3) := by decide +kernel
theorem d_Model_copy_50 : decode b_Model_copy 50 = .ok (.ireturn, 1) := by decide +kernel
theorem d_Model_copy_51 : decode b_Model_copy 51 = .ok (.iload_n 2, 1) := by decide +kernel
theorem d_Model_copy_52 : decode b_Model_copy 52 = .ok (.ifCond .lt 43, 3) := by decide +kernel
theorem d_Model_copy_55 : decode b_Model_copy 55 = .ok (.iload 4, 2) := by decide +kernel
theorem d_Model_copy_57 : decode b_Model_copy 57 = .ok (.ifCond .lt 38, 3) := by decide +kernel
theorem d_Model_copy_60 : decode b_Model_copy 60 = .ok (.iload_n 2, 1) := by decide +kernel
theorem d_Model_copy_61 : decode b_Model_copy 61 = .ok (.i2l, 1) := by decide +kernel
theorem d_Model_copy_62 : decode b_Model_copy 62 = .ok (.iload 5, 2) := by decide +kernel
theorem d_Model_copy_64 : decode b_Model_copy 64 = .ok (.i2l, 1) := by decide +kernel
theorem d_Model_copy_65 : decode b_Model_copy 65 = .ok (.ladd, 1) := by decide +kernel
theorem d_Model_copy_66 : decode b_Model_copy 66 = .ok (.aload_n 0, 1) := by decide +kernel
theorem d_Model_copy_67 : decode b_Model_copy 67 = .ok (.getfield 13, 3) := by decide +kernel
theorem d_Model_copy_70 : decode b_Model_copy 70 = .ok (.iload_n 1, 1) := by decide +kernel
theorem d_Model_copy_71 : decode b_Model_copy 71 = .ok (.iaload, 1) := by decide +kernel
theorem d_Model_copy_72 : decode b_Model_copy 72 = .ok (.i2l, 1) := by decide +kernel
theorem d_Model_copy_73 : decode b_Model_copy 73 = .ok (.lcmp, 1) := by decide +kernel
theorem d_Model_copy_74 : decode b_Model_copy 74 = .ok (.ifCond .gt 21, 3) := by decide +kernel
theorem d_Model_copy_77 : decode b_Model_copy 77 = .ok (.iload 4, 2) := by decide +kernel
theorem d_Model_copy_79 : decode b_Model_copy 79 = .ok (.i2l, 1) := by decide +kernel
theorem d_Model_copy_80 : decode b_Model_copy 80 = .ok (.iload 5, 2) := by decide +kernel
theorem d_Model_copy_82 : decode b_Model_copy 82 = .ok (.i2l, 1) := by decide +kernel
theorem d_Model_copy_83 : decode b_Model_copy 83 = .ok (.ladd, 1) := by decide +kernel
theorem d_Model_copy_84 : decode b_Model_copy 84 = .ok (.aload_n 0, 1) := by decide +kernel
theorem d_Model_copy_85 : decode b_Model_copy 85 = .ok (.getfield 13, 3) := by decide +kernel
theorem d_Model_copy_88 : decode b_Model_copy 88 = .ok (.iload_n 3, 1) := by decide +kernel
theorem d_Model_copy_89 : decode b_Model_copy 89 = .ok (.iaload, 1) := by decide +kernel
theorem d_Model_copy_90 : decode b_Model_copy 90 = .ok (.i2l, 1) := by decide +kernel
theorem d_Model_copy_91 : decode b_Model_copy 91 = .ok (.lcmp, 1) := by decide +kernel
theorem d_Model_copy_92 : decode b_Model_copy 92 = .ok (.ifCond .le 9, 3) := by decide +kernel
theorem d_Model_copy_95 : decode b_Model_copy 95 = .ok (.aload_n 0, 1) := by decide +kernel
theorem d_Model_copy_96 : decode b_Model_copy 96 = .ok (.iconst 2, 1) := by decide +kernel
theorem d_Model_copy_97 : decode b_Model_copy 97 = .ok (.invokevirtual 129, 3) := by decide +kernel
theorem d_Model_copy_100 : decode b_Model_copy 100 = .ok (.ireturn, 1) := by decide +kernel
theorem d_Model_copy_101 : decode b_Model_copy 101 = .ok (.iconst 0, 1) := by decide +kernel
theorem d_Model_copy_102 : decode b_Model_copy 102 = .ok (.istore 6, 2) := by decide +kernel
theorem d_Model_copy_104 : decode b_Model_copy 104 = .ok (.iload 6, 2) := by decide +kernel
theorem d_Model_copy_106 : decode b_Model_copy 106 = .ok (.iload 5, 2) := by decide +kernel
theorem d_Model_copy_108 : decode b_Model_copy 108 = .ok (.if_icmp .ge 25, 3) := by decide +kernel
theorem d_Model_copy_111 : decode b_Model_copy 111 = .ok (.aload_n 0, 1) := by decide +kernel
theorem d_Model_copy_112 : decode b_Model_copy 112 = .ok (.getfield 19, 3) := by decide +kernel
theorem d_Model_copy_115 : decode b_Model_copy 115 = .ok (.iload 6, 2) := by decide +kernel
theorem d_Model_copy_117 : decode b_Model_copy 117 = .ok (.aload_n 0, 1) := by decide +kernel
theorem d_Model_copy_118 : decode b_Model_copy 118 = .ok (.iload_n 1, 1) := by decide +kernel
theorem d_Model_copy_119 : decode b_Model_copy 119 = .ok (.iload_n 2, 1) := by decide +kernel
theorem d_Model_copy_120 : decode b_Model_copy 120 = .ok (.iload 6, 2) := by decide +kernel
theorem d_Model_copy_122 : decode b_Model_copy 122 = .ok (.iadd, 1) := by decide +kernel
theorem d_Model_copy_123 : decode b_Model_copy 123 = .ok (.invokevirtual 133, 3) := by decide +kernel
theorem d_Model_copy_126 : decode b_Model_copy 126 = .ok (.iastore, 1) := by decide +kernel
theorem d_Model_copy_127 : decode b_Model_copy 127 = .ok (.iinc 6 1, 3) := by decide +kernel
theorem d_Model_copy_130 : decode b_Model_copy 130 = .ok (.goto (-26), 3) := by decide +kernel
theorem d_Model_copy_133 : decode b_Model_copy 133 = .ok (.iconst 0, 1) := by decide +kernel
theorem d_Model_copy_134 : decode b_Model_copy 134 = .ok (.istore 6, 2) := by decide +kernel
theorem d_Model_copy_136 : decode b_Model_copy 136 = .ok (.iload 6, 2) := by decide +kernel
theorem d_Model_copy_138 : decode b_Model_copy 138 = .ok (.iload 5, 2) := by decide +kernel
theorem d_Model_copy_140 : decode b_Model_copy 140 = .ok (.if_icmp .ge 31, 3) := by decide +kernel
theorem d_Model_copy_143 : decode b_Model_copy 143 = .ok (.aload_n 0, 1) := by decide +kernel
theorem d_Model_copy_144 : decode b_Model_copy 144 = .ok (.getfield 16, 3) := by decide +kernel
theorem d_Model_copy_147 : decode b_Model_copy 147 = .ok (.bipush 60, 2) := by decide +kernel
theorem d_Model_copy_149 : decode b_Model_copy 149 = .ok (.iload_n 3, 1) := by decide +kernel
theorem d_Model_copy_150 : decode b_Model_copy 150 = .ok (.imul, 1) := by decide +kernel
theorem d_Model_copy_151 : decode b_Model_copy 151 = .ok (.iload 4, 2) := by decide +kernel
theorem d_Model_copy_153 : decode b_Model_copy 153 = .ok (.iadd, 1) := by decide +kernel
theorem d_Model_copy_154 : decode b_Model_copy 154 = .ok (.iload 6, 2) := by decide +kernel
theorem d_Model_copy_156 : decode b_Model_copy 156 = .ok (.iadd, 1) := by decide +kernel
theorem d_Model_copy_157 : decode b_Model_copy 157 = .ok (.aload_n 0, 1) := by decide +kernel
theorem d_Model_copy_158 : decode b_Model_copy 158 = .ok (.getfield 19, 3) := by decide +kernel
theorem d_Model_copy_161 : decode b_Model_copy 161 = .ok (.iload 6, 2) := by decide +kernel
theorem d_Model_copy_163 : decode b_Model_copy 163 = .ok (.iaload, 1) := by decide +kernel
theorem d_Model_copy_164 : decode b_Model_copy 164 = .ok (.iastore, 1) := by decide +kernel
theorem d_Model_copy_165 : decode b_Model_copy 165 = .ok (.iinc 6 1, 3) := by decide +kernel
theorem d_Model_copy_168 : decode b_Model_copy 168 = .ok (.goto (-32), 3) := by decide +kernel
theorem d_Model_copy_171 : decode b_Model_copy 171 = .ok (.iconst 1, 1) := by decide +kernel
theorem d_Model_copy_172 : decode b_Model_copy 172 = .ok (.ireturn, 1) := by decide +kernel
abbrev b_Model_mean : ByteArray := prog_11_method_19_code
abbrev y_Model_mean : MethodName := ⟨"RiverTuesdaysModel", "mean", "(I)I"⟩
theorem ok_Model_mean : okV y_Model_mean b_Model_mean 5 (some .int) 1 9 := ⟨mGW (List.mem_of_getElem? (i := 1268) (by decide +kernel)) rfl, mGW (List.mem_of_getElem? (i := 1269) (by decide +kernel)) rfl, mGW (List.mem_of_getElem? (i := 83) (by decide +kernel)) rfl, mGW (List.mem_of_getElem? (i := 1270) (by decide +kernel)) rfl, ⟨by decide, by decide, by decide +kernel⟩, rfl⟩
theorem d_Model_mean_0 : decode b_Model_mean 0 = .ok (.iload_n 1, 1) := by decide +kernel
theorem d_Model_mean_1 : decode b_Model_mean 1 = .ok (.invokestatic 125, 3) := by decide +kernel
theorem d_Model_mean_4 : decode b_Model_mean 4 = .ok (.ifCond .ne 5, 3) := by decide +kernel
theorem d_Model_mean_7 : decode b_Model_mean 7 = .ok (.iconst (-1), 1) := by decide +kernel
theorem d_Model_mean_8 : decode b_Model_mean 8 = .ok (.ireturn, 1) := by decide +kernel
theorem d_Model_mean_9 : decode b_Model_mean 9 = .ok (.aload_n 0, 1) := by decide +kernel
theorem d_Model_mean_10 : decode b_Model_mean 10 = .ok (.getfield 13, 3) := by decide +kernel
theorem d_Model_mean_13 : decode b_Model_mean 13 = .ok (.iload_n 1, 1) := by decide +kernel
theorem d_Model_mean_14 : decode b_Model_mean 14 = .ok (.iaload, 1) := by decide +kernel
theorem d_Model_mean_15 : decode b_Model_mean 15 = .ok (.ifCond .ge 9, 3) := by decide +kernel
theorem d_Model_mean_18 : decode b_Model_mean 18 = .ok (.aload_n 0, 1) := by decide +kernel
theorem d_Model_mean_19 : decode b_Model_mean 19 = .ok (.iconst 1, 1) := by decide +kernel
theorem d_Model_mean_20 : decode b_Model_mean 20 = .ok (.invokevirtual 129, 3) := by decide +kernel
theorem d_Model_mean_23 : decode b_Model_mean 23 = .ok (.ireturn, 1) := by decide +kernel
theorem d_Model_mean_24 : decode b_Model_mean 24 = .ok (.aload_n 0, 1) := by decide +kernel
theorem d_Model_mean_25 : decode b_Model_mean 25 = .ok (.getfield 13, 3) := by decide +kernel
theorem d_Model_mean_28 : decode b_Model_mean 28 = .ok (.iload_n 1, 1) := by decide +kernel
theorem d_Model_mean_29 : decode b_Model_mean 29 = .ok (.iaload, 1) := by decide +kernel
theorem d_Model_mean_30 : decode b_Model_mean 30 = .ok (.ifCond .ne 9, 3) := by decide +kernel
theorem d_Model_mean_33 : decode b_Model_mean 33 = .ok (.aload_n 0, 1) := by decide +kernel
theorem d_Model_mean_34 : decode b_Model_mean 34 = .ok (.iconst 4, 1) := by decide +kernel
theorem d_Model_mean_35 : decode b_Model_mean 35 = .ok (.invokevirtual 129, 3) := by decide +kernel
theorem d_Model_mean_38 : decode b_Model_mean 38 = .ok (.ireturn, 1) := by decide +kernel
theorem d_Model_mean_39 : decode b_Model_mean 39 = .ok (.lconst 0, 1) := by decide +kernel
theorem d_Model_mean_40 : decode b_Model_mean 40 = .ok (.lstore_n 2, 1) := by decide +kernel
theorem d_Model_mean_41 : decode b_Model_mean 41 = .ok (.iconst 0, 1) := by decide +kernel
theorem d_Model_mean_42 : decode b_Model_mean 42 = .ok (.istore 4, 2) := by decide +kernel
theorem d_Model_mean_44 : decode b_Model_mean 44 = .ok (.iload 4, 2) := by decide +kernel
theorem d_Model_mean_46 : decode b_Model_mean 46 = .ok (.aload_n 0, 1) := by decide +kernel
theorem d_Model_mean_47 : decode b_Model_mean 47 = .ok (.getfield 13, 3) := by decide +kernel
theorem d_Model_mean_50 : decode b_Model_mean 50 = .ok (.iload_n 1, 1) := by decide +kernel
theorem d_Model_mean_51 : decode b_Model_mean 51 = .ok (.iaload, 1) := by decide +kernel
theorem d_Model_mean_52 : decode b_Model_mean 52 = .ok (.if_icmp .ge 20, 3) := by decide +kernel
theorem d_Model_mean_55 : decode b_Model_mean 55 = .ok (.lload_n 2, 1) := by decide +kernel
theorem d_Model_mean_56 : decode b_Model_mean 56 = .ok (.aload_n 0, 1) := by decide +kernel
theorem d_Model_mean_57 : decode b_Model_mean 57 = .ok (.iload_n 1, 1) := by decide +kernel
theorem d_Model_mean_58 : decode b_Model_mean 58 = .ok (.iload 4, 2) := by decide +kernel
theorem d_Model_mean_60 : decode b_Model_mean 60 = .ok (.invokevirtual 133, 3) := by decide +kernel
theorem d_Model_mean_63 : decode b_Model_mean 63 = .ok (.i2l, 1) := by decide +kernel
theorem d_Model_mean_64 : decode b_Model_mean 64 = .ok (.ladd, 1) := by decide +kernel
theorem d_Model_mean_65 : decode b_Model_mean 65 = .ok (.lstore_n 2, 1) := by decide +kernel
theorem d_Model_mean_66 : decode b_Model_mean 66 = .ok (.iinc 4 1, 3) := by decide +kernel
theorem d_Model_mean_69 : decode b_Model_mean 69 = .ok (.goto (-25), 3) := by decide +kernel
theorem d_Model_mean_72 : decode b_Model_mean 72 = .ok (.aload_n 0, 1) := by decide +kernel
theorem d_Model_mean_73 : decode b_Model_mean 73 = .ok (.lload_n 2, 1) := by decide +kernel
theorem d_Model_mean_74 : decode b_Model_mean 74 = .ok (.aload_n 0, 1) := by decide +kernel
theorem d_Model_mean_75 : decode b_Model_mean 75 = .ok (.getfield 13, 3) := by decide +kernel
theorem d_Model_mean_78 : decode b_Model_mean 78 = .ok (.iload_n 1, 1) := by decide +kernel
theorem d_Model_mean_79 : decode b_Model_mean 79 = .ok (.iaload, 1) := by decide +kernel
theorem d_Model_mean_80 : decode b_Model_mean 80 = .ok (.i2l, 1) := by decide +kernel
theorem d_Model_mean_81 : decode b_Model_mean 81 = .ok (.ldiv, 1) := by decide +kernel
theorem d_Model_mean_82 : decode b_Model_mean 82 = .ok (.l2i, 1) := by decide +kernel
theorem d_Model_mean_83 : decode b_Model_mean 83 = .ok (.iconst 1, 1) := by decide +kernel
theorem d_Model_mean_84 : decode b_Model_mean 84 = .ok (.invokevirtual 137, 3) := by decide +kernel
theorem d_Model_mean_87 : decode b_Model_mean 87 = .ok (.ireturn, 1) := by decide +kernel
abbrev b_Model_isText : ByteArray := prog_11_method_20_code
abbrev y_Model_isText : MethodName := ⟨"RiverTuesdaysModel", "isText", "(I)Z"⟩
theorem ok_Model_isText : okS y_Model_isText b_Model_isText 1 (some .boolean) 1 := ⟨mGW (List.mem_of_getElem? (i := 1276) (by decide +kernel)) rfl, mGW (List.mem_of_getElem? (i := 83) (by decide +kernel)) rfl, mGW (List.mem_of_getElem? (i := 1277) (by decide +kernel)) rfl, ⟨by decide, by decide, by decide +kernel⟩⟩
theorem d_Model_isText_0 : decode b_Model_isText 0 = .ok (.iload_n 0, 1) := by decide +kernel
theorem d_Model_isText_1 : decode b_Model_isText 1 = .ok (.iconst 0, 1) := by decide +kernel
theorem d_Model_isText_2 : decode b_Model_isText 2 = .ok (.iconst 3, 1) := by decide +kernel
theorem d_Model_isText_3 : decode b_Model_isText 3 = .ok (.invokestatic 118, 3) := by decide +kernel
theorem d_Model_isText_6 : decode b_Model_isText 6 = .ok (.ireturn, 1) := by decide +kernel
abbrev b_Model_text : ByteArray := prog_11_method_21_code
abbrev y_Model_text : MethodName := ⟨"RiverTuesdaysModel", "text", "(II)I"⟩
theorem ok_Model_text : okV y_Model_text b_Model_text 4 (some .int) 2 9 := ⟨mGW (List.mem_of_getElem? (i := 1272) (by decide +kernel)) rfl, mGW (List.mem_of_getElem? (i := 1273) (by decide +kernel)) rfl, mGW (List.mem_of_getElem? (i := 83) (by decide +kernel)) rfl, mGW (List.mem_of_getElem? (i := 1274) (by decide +kernel)) rfl, ⟨by decide, by decide, by decide +kernel⟩, rfl⟩
theorem d_Model_text_0 : decode b_Model_text 0 = .ok (.iload_n 1, 1) := by decide +kernel
theorem d_Model_text_1 : decode b_Model_text 1 = .ok (.invokestatic 140, 3) := by decide +kernel
theorem d_Model_text_4 : decode b_Model_text 4 = .ok (.ifCond .eq 9, 3) := by decide +kernel
theorem d_Model_text_7 : decode b_Model_text 7 = .ok (.iload_n 2, 1) := by decide +kernel
theorem d_Model_text_8 : decode b_Model_text 8 = .ok (.bipush 60, 2) := by decide +kernel
theorem d_Model_text_10 : decode b_Model_text 10 = .ok (.if_icmp .le 5, 3) := by decide +kernel
theorem d_Model_text_13 : decode b_Model_text 13 = .ok (.iconst (-1), 1) := by decide +kernel
theorem d_Model_text_14 : decode b_Model_text 14 = .ok (.ireturn, 1) := by decide +kernel
theorem d_Model_text_15 : decode b_Model_text 15 = .ok (.iload_n 2, 1) := by decide +kernel
theorem d_Model_text_16 : decode b_Model_text 16 = .ok (.ifCond .ge 9, 3) := by decide +kernel
theorem d_Model_text_19 : decode b_Model_text 19 = .ok (.aload_n 0, 1) := by decide +kernel
theorem d_Model_text_20 : decode b_Model_text 20 = .ok (.iconst 5, 1) := by decide +kernel
theorem d_Model_text_21 : decode b_Model_text 21 = .ok (.invokevirtual 129, 3) := by decide +kernel
theorem d_Model_text_24 : decode b_Model_text 24 = .ok (.ireturn, 1) := by decide +kernel
theorem d_Model_text_25 : decode b_Model_text 25 = .ok (.aload_n 0, 1) := by decide +kernel
theorem d_Model_text_26 : decode b_Model_text 26 = .ok (.getfield 22, 3) := by decide +kernel
theorem d_Model_text_29 : decode b_Model_text 29 = .ok (.iload_n 1, 1) := by decide +kernel
theorem d_Model_text_30 : decode b_Model_text 30 = .ok (.iload_n 2, 1) := by decide +kernel
theorem d_Model_text_31 : decode b_Model_text 31 = .ok (.iastore, 1) := by decide +kernel
theorem d_Model_text_32 : decode b_Model_text 32 = .ok (.iconst 0, 1) := by decide +kernel
theorem d_Model_text_33 : decode b_Model_text 33 = .ok (.istore_n 3, 1) := by decide +kernel
theorem d_Model_text_34 : decode b_Model_text 34 = .ok (.iload_n 3, 1) := by decide +kernel
theorem d_Model_text_35 : decode b_Model_text 35 = .ok (.bipush 60, 2) := by decide +kernel
theorem d_Model_text_37 : decode b_Model_text 37 = .ok (.if_icmp .ge 22, 3) := by decide +kernel
theorem d_Model_text_40 : decode b_Model_text 40 = .ok (.aload_n 0, 1) := by decide +kernel
theorem d_Model_text_41 : decode b_Model_text 41 = .ok (.getfield 25, 3) := by decide +kernel
theorem d_Model_text_44 : decode b_Model_text 44 = .ok (.bipush 60, 2) := by decide +kernel
theorem d_Model_text_46 : decode b_Model_text 46 = .ok (.iload_n 1, 1) := by decide +kernel
theorem d_Model_text_47 : decode b_Model_text 47 = .ok (.imul, 1) := by decide +kernel
theorem d_Model_text_48 : decode b_Model_text 48 = .ok (.iload_n 3, 1) := by decide +kernel
theorem d_Model_text_49 : decode b_Model_text 49 = .ok (.iadd, 1) := by decide +kernel
theorem d_Model_text_50 : decode b_Model_text 50 = .ok (.bipush 32, 2) := by decide +kernel
theorem d_Model_text_52 : decode b_Model_text 52 = .ok (.bastore, 1) := by decide +kernel
theorem d_Model_text_53 : decode b_Model_text 53 = .ok (.iinc 3 1, 3) := by decide +kernel
theorem d_Model_text_56 : decode b_Model_text 56 = .ok (.goto (-22), 3) := by decide +kernel
theorem d_Model_text_59 : decode b_Model_text 59 = .ok (.iload_n 2, 1) := by decide +kernel
theorem d_Model_text_60 : decode b_Model_text 60 = .ok (.ireturn, 1) := by decide +kernel
abbrev b_Model_put : ByteArray := prog_11_method_22_code
abbrev y_Model_put : MethodName := ⟨"RiverTuesdaysModel", "put", "(III)I"⟩
theorem ok_Model_put : okV y_Model_put b_Model_put 5 (some .int) 3 9 := ⟨mGW (List.mem_of_getElem? (i := 1279) (by decide +kernel)) rfl, mGW (List.mem_of_getElem? (i := 1280) (by decide +kernel)) rfl, mGW (List.mem_of_getElem? (i := 83) (by decide +kernel)) rfl, mGW (List.mem_of_getElem? (i := 1281) (by decide +kernel)) rfl, ⟨by decide, by decide, by decide +kernel⟩, rfl⟩
theorem d_Model_put_0 : decode b_Model_put 0 = .ok (.iload_n 1, 1) := by decide +kernel
theorem d_Model_put_1 : decode b_Model_put 1 = .ok (.invokestatic 140, 3) := by decide +kernel
theorem d_Model_put_4 : decode b_Model_put 4 = .ok (.ifCond .ne 5, 3) := by decide +kernel
theorem d_Model_put_7 : decode b_Model_put 7 = .ok (.iconst (-1), 1) := by decide +kernel
theorem d_Model_put_8 : decode b_Model_put 8 = .ok (.ireturn, 1) := by decide +kernel
theorem d_Model_put_9 : decode b_Model_put 9 = .ok (.aload_n 0, 1) := by decide +kernel
theorem d_Model_put_10 : decode b_Model_put 10 = .ok (.getfield 22, 3) := by decide +kernel
theorem d_Model_put_13 : decode b_Model_put 13 = .ok (.iload_n 1, 1) := by decide +kernel
theorem d_Model_put_14 : decode b_Model_put 14 = .ok (.iaload, 1) := by decide +kernel
theorem d_Model_put_15 : decode b_Model_put 15 = .ok (.ifCond .ge 9, 3) := by decide +kernel
theorem d_Model_put_18 : decode b_Model_put 18 = .ok (.aload_n 0, 1) := by decide +kernel
theorem d_Model_put_19 : decode b_Model_put 19 = .ok (.iconst 1, 1) := by decide +kernel
theorem d_Model_put_20 : decode b_Model_put 20 = .ok (.invokevirtual 129, 3) := by decide +kernel
theorem d_Model_put_23 : decode b_Model_put 23 = .ok (.ireturn, 1) := by decide +kernel
theorem d_Model_put_24 : decode b_Model_put 24 = .ok (.iload_n 2, 1) := by decide +kernel
theorem d_Model_put_25 : decode b_Model_put 25 = .ok (.iconst 0, 1) := by decide +kernel
theorem d_Model_put_26 : decode b_Model_put 26 = .ok (.aload_n 0, 1) := by decide +kernel
theorem d_Model_put_27 : decode b_Model_put 27 = .ok (.getfield 22, 3) := by decide +kernel
theorem d_Model_put_30 : decode b_Model_put 30 = .ok (.iload_n 1, 1) := by decide +kernel
theorem d_Model_put_31 : decode b_Model_put 31 = .ok (.iaload, 1) := by decide +kernel
theorem d_Model_put_32 : decode b_Model_put 32 = .ok (.iconst 1, 1) := by decide +kernel
theorem d_Model_put_33 : decode b_Model_put 33 = .ok (.isub, 1) := by decide +kernel
theorem d_Model_put_34 : decode b_Model_put 34 = .ok (.invokestatic 118, 3) := by decide +kernel
theorem d_Model_put_37 : decode b_Model_put 37 = .ok (.ifCond .ne 9, 3) := by decide +kernel
theorem d_Model_put_40 : decode b_Model_put 40 = .ok (.aload_n 0, 1) := by decide +kernel
theorem d_Model_put_41 : decode b_Model_put 41 = .ok (.iconst 2, 1) := by decide +kernel
theorem d_Model_put_42 : decode b_Model_put 42 = .ok (.invokevirtual 129, 3) := by decide +kernel
theorem d_Model_put_45 : decode b_Model_put 45 = .ok (.ireturn, 1) := by decide +kernel
theorem d_Model_put_46 : decode b_Model_put 46 = .ok (.aload_n 0, 1) := by decide +kernel
theorem d_Model_put_47 : decode b_Model_put 47 = .ok (.getfield 25, 3) := by decide +kernel
theorem d_Model_put_50 : decode b_Model_put 50 = .ok (.bipush 60, 2) := by decide +kernel
theorem d_Model_put_52 : decode b_Model_put 52 = .ok (.iload_n 1, 1) := by decide +kernel
theorem d_Model_put_53 : decode b_Model_put 53 = .ok (.imul, 1) := by decide +kernel
theorem d_Model_put_54 : decode b_Model_put 54 = .ok (.iload_n 2, 1) := by decide +kernel
theorem d_Model_put_55 : decode b_Model_put 55 = .ok (.iadd, 1) := by decide +kernel
theorem d_Model_put_56 : decode b_Model_put 56 = .ok (.baload, 1) := by decide +kernel
theorem d_Model_put_57 : decode b_Model_put 57 = .ok (.istore 4, 2) := by decide +kernel
theorem d_Model_put_59 : decode b_Model_put 59 = .ok (.aload_n 0, 1) := by decide +kernel
theorem d_Model_put_60 : decode b_Model_put 60 = .ok (.getfield 25, 3) := by decide +kernel
theorem d_Model_put_63 : decode b_Model_put 63 = .ok (.bipush 60, 2) := by decide +kernel
theorem d_Model_put_65 : decode b_Model_put 65 = .ok (.iload_n 1, 1) := by decide +kernel
theorem d_Model_put_66 : decode b_Model_put 66 = .ok (.imul, 1) := by decide +kernel
theorem d_Model_put_67 : decode b_Model_put 67 = .ok (.iload_n 2, 1) := by decide +kernel
theorem d_Model_put_68 : decode b_Model_put 68 = .ok (.iadd, 1) := by decide +kernel
theorem d_Model_put_69 : decode b_Model_put 69 = .ok (.iload_n 3, 1) := by decide +kernel
theorem d_Model_put_70 : decode b_Model_put 70 = .ok (.i2b, 1) := by decide +kernel
theorem d_Model_put_71 : decode b_Model_put 71 = .ok (.bastore, 1) := by decide +kernel
theorem d_Model_put_72 : decode b_Model_put 72 = .ok (.sipush 1000, 3) := by decide +kernel
theorem d_Model_put_75 : decode b_Model_put 75 = .ok (.iload 4, 2) := by decide +kernel
theorem d_Model_put_77 : decode b_Model_put 77 = .ok (.iadd, 1) := by decide +kernel
theorem d_Model_put_78 : decode b_Model_put 78 = .ok (.ireturn, 1) := by decide +kernel
abbrev b_Model_byteAt : ByteArray := prog_11_method_23_code
abbrev y_Model_byteAt : MethodName := ⟨"RiverTuesdaysModel", "byteAt", "(II)I"⟩
theorem ok_Model_byteAt : okV y_Model_byteAt b_Model_byteAt 3 (some .int) 2 9 := ⟨mGW (List.mem_of_getElem? (i := 1292) (by decide +kernel)) rfl, mGW (List.mem_of_getElem? (i := 38) (by decide +kernel)) rfl, mGW (List.mem_of_getElem? (i := 83) (by decide +kernel)) rfl, mGW (List.mem_of_getElem? (i := 1293) (by decide +kernel)) rfl, ⟨by decide, by decide, by decide +kernel⟩, rfl⟩
theorem d_Model_byteAt_0 : decode b_Model_byteAt 0 = .ok (.iload_n 2, 1) := by decide +kernel
theorem d_Model_byteAt_1 : decode b_Model_byteAt 1 = .ok (.aload_n 0, 1) := by decide +kernel
theorem d_Model_byteAt_2 : decode b_Model_byteAt 2 = .ok (.getfield 22, 3) := by decide +kernel
theorem d_Model_byteAt_5 : decode b_Model_byteAt 5 = .ok (.iload_n 1, 1) := by decide +kernel
theorem d_Model_byteAt_6 : decode b_Model_byteAt 6 = .ok (.iaload, 1) := by decide +kernel
theorem d_Model_byteAt_7 : decode b_Model_byteAt 7 = .ok (.if_icmp .ge 17, 3) := by decide +kernel
theorem d_Model_byteAt_10 : decode b_Model_byteAt 10 = .ok (.aload_n 0, 1) := by decide +kernel
theorem d_Model_byteAt_11 : decode b_Model_byteAt 11 = .ok (.getfield 25, 3) := by decide +kernel
theorem d_Model_byteAt_14 : decode b_Model_byteAt 14 = .ok (.bipush 60, 2) := by decide +kernel
theorem d_Model_byteAt_16 : decode b_Model_byteAt 16 = .ok (.iload_n 1, 1) := by decide +kernel
theorem d_Model_byteAt_17 : decode b_Model_byteAt 17 = .ok (.imul, 1) := by decide +kernel
theorem d_Model_byteAt_18 : decode b_Model_byteAt 18 = .ok (.iload_n 2, 1) := by decide +kernel
theorem d_Model_byteAt_19 : decode b_Model_byteAt 19 = .ok (.iadd, 1) := by decide +kernel
theorem d_Model_byteAt_20 : decode b_Model_byteAt 20 = .ok (.baload, 1) := by decide +kernel
theorem d_Model_byteAt_21 : decode b_Model_byteAt 21 = .ok (.goto 4, 3) := by decide +kernel
theorem d_Model_byteAt_24 : decode b_Model_byteAt 24 = .ok (.iconst 0, 1) := by decide +kernel
theorem d_Model_byteAt_25 : decode b_Model_byteAt 25 = .ok (.ireturn, 1) := by decide +kernel
abbrev b_Model_kindOf : ByteArray := prog_11_method_24_code
abbrev y_Model_kindOf : MethodName := ⟨"RiverTuesdaysModel", "kindOf", "(I)I"⟩
theorem ok_Model_kindOf : okS y_Model_kindOf b_Model_kindOf 1 (some .int) 1 := ⟨mGW (List.mem_of_getElem? (i := 1307) (by decide +kernel)) rfl, mGW (List.mem_of_getElem? (i := 83) (by decide +kernel)) rfl, mGW (List.mem_of_getElem? (i := 1308) (by decide +kernel)) rfl, ⟨by decide, by decide, by decide +kernel⟩⟩
theorem d_Model_kindOf_0 : decode b_Model_kindOf 0 = .ok (.iload_n 0, 1) := by decide +kernel
theorem d_Model_kindOf_1 : decode b_Model_kindOf 1 = .ok (.tableswitch 107 100 119 #[101, 107, 107, 107, 95, 107, 107, 107, 105, 97, 107, 107, 107, 107, 107, 99, 107, 107, 107, 103], 95) := by decide +kernel
theorem d_Model_kindOf_96 : decode b_Model_kindOf 96 = .ok (.iconst 0, 1) := by decide +kernel
theorem d_Model_kindOf_97 : decode b_Model_kindOf 97 = .ok (.ireturn, 1) := by decide +kernel
theorem d_Model_kindOf_98 : decode b_Model_kindOf 98 = .ok (.iconst 1, 1) := by decide +kernel
theorem d_Model_kindOf_99 : decode b_Model_kindOf 99 = .ok (.ireturn, 1) := by decide +kernel
theorem d_Model_kindOf_100 : decode b_Model_kindOf 100 = .ok (.iconst 2, 1) := by decide +kernel
theorem d_Model_kindOf_101 : decode b_Model_kindOf 101 = .ok (.ireturn, 1) := by decide +kernel
theorem d_Model_kindOf_102 : decode b_Model_kindOf 102 = .ok (.iconst 3, 1) := by decide +kernel
theorem d_Model_kindOf_103 : decode b_Model_kindOf 103 = .ok (.ireturn, 1) := by decide +kernel
theorem d_Model_kindOf_104 : decode b_Model_kindOf 104 = .ok (.iconst 4, 1) := by decide +kernel
theorem d_Model_kindOf_105 : decode b_Model_kindOf 105 = .ok (.ireturn, 1) := by decide +kernel
theorem d_Model_kindOf_106 : decode b_Model_kindOf 106 = .ok (.iconst 5, 1) := by decide +kernel
theorem d_Model_kindOf_107 : decode b_Model_kindOf 107 = .ok (.ireturn, 1) := by decide +kernel
theorem d_Model_kindOf_108 : decode b_Model_kindOf 108 = .ok (.bipush (-9), 2) := by decide +kernel
theorem d_Model_kindOf_110 : decode b_Model_kindOf 110 = .ok (.ireturn, 1) := by decide +kernel
abbrev b_Model_figure : ByteArray := prog_11_method_25_code
abbrev y_Model_figure : MethodName := ⟨"RiverTuesdaysModel", "figure", "(III)Z"⟩
theorem ok_Model_figure : okV y_Model_figure b_Model_figure 5 (some .boolean) 3 9 := ⟨mGW (List.mem_of_getElem? (i := 1300) (by decide +kernel)) rfl, mGW (List.mem_of_getElem? (i := 40) (by decide +kernel)) rfl, mGW (List.mem_of_getElem? (i := 83) (by decide +kernel)) rfl, mGW (List.mem_of_getElem? (i := 1301) (by decide +kernel)) rfl, ⟨by decide, by decide, by decide +kernel⟩, rfl⟩
theorem d_Model_figure_0 : decode b_Model_figure 0 = .ok (.aload_n 0, 1) := by decide +kernel
theorem d_Model_figure_1 : decode b_Model_figure 1 = .ok (.aload_n 0, 1) := by decide +kernel
theorem d_Model_figure_2 : decode b_Model_figure 2 = .ok (.iload_n 1, 1) := by decide +kernel
theorem d_Model_figure_3 : decode b_Model_figure 3 = .ok (.aload_n 0, 1) := by decide +kernel
theorem d_Model_figure_4 : decode b_Model_figure 4 = .ok (.getfield 143, 3) := by decide +kernel
theorem d_Model_figure_7 : decode b_Model_figure 7 = .ok (.invokevirtual 146, 3) := by decide +kernel
theorem d_Model_figure_10 : decode b_Model_figure 10 = .ok (.bipush 48, 2) := by decide +kernel
theorem d_Model_figure_12 : decode b_Model_figure 12 = .ok (.isub, 1) := by decide +kernel
theorem d_Model_figure_13 : decode b_Model_figure 13 = .ok (.putfield 149, 3) := by decide +kernel
theorem d_Model_figure_16 : decode b_Model_figure 16 = .ok (.aload_n 0, 1) := by decide +kernel
theorem d_Model_figure_17 : decode b_Model_figure 17 = .ok (.getfield 149, 3) := by decide +kernel
theorem d_Model_figure_20 : decode b_Model_figure 20 = .ok (.iload_n 2, 1) := by decide +kernel
theorem d_Model_figure_21 : decode b_Model_figure 21 = .ok (.iload_n 3, 1) := by decide +kernel
theorem d_Model_figure_22 : decode b_Model_figure 22 = .ok (.invokestatic 118, 3) := by decide +kernel
theorem d_Model_figure_25 : decode b_Model_figure 25 = .ok (.istore 4, 2) := by decide +kernel
theorem d_Model_figure_27 : decode b_Model_figure 27 = .ok (.aload_n 0, 1) := by decide +kernel
theorem d_Model_figure_28 : decode b_Model_figure 28 = .ok (.dup, 1) := by decide +kernel
theorem d_Model_figure_29 : decode b_Model_figure 29 = .ok (.getfield 143, 3) := by decide +kernel
theorem d_Model_figure_32 : decode b_Model_figure 32 = .ok (.iload 4, 2) := by decide +kernel
theorem d_Model_figure_34 : decode b_Model_figure 34 = .ok (.ifCond .eq 7, 3) := by decide +kernel
theorem d_Model_figure_37 : decode b_Model_figure 37 = .ok (.iconst 1, 1) := by decide +kernel
theorem d_Model_figure_38 : decode b_Model_figure 38 = .ok (.goto 4, 3) := by decide +kernel
theorem d_Model_figure_41 : decode b_Model_figure 41 = .ok (.iconst 0, 1) := by decide +kernel
theorem d_Model_figure_42 : decode b_Model_figure 42 = .ok (.iadd, 1) := by decide +kernel
theorem d_Model_figure_43 : decode b_Model_figure 43 = .ok (.putfield 143, 3) := by decide +kernel
theorem d_Model_figure_46 : decode b_Model_figure 46 = .ok (.iload 4, 2) := by decide +kernel
theorem d_Model_figure_48 : decode b_Model_figure 48 = .ok (.ireturn, 1) := by decide +kernel
abbrev b_Model_readsFlow : ByteArray := prog_11_method_26_code
abbrev y_Model_readsFlow : MethodName := ⟨"RiverTuesdaysModel", "readsFlow", "(I)Z"⟩
theorem ok_Model_readsFlow : okV y_Model_readsFlow b_Model_readsFlow 3 (some .boolean) 1 9 := ⟨mGW (List.mem_of_getElem? (i := 1296) (by decide +kernel)) rfl, mGW (List.mem_of_getElem? (i := 39) (by decide +kernel)) rfl, mGW (List.mem_of_getElem? (i := 83) (by decide +kernel)) rfl, mGW (List.mem_of_getElem? (i := 1297) (by decide +kernel)) rfl, ⟨by decide, by decide, by decide +kernel⟩, rfl⟩
theorem d_Model_readsFlow_0 : decode b_Model_readsFlow 0 = .ok (.aload_n 0, 1) := by decide +kernel
theorem d_Model_readsFlow_1 : decode b_Model_readsFlow 1 = .ok (.iload_n 1, 1) := by decide +kernel
theorem d_Model_readsFlow_2 : decode b_Model_readsFlow 2 = .ok (.aload_n 0, 1) := by decide +kernel
theorem d_Model_readsFlow_3 : decode b_Model_readsFlow 3 = .ok (.getfield 143, 3) := by decide +kernel
theorem d_Model_readsFlow_6 : decode b_Model_readsFlow 6 = .ok (.invokevirtual 146, 3) := by decide +kernel
theorem d_Model_readsFlow_9 : decode b_Model_readsFlow 9 = .ok (.bipush 113, 2) := by decide +kernel
theorem d_Model_readsFlow_11 : decode b_Model_readsFlow 11 = .ok (.if_icmp .eq 5, 3) := by decide +kernel
theorem d_Model_readsFlow_14 : decode b_Model_readsFlow 14 = .ok (.iconst 0, 1) := by decide +kernel
theorem d_Model_readsFlow_15 : decode b_Model_readsFlow 15 = .ok (.ireturn, 1) := by decide +kernel
theorem d_Model_readsFlow_16 : decode b_Model_readsFlow 16 = .ok (.aload_n 0, 1) := by decide +kernel
theorem d_Model_readsFlow_17 : decode b_Model_readsFlow 17 = .ok (.dup, 1) := by decide +kernel
theorem d_Model_readsFlow_18 : decode b_Model_readsFlow 18 = .ok (.getfield 143, 3) := by decide +kernel
theorem d_Model_readsFlow_21 : decode b_Model_readsFlow 21 = .ok (.iconst 1, 1) := by decide +kernel
theorem d_Model_readsFlow_22 : decode b_Model_readsFlow 22 = .ok (.iadd, 1) := by decide +kernel
theorem d_Model_readsFlow_23 : decode b_Model_readsFlow 23 = .ok (.putfield 143, 3) := by decide +kernel
theorem d_Model_readsFlow_26 : decode b_Model_readsFlow 26 = .ok (.aload_n 0, 1) := by decide +kernel
theorem d_Model_readsFlow_27 : decode b_Model_readsFlow 27 = .ok (.iload_n 1, 1) := by decide +kernel
theorem d_Model_readsFlow_28 : decode b_Model_readsFlow 28 = .ok (.iconst 1, 1) := by decide +kernel
theorem d_Model_readsFlow_29 : decode b_Model_readsFlow 29 = .ok (.bipush 9, 2) := by decide +kernel
theorem d_Model_readsFlow_31 : decode b_Model_readsFlow 31 = .ok (.invokevirtual 152, 3) := by decide +kernel
theorem d_Model_readsFlow_34 : decode b_Model_readsFlow 34 = .ok (.ifCond .ne 5, 3) := by decide +kernel
theorem d_Model_readsFlow_37 : decode b_Model_readsFlow 37 = .ok (.iconst 0, 1) := by decide +kernel
theorem d_Model_readsFlow_38 : decode b_Model_readsFlow 38 = .ok (.ireturn, 1) := by decide +kernel
theorem d_Model_readsFlow_39 : decode b_Model_readsFlow 39 = .ok (.aload_n 0, 1) := by decide +kernel
theorem d_Model_readsFlow_40 : decode b_Model_readsFlow 40 = .ok (.getfield 149, 3) := by decide +kernel
theorem d_Model_readsFlow_43 : decode b_Model_readsFlow 43 = .ok (.istore_n 2, 1) := by decide +kernel
theorem d_Model_readsFlow_44 : decode b_Model_readsFlow 44 = .ok (.aload_n 0, 1) := by decide +kernel
theorem d_Model_readsFlow_45 : decode b_Model_readsFlow 45 = .ok (.iload_n 1, 1) := by decide +kernel
theorem d_Model_readsFlow_46 : decode b_Model_readsFlow 46 = .ok (.iconst 0, 1) := by decide +kernel
theorem d_Model_readsFlow_47 : decode b_Model_readsFlow 47 = .ok (.bipush 9, 2) := by decide +kernel
theorem d_Model_readsFlow_49 : decode b_Model_readsFlow 49 = .ok (.invokevirtual 152, 3) := by decide +kernel
theorem d_Model_readsFlow_52 : decode b_Model_readsFlow 52 = .ok (.ifCond .ne 5, 3) := by decide +kernel
theorem d_Model_readsFlow_55 : decode b_Model_readsFlow 55 = .ok (.iconst 0, 1) := by decide +kernel
theorem d_Model_readsFlow_56 : decode b_Model_readsFlow 56 = .ok (.ireturn, 1) := by decide +kernel
theorem d_Model_readsFlow_57 : decode b_Model_readsFlow 57 = .ok (.aload_n 0, 1) := by decide +kernel
theorem d_Model_readsFlow_58 : decode b_Model_readsFlow 58 = .ok (.iload_n 2, 1) := by decide +kernel
theorem d_Model_readsFlow_59 : decode b_Model_readsFlow 59 = .ok (.putfield 155, 3) := by decide +kernel
theorem d_Model_readsFlow_62 : decode b_Model_readsFlow 62 = .ok (.aload_n 0, 1) := by decide +kernel
theorem d_Model_readsFlow_63 : decode b_Model_readsFlow 63 = .ok (.aload_n 0, 1) := by decide +kernel
theorem d_Model_readsFlow_64 : decode b_Model_readsFlow 64 = .ok (.getfield 149, 3) := by decide +kernel
theorem d_Model_readsFlow_67 : decode b_Model_readsFlow 67 = .ok (.putfield 158, 3) := by decide +kernel
theorem d_Model_readsFlow_70 : decode b_Model_readsFlow 70 = .ok (.iconst 1, 1) := by decide +kernel
theorem d_Model_readsFlow_71 : decode b_Model_readsFlow 71 = .ok (.ireturn, 1) := by decide +kernel
abbrev b_Model_readsHouse : ByteArray := prog_11_method_27_code
abbrev y_Model_readsHouse : MethodName := ⟨"RiverTuesdaysModel", "readsHouse", "(I)Z"⟩
theorem ok_Model_readsHouse : okV y_Model_readsHouse b_Model_readsHouse 4 (some .boolean) 1 9 := ⟨mGW (List.mem_of_getElem? (i := 1304) (by decide +kernel)) rfl, mGW (List.mem_of_getElem? (i := 41) (by decide +kernel)) rfl, mGW (List.mem_of_getElem? (i := 83) (by decide +kernel)) rfl, mGW (List.mem_of_getElem? (i := 1305) (by decide +kernel)) rfl, ⟨by decide, by decide, by decide +kernel⟩, rfl⟩
theorem d_Model_readsHouse_0 : decode b_Model_readsHouse 0 = .ok (.aload_n 0, 1) := by decide +kernel
theorem d_Model_readsHouse_1 : decode b_Model_readsHouse 1 = .ok (.iload_n 1, 1) := by decide +kernel
theorem d_Model_readsHouse_2 : decode b_Model_readsHouse 2 = .ok (.aload_n 0, 1) := by decide +kernel
theorem d_Model_readsHouse_3 : decode b_Model_readsHouse 3 = .ok (.getfield 143, 3) := by decide +kernel
theorem d_Model_readsHouse_6 : decode b_Model_readsHouse 6 = .ok (.invokevirtual 146, 3) := by decide +kernel
theorem d_Model_readsHouse_9 : decode b_Model_readsHouse 9 = .ok (.invokestatic 161, 3) := by decide +kernel
theorem d_Model_readsHouse_12 : decode b_Model_readsHouse 12 = .ok (.istore_n 2, 1) := by decide +kernel
theorem d_Model_readsHouse_13 : decode b_Model_readsHouse 13 = .ok (.iload_n 2, 1) := by decide +kernel
theorem d_Model_readsHouse_14 : decode b_Model_readsHouse 14 = .ok (.bipush (-9), 2) := by decide +kernel
theorem d_Model_readsHouse_16 : decode b_Model_readsHouse 16 = .ok (.if_icmp .eq 12, 3) := by decide +kernel
theorem d_Model_readsHouse_19 : decode b_Model_readsHouse 19 = .ok (.aload_n 0, 1) := by decide +kernel
theorem d_Model_readsHouse_20 : decode b_Model_readsHouse 20 = .ok (.getfield 164, 3) := by decide +kernel
theorem d_Model_readsHouse_23 : decode b_Model_readsHouse 23 = .ok (.bipush 8, 2) := by decide +kernel
theorem d_Model_readsHouse_25 : decode b_Model_readsHouse 25 = .ok (.if_icmp .ne 5, 3) := by decide +kernel
theorem d_Model_readsHouse_28 : decode b_Model_readsHouse 28 = .ok (.iconst 0, 1) := by decide +kernel
theorem d_Model_readsHouse_29 : decode b_Model_readsHouse 29 = .ok (.ireturn, 1) := by decide +kernel
theorem d_Model_readsHouse_30 : decode b_Model_readsHouse 30 = .ok (.aload_n 0, 1) := by decide +kernel
theorem d_Model_readsHouse_31 : decode b_Model_readsHouse 31 = .ok (.dup, 1) := by decide +kernel
theorem d_Model_readsHouse_32 : decode b_Model_readsHouse 32 = .ok (.getfield 143, 3) := by decide +kernel
theorem d_Model_readsHouse_35 : decode b_Model_readsHouse 35 = .ok (.iconst 1, 1) := by decide +kernel
theorem d_Model_readsHouse_36 : decode b_Model_readsHouse 36 = .ok (.iadd, 1) := by decide +kernel
theorem d_Model_readsHouse_37 : decode b_Model_readsHouse 37 = .ok (.putfield 143, 3) := by decide +kernel
theorem d_Model_readsHouse_40 : decode b_Model_readsHouse 40 = .ok (.aload_n 0, 1) := by decide +kernel
theorem d_Model_readsHouse_41 : decode b_Model_readsHouse 41 = .ok (.getfield 44, 3) := by decide +kernel
theorem d_Model_readsHouse_44 : decode b_Model_readsHouse 44 = .ok (.iconst 4, 1) := by decide +kernel
theorem d_Model_readsHouse_45 : decode b_Model_readsHouse 45 = .ok (.aload_n 0, 1) := by decide +kernel
theorem d_Model_readsHouse_46 : decode b_Model_readsHouse 46 = .ok (.getfield 164, 3) := by decide +kernel
theorem d_Model_readsHouse_49 : decode b_Model_readsHouse 49 = .ok (.imul, 1) := by decide +kernel
theorem d_Model_readsHouse_50 : decode b_Model_readsHouse 50 = .ok (.iload_n 2, 1) := by decide +kernel
theorem d_Model_readsHouse_51 : decode b_Model_readsHouse 51 = .ok (.iastore, 1) := by decide +kernel
theorem d_Model_readsHouse_52 : decode b_Model_readsHouse 52 = .ok (.iconst 1, 1) := by decide +kernel
theorem d_Model_readsHouse_53 : decode b_Model_readsHouse 53 = .ok (.istore_n 3, 1) := by decide +kernel
theorem d_Model_readsHouse_54 : decode b_Model_readsHouse 54 = .ok (.iload_n 3, 1) := by decide +kernel
theorem d_Model_readsHouse_55 : decode b_Model_readsHouse 55 = .ok (.iconst 4, 1) := by decide +kernel
theorem d_Model_readsHouse_56 : decode b_Model_readsHouse 56 = .ok (.if_icmp .ge 39, 3) := by decide +kernel
theorem d_Model_readsHouse_59 : decode b_Model_readsHouse 59 = .ok (.aload_n 0, 1) := by decide +kernel
theorem d_Model_readsHouse_60 : decode b_Model_readsHouse 60 = .ok (.iload_n 1, 1) := by decide +kernel
theorem d_Model_readsHouse_61 : decode b_Model_readsHouse 61 = .ok (.iconst 0, 1) := by decide +kernel
theorem d_Model_readsHouse_62 : decode b_Model_readsHouse 62 = .ok (.bipush 9, 2) := by decide +kernel
theorem d_Model_readsHouse_64 : decode b_Model_readsHouse 64 = .ok (.invokevirtual 152, 3) := by decide +kernel
theorem d_Model_readsHouse_67 : decode b_Model_readsHouse 67 = .ok (.ifCond .ne 5, 3) := by decide +kernel
theorem d_Model_readsHouse_70 : decode b_Model_readsHouse 70 = .ok (.iconst 0, 1) := by decide +kernel
theorem d_Model_readsHouse_71 : decode b_Model_readsHouse 71 = .ok (.ireturn, 1) := by decide +kernel
theorem d_Model_readsHouse_72 : decode b_Model_readsHouse 72 = .ok (.aload_n 0, 1) := by decide +kernel
theorem d_Model_readsHouse_73 : decode b_Model_readsHouse 73 = .ok (.getfield 44, 3) := by decide +kernel
theorem d_Model_readsHouse_76 : decode b_Model_readsHouse 76 = .ok (.iconst 4, 1) := by decide +kernel
theorem d_Model_readsHouse_77 : decode b_Model_readsHouse 77 = .ok (.aload_n 0, 1) := by decide +kernel
theorem d_Model_readsHouse_78 : decode b_Model_readsHouse 78 = .ok (.getfield 164, 3) := by decide +kernel
theorem d_Model_readsHouse_81 : decode b_Model_readsHouse 81 = .ok (.imul, 1) := by decide +kernel
theorem d_Model_readsHouse_82 : decode b_Model_readsHouse 82 = .ok (.iload_n 3, 1) := by decide +kernel
theorem d_Model_readsHouse_83 : decode b_Model_readsHouse 83 = .ok (.iadd, 1) := by decide +kernel
theorem d_Model_readsHouse_84 : decode b_Model_readsHouse 84 = .ok (.aload_n 0, 1) := by decide +kernel
theorem d_Model_readsHouse_85 : decode b_Model_readsHouse 85 = .ok (.getfield 149, 3) := by decide +kernel
theorem d_Model_readsHouse_88 : decode b_Model_readsHouse 88 = .ok (.iastore, 1) := by decide +kernel
theorem d_Model_readsHouse_89 : decode b_Model_readsHouse 89 = .ok (.iinc 3 1, 3) := by decide +kernel
theorem d_Model_readsHouse_92 : decode b_Model_readsHouse 92 = .ok (.goto (-38), 3) := by decide +kernel
theorem d_Model_readsHouse_95 : decode b_Model_readsHouse 95 = .ok (.aload_n 0, 1) := by decide +kernel
theorem d_Model_readsHouse_96 : decode b_Model_readsHouse 96 = .ok (.dup, 1) := by decide +kernel
theorem d_Model_readsHouse_97 : decode b_Model_readsHouse 97 = .ok (.getfield 164, 3) := by decide +kernel
theorem d_Model_readsHouse_100 : decode b_Model_readsHouse 100 = .ok (.iconst 1, 1) := by decide +kernel
theorem d_Model_readsHouse_101 : decode b_Model_readsHouse 101 = .ok (.iadd, 1) := by decide +kernel
theorem d_Model_readsHouse_102 : decode b_Model_readsHouse 102 = .ok (.putfield 164, 3) := by decide +kernel
theorem d_Model_readsHouse_105 : decode b_Model_readsHouse 105 = .ok (.iconst 1, 1) := by decide +kernel
theorem d_Model_readsHouse_106 : decode b_Model_readsHouse 106 = .ok (.ireturn, 1) := by decide +kernel
abbrev b_Model_faultOf : ByteArray := prog_11_method_28_code
abbrev y_Model_faultOf : MethodName := ⟨"RiverTuesdaysModel", "faultOf", "(I)I"⟩
theorem ok_Model_faultOf : okV y_Model_faultOf b_Model_faultOf 2 (some .int) 1 9 := ⟨mGW (List.mem_of_getElem? (i := 1288) (by decide +kernel)) rfl, mGW (List.mem_of_getElem? (i := 37) (by decide +kernel)) rfl, mGW (List.mem_of_getElem? (i := 83) (by decide +kernel)) rfl, mGW (List.mem_of_getElem? (i := 1289) (by decide +kernel)) rfl, ⟨by decide, by decide, by decide +kernel⟩, rfl⟩
theorem d_Model_faultOf_0 : decode b_Model_faultOf 0 = .ok (.aload_n 0, 1) := by decide +kernel
theorem d_Model_faultOf_1 : decode b_Model_faultOf 1 = .ok (.iconst 0, 1) := by decide +kernel
theorem d_Model_faultOf_2 : decode b_Model_faultOf 2 = .ok (.putfield 143, 3) := by decide +kernel
theorem d_Model_faultOf_5 : decode b_Model_faultOf 5 = .ok (.aload_n 0, 1) := by decide +kernel
theorem d_Model_faultOf_6 : decode b_Model_faultOf 6 = .ok (.iconst 0, 1) := by decide +kernel
theorem d_Model_faultOf_7 : decode b_Model_faultOf 7 = .ok (.putfield 155, 3) := by decide +kernel
theorem d_Model_faultOf_10 : decode b_Model_faultOf 10 = .ok (.aload_n 0, 1) := by decide +kernel
theorem d_Model_faultOf_11 : decode b_Model_faultOf 11 = .ok (.iconst 0, 1) := by decide +kernel
theorem d_Model_faultOf_12 : decode b_Model_faultOf 12 = .ok (.putfield 164, 3) := by decide +kernel
theorem d_Model_faultOf_15 : decode b_Model_faultOf 15 = .ok (.aload_n 0, 1) := by decide +kernel
theorem d_Model_faultOf_16 : decode b_Model_faultOf 16 = .ok (.getfield 143, 3) := by decide +kernel
theorem d_Model_faultOf_19 : decode b_Model_faultOf 19 = .ok (.aload_n 0, 1) := by decide +kernel
theorem d_Model_faultOf_20 : decode b_Model_faultOf 20 = .ok (.getfield 22, 3) := by decide +kernel
theorem d_Model_faultOf_23 : decode b_Model_faultOf 23 = .ok (.iload_n 1, 1) := by decide +kernel
theorem d_Model_faultOf_24 : decode b_Model_faultOf 24 = .ok (.iaload, 1) := by decide +kernel
theorem d_Model_faultOf_25 : decode b_Model_faultOf 25 = .ok (.if_icmp .ge 61, 3) := by decide +kernel
theorem d_Model_faultOf_28 : decode b_Model_faultOf 28 = .ok (.aload_n 0, 1) := by decide +kernel
theorem d_Model_faultOf_29 : decode b_Model_faultOf 29 = .ok (.iload_n 1, 1) := by decide +kernel
theorem d_Model_faultOf_30 : decode b_Model_faultOf 30 = .ok (.aload_n 0, 1) := by decide +kernel
theorem d_Model_faultOf_31 : decode b_Model_faultOf 31 = .ok (.getfield 143, 3) := by decide +kernel
theorem d_Model_faultOf_34 : decode b_Model_faultOf 34 = .ok (.invokevirtual 146, 3) := by decide +kernel
theorem d_Model_faultOf_37 : decode b_Model_faultOf 37 = .ok (.bipush 32, 2) := by decide +kernel
theorem d_Model_faultOf_39 : decode b_Model_faultOf 39 = .ok (.if_icmp .ne 16, 3) := by decide +kernel
theorem d_Model_faultOf_42 : decode b_Model_faultOf 42 = .ok (.aload_n 0, 1) := by decide +kernel
theorem d_Model_faultOf_43 : decode b_Model_faultOf 43 = .ok (.dup, 1) := by decide +kernel
theorem d_Model_faultOf_44 : decode b_Model_faultOf 44 = .ok (.getfield 143, 3) := by decide +kernel
theorem d_Model_faultOf_47 : decode b_Model_faultOf 47 = .ok (.iconst 1, 1) := by decide +kernel
theorem d_Model_faultOf_48 : decode b_Model_faultOf 48 = .ok (.iadd, 1) := by decide +kernel
theorem d_Model_faultOf_49 : decode b_Model_faultOf 49 = .ok (.putfield 143, 3) := by decide +kernel
theorem d_Model_faultOf_52 : decode b_Model_faultOf 52 = .ok (.goto (-37), 3) := by decide +kernel
theorem d_Model_faultOf_55 : decode b_Model_faultOf 55 = .ok (.aload_n 0, 1) := by decide +kernel
theorem d_Model_faultOf_56 : decode b_Model_faultOf 56 = .ok (.getfield 155, 3) := by decide +kernel
theorem d_Model_faultOf_59 : decode b_Model_faultOf 59 = .ok (.ifCond .ne 14, 3) := by decide +kernel
theorem d_Model_faultOf_62 : decode b_Model_faultOf 62 = .ok (.aload_n 0, 1) := by decide +kernel
theorem d_Model_faultOf_63 : decode b_Model_faultOf 63 = .ok (.iload_n 1, 1) := by decide +kernel
theorem d_Model_faultOf_64 : decode b_Model_faultOf 64 = .ok (.invokevirtual 167, 3) := by decide +kernel
theorem d_Model_faultOf_67 : decode b_Model_faultOf 67 = .ok (.ifCond .eq 14, 3) := by decide +kernel
theorem d_Model_faultOf_70 : decode b_Model_faultOf 70 = .ok (.goto (-55), 3) := by decide +kernel
theorem d_Model_faultOf_73 : decode b_Model_faultOf 73 = .ok (.aload_n 0, 1) := by decide +kernel
theorem d_Model_faultOf_74 : decode b_Model_faultOf 74 = .ok (.iload_n 1, 1) := by decide +kernel
theorem d_Model_faultOf_75 : decode b_Model_faultOf 75 = .ok (.invokevirtual 170, 3) := by decide +kernel
theorem d_Model_faultOf_78 : decode b_Model_faultOf 78 = .ok (.ifCond .ne (-63), 3) := by decide +kernel
theorem d_Model_faultOf_81 : decode b_Model_faultOf 81 = .ok (.aload_n 0, 1) := by decide +kernel
theorem d_Model_faultOf_82 : decode b_Model_faultOf 82 = .ok (.getfield 143, 3) := by decide +kernel
theorem d_Model_faultOf_85 : decode b_Model_faultOf 85 = .ok (.ireturn, 1) := by decide +kernel
theorem d_Model_faultOf_86 : decode b_Model_faultOf 86 = .ok (.aload_n 0, 1) := by decide +kernel
theorem d_Model_faultOf_87 : decode b_Model_faultOf 87 = .ok (.getfield 155, 3) := by decide +kernel
theorem d_Model_faultOf_90 : decode b_Model_faultOf 90 = .ok (.ifCond .ne 12, 3) := by decide +kernel
theorem d_Model_faultOf_93 : decode b_Model_faultOf 93 = .ok (.aload_n 0, 1) := by decide +kernel
theorem d_Model_faultOf_94 : decode b_Model_faultOf 94 = .ok (.getfield 22, 3) := by decide +kernel
theorem d_Model_faultOf_97 : decode b_Model_faultOf 97 = .ok (.iload_n 1, 1) := by decide +kernel
theorem d_Model_faultOf_98 : decode b_Model_faultOf 98 = .ok (.iaload, 1) := by decide +kernel
theorem d_Model_faultOf_99 : decode b_Model_faultOf 99 = .ok (.goto 5, 3) := by decide +kernel
theorem d_Model_faultOf_102 : decode b_Model_faultOf 102 = .ok (.bipush (-9), 2) := by decide +kernel
theorem d_Model_faultOf_104 : decode b_Model_faultOf 104 = .ok (.ireturn, 1) := by decide +kernel
abbrev b_Model_fault : ByteArray := prog_11_method_29_code
abbrev y_Model_fault : MethodName := ⟨"RiverTuesdaysModel", "fault", "(I)I"⟩
theorem ok_Model_fault : okV y_Model_fault b_Model_fault 2 (some .int) 1 9 := ⟨mGW (List.mem_of_getElem? (i := 1283) (by decide +kernel)) rfl, mGW (List.mem_of_getElem? (i := 1284) (by decide +kernel)) rfl, mGW (List.mem_of_getElem? (i := 83) (by decide +kernel)) rfl, mGW (List.mem_of_getElem? (i := 1285) (by decide +kernel)) rfl, ⟨by decide, by decide, by decide +kernel⟩, rfl⟩
theorem d_Model_fault_0 : decode b_Model_fault 0 = .ok (.iload_n 1, 1) := by decide +kernel
theorem d_Model_fault_1 : decode b_Model_fault 1 = .ok (.invokestatic 140, 3) := by decide +kernel
theorem d_Model_fault_4 : decode b_Model_fault 4 = .ok (.ifCond .ne 5, 3) := by decide +kernel
theorem d_Model_fault_7 : decode b_Model_fault 7 = .ok (.iconst (-1), 1) := by decide +kernel
theorem d_Model_fault_8 : decode b_Model_fault 8 = .ok (.ireturn, 1) := by decide +kernel
theorem d_Model_fault_9 : decode b_Model_fault 9 = .ok (.aload_n 0, 1) := by decide +kernel
theorem d_Model_fault_10 : decode b_Model_fault 10 = .ok (.getfield 22, 3) := by decide +kernel
theorem d_Model_fault_13 : decode b_Model_fault 13 = .ok (.iload_n 1, 1) := by decide +kernel
theorem d_Model_fault_14 : decode b_Model_fault 14 = .ok (.iaload, 1) := by decide +kernel
theorem d_Model_fault_15 : decode b_Model_fault 15 = .ok (.ifCond .ge 11, 3) := by decide +kernel
theorem d_Model_fault_18 : decode b_Model_fault 18 = .ok (.aload_n 0, 1) := by decide +kernel
theorem d_Model_fault_19 : decode b_Model_fault 19 = .ok (.iconst 1, 1) := by decide +kernel
theorem d_Model_fault_20 : decode b_Model_fault 20 = .ok (.invokevirtual 129, 3) := by decide +kernel
theorem d_Model_fault_23 : decode b_Model_fault 23 = .ok (.goto 8, 3) := by decide +kernel
theorem d_Model_fault_26 : decode b_Model_fault 26 = .ok (.aload_n 0, 1) := by decide +kernel
theorem d_Model_fault_27 : decode b_Model_fault 27 = .ok (.iload_n 1, 1) := by decide +kernel
theorem d_Model_fault_28 : decode b_Model_fault 28 = .ok (.invokevirtual 173, 3) := by decide +kernel
theorem d_Model_fault_31 : decode b_Model_fault 31 = .ok (.ireturn, 1) := by decide +kernel
abbrev b_Model_place : ByteArray := prog_11_method_33_code
abbrev y_Model_place : MethodName := ⟨"RiverTuesdaysModel", "place", "(III)V"⟩
theorem ok_Model_place : okV y_Model_place b_Model_place 4 none 3 9 := ⟨mGW (List.mem_of_getElem? (i := 1315) (by decide +kernel)) rfl, mGW (List.mem_of_getElem? (i := 42) (by decide +kernel)) rfl, mGW (List.mem_of_getElem? (i := 83) (by decide +kernel)) rfl, mGW (List.mem_of_getElem? (i := 1316) (by decide +kernel)) rfl, ⟨by decide, by decide, by decide +kernel⟩, rfl⟩
theorem d_Model_place_0 : decode b_Model_place 0 = .ok (.aload_n 0, 1) := by decide +kernel
theorem d_Model_place_1 : decode b_Model_place 1 = .ok (.getfield 47, 3) := by decide +kernel
theorem d_Model_place_4 : decode b_Model_place 4 = .ok (.bipush 26, 2) := by decide +kernel
theorem d_Model_place_6 : decode b_Model_place 6 = .ok (.iload_n 1, 1) := by decide +kernel
theorem d_Model_place_7 : decode b_Model_place 7 = .ok (.imul, 1) := by decide +kernel
theorem d_Model_place_8 : decode b_Model_place 8 = .ok (.iload_n 2, 1) := by decide +kernel
theorem d_Model_place_9 : decode b_Model_place 9 = .ok (.iadd, 1) := by decide +kernel
theorem d_Model_place_10 : decode b_Model_place 10 = .ok (.iload_n 3, 1) := by decide +kernel
theorem d_Model_place_11 : decode b_Model_place 11 = .ok (.iastore, 1) := by decide +kernel
theorem d_Model_place_12 : decode b_Model_place 12 = .ok (.return_, 1) := by decide +kernel
abbrev b_Model_street : ByteArray := prog_11_method_30_code
abbrev y_Model_street : MethodName := ⟨"RiverTuesdaysModel", "street", "(I)I"⟩
theorem ok_Model_street : okV y_Model_street b_Model_street 3 (some .int) 1 9 := ⟨mGW (List.mem_of_getElem? (i := 1310) (by decide +kernel)) rfl, mGW (List.mem_of_getElem? (i := 1311) (by decide +kernel)) rfl, mGW (List.mem_of_getElem? (i := 83) (by decide +kernel)) rfl, mGW (List.mem_of_getElem? (i := 1312) (by decide +kernel)) rfl, ⟨by decide, by decide, by decide +kernel⟩, rfl⟩
theorem d_Model_street_0 : decode b_Model_street 0 = .ok (.iload_n 1, 1) := by decide +kernel
theorem d_Model_street_1 : decode b_Model_street 1 = .ok (.invokestatic 140, 3) := by decide +kernel
theorem d_Model_street_4 : decode b_Model_street 4 = .ok (.ifCond .ne 5, 3) := by decide +kernel
theorem d_Model_street_7 : decode b_Model_street 7 = .ok (.iconst (-1), 1) := by decide +kernel
theorem d_Model_street_8 : decode b_Model_street 8 = .ok (.ireturn, 1) := by decide +kernel
theorem d_Model_street_9 : decode b_Model_street 9 = .ok (.aload_n 0, 1) := by decide +kernel
theorem d_Model_street_10 : decode b_Model_street 10 = .ok (.getfield 22, 3) := by decide +kernel
theorem d_Model_street_13 : decode b_Model_street 13 = .ok (.iload_n 1, 1) := by decide +kernel
theorem d_Model_street_14 : decode b_Model_street 14 = .ok (.iaload, 1) := by decide +kernel
theorem d_Model_street_15 : decode b_Model_street 15 = .ok (.ifCond .ge 9, 3) := by decide +kernel
theorem d_Model_street_18 : decode b_Model_street 18 = .ok (.aload_n 0, 1) := by decide +kernel
theorem d_Model_street_19 : decode b_Model_street 19 = .ok (.iconst 1, 1) := by decide +kernel
theorem d_Model_street_20 : decode b_Model_street 20 = .ok (.invokevirtual 129, 3) := by decide +kernel
theorem d_Model_street_23 : decode b_Model_street 23 = .ok (.ireturn, 1) := by decide +kernel
theorem d_Model_street_24 : decode b_Model_street 24 = .ok (.aload_n 0, 1) := by decide +kernel
theorem d_Model_street_25 : decode b_Model_street 25 = .ok (.iload_n 1, 1) := by decide +kernel
theorem d_Model_street_26 : decode b_Model_street 26 = .ok (.invokevirtual 173, 3) := by decide +kernel
theorem d_Model_street_29 : decode b_Model_street 29 = .ok (.bipush (-9), 2) := by decide +kernel
theorem d_Model_street_31 : decode b_Model_street 31 = .ok (.if_icmp .eq 6, 3) := by decide +kernel
theorem d_Model_street_34 : decode b_Model_street 34 = .ok (.bipush (-4), 2) := by decide +kernel
theorem d_Model_street_36 : decode b_Model_street 36 = .ok (.ireturn, 1) := by decide +kernel
theorem d_Model_street_37 : decode b_Model_street 37 = .ok (.aload_n 0, 1) := by decide +kernel
theorem d_Model_street_38 : decode b_Model_street 38 = .ok (.aload_n 0, 1) := by decide +kernel
theorem d_Model_street_39 : decode b_Model_street 39 = .ok (.getfield 164, 3) := by decide +kernel
theorem d_Model_street_42 : decode b_Model_street 42 = .ok (.putfield 176, 3) := by decide +kernel
theorem d_Model_street_45 : decode b_Model_street 45 = .ok (.aload_n 0, 1) := by decide +kernel
theorem d_Model_street_46 : decode b_Model_street 46 = .ok (.aload_n 0, 1) := by decide +kernel
theorem d_Model_street_47 : decode b_Model_street 47 = .ok (.getfield 176, 3) := by decide +kernel
theorem d_Model_street_50 : decode b_Model_street 50 = .ok (.ifCond .ne 7, 3) := by decide +kernel
theorem d_Model_street_53 : decode b_Model_street 53 = .ok (.iconst 0, 1) := by decide +kernel
theorem d_Model_street_54 : decode b_Model_street 54 = .ok (.goto 7, 3) := by decide +kernel
theorem d_Model_street_57 : decode b_Model_street 57 = .ok (.aload_n 0, 1) := by decide +kernel
theorem d_Model_street_58 : decode b_Model_street 58 = .ok (.getfield 155, 3) := by decide +kernel
theorem d_Model_street_61 : decode b_Model_street 61 = .ok (.putfield 179, 3) := by decide +kernel
theorem d_Model_street_64 : decode b_Model_street 64 = .ok (.aload_n 0, 1) := by decide +kernel
theorem d_Model_street_65 : decode b_Model_street 65 = .ok (.aload_n 0, 1) := by decide +kernel
theorem d_Model_street_66 : decode b_Model_street 66 = .ok (.getfield 176, 3) := by decide +kernel
theorem d_Model_street_69 : decode b_Model_street 69 = .ok (.ifCond .ne 7, 3) := by decide +kernel
theorem d_Model_street_72 : decode b_Model_street 72 = .ok (.iconst 0, 1) := by decide +kernel
theorem d_Model_street_73 : decode b_Model_street 73 = .ok (.goto 7, 3) := by decide +kernel
theorem d_Model_street_76 : decode b_Model_street 76 = .ok (.aload_n 0, 1) := by decide +kernel
theorem d_Model_street_77 : decode b_Model_street 77 = .ok (.getfield 158, 3) := by decide +kernel
theorem d_Model_street_80 : decode b_Model_street 80 = .ok (.putfield 182, 3) := by decide +kernel
theorem d_Model_street_83 : decode b_Model_street 83 = .ok (.iconst 0, 1) := by decide +kernel
theorem d_Model_street_84 : decode b_Model_street 84 = .ok (.istore_n 2, 1) := by decide +kernel
theorem d_Model_street_85 : decode b_Model_street 85 = .ok (.iload_n 2, 1) := by decide +kernel
theorem d_Model_street_86 : decode b_Model_street 86 = .ok (.aload_n 0, 1) := by decide +kernel
theorem d_Model_street_87 : decode b_Model_street 87 = .ok (.getfield 176, 3) := by decide +kernel
theorem d_Model_street_90 : decode b_Model_street 90 = .ok (.if_icmp .ge 78, 3) := by decide +kernel
theorem d_Model_street_93 : decode b_Model_street 93 = .ok (.aload_n 0, 1) := by decide +kernel
theorem d_Model_street_94 : decode b_Model_street 94 = .ok (.getfield 29, 3) := by decide +kernel
theorem d_Model_street_97 : decode b_Model_street 97 = .ok (.iload_n 2, 1) := by decide +kernel
theorem d_Model_street_98 : decode b_Model_street 98 = .ok (.aload_n 0, 1) := by decide +kernel
theorem d_Model_street_99 : decode b_Model_street 99 = .ok (.getfield 44, 3) := by decide +kernel
theorem d_Model_street_102 : decode b_Model_street 102 = .ok (.iconst 4, 1) := by decide +kernel
theorem d_Model_street_103 : decode b_Model_street 103 = .ok (.iload_n 2, 1) := by decide +kernel
theorem d_Model_street_104 : decode b_Model_street 104 = .ok (.imul, 1) := by decide +kernel
theorem d_Model_street_105 : decode b_Model_street 105 = .ok (.iaload, 1) := by decide +kernel
theorem d_Model_street_106 : decode b_Model_street 106 = .ok (.iastore, 1) := by decide +kernel
theorem d_Model_street_107 : decode b_Model_street 107 = .ok (.aload_n 0, 1) := by decide +kernel
theorem d_Model_street_108 : decode b_Model_street 108 = .ok (.getfield 32, 3) := by decide +kernel
theorem d_Model_street_111 : decode b_Model_street 111 = .ok (.iload_n 2, 1) := by decide +kernel
theorem d_Model_street_112 : decode b_Model_street 112 = .ok (.aload_n 0, 1) := by decide +kernel
theorem d_Model_street_113 : decode b_Model_street 113 = .ok (.getfield 44, 3) := by decide +kernel
theorem d_Model_street_116 : decode b_Model_street 116 = .ok (.iconst 4, 1) := by decide +kernel
theorem d_Model_street_117 : decode b_Model_street 117 = .ok (.iload_n 2, 1) := by decide +kernel
theorem d_Model_street_118 : decode b_Model_street 118 = .ok (.imul, 1) := by decide +kernel
theorem d_Model_street_119 : decode b_Model_street 119 = .ok (.iconst 1, 1) := by decide +kernel
theorem d_Model_street_120 : decode b_Model_street 120 = .ok (.iadd, 1) := by decide +kernel
theorem d_Model_street_121 : decode b_Model_street 121 = .ok (.iaload, 1) := by decide +kernel
theorem d_Model_street_122 : decode b_Model_street 122 = .ok (.iastore, 1) := by decide +kernel
theorem d_Model_street_123 : decode b_Model_street 123 = .ok (.aload_n 0, 1) := by decide +kernel
theorem d_Model_street_124 : decode b_Model_street 124 = .ok (.getfield 35, 3) := by decide +kernel
theorem d_Model_street_127 : decode b_Model_street 127 = .ok (.iload_n 2, 1) := by decide +kernel
theorem d_Model_street_128 : decode b_Model_street 128 = .ok (.aload_n 0, 1) := by decide +kernel
theorem d_Model_street_129 : decode b_Model_street 129 = .ok (.getfield 44, 3) := by decide +kernel
theorem d_Model_street_132 : decode b_Model_street 132 = .ok (.iconst 4, 1) := by decide +kernel
theorem d_Model_street_133 : decode b_Model_street 133 = .ok (.iload_n 2, 1) := by decide +kernel
theorem d_Model_street_134 : decode b_Model_street 134 = .ok (.imul, 1) := by decide +kernel
theorem d_Model_street_135 : decode b_Model_street 135 = .ok (.iconst 2, 1) := by decide +kernel
theorem d_Model_street_136 : decode b_Model_street 136 = .ok (.iadd, 1) := by decide +kernel
theorem d_Model_street_137 : decode b_Model_street 137 = .ok (.iaload, 1) := by decide +kernel
theorem d_Model_street_138 : decode b_Model_street 138 = .ok (.iastore, 1) := by decide +kernel
theorem d_Model_street_139 : decode b_Model_street 139 = .ok (.aload_n 0, 1) := by decide +kernel
theorem d_Model_street_140 : decode b_Model_street 140 = .ok (.getfield 38, 3) := by decide +kernel
theorem d_Model_street_143 : decode b_Model_street 143 = .ok (.iload_n 2, 1) := by decide +kernel
theorem d_Model_street_144 : decode b_Model_street 144 = .ok (.aload_n 0, 1) := by decide +kernel
theorem d_Model_street_145 : decode b_Model_street 145 = .ok (.getfield 44, 3) := by decide +kernel
theorem d_Model_street_148 : decode b_Model_street 148 = .ok (.iconst 4, 1) := by decide +kernel
theorem d_Model_street_149 : decode b_Model_street 149 = .ok (.iload_n 2, 1) := by decide +kernel
theorem d_Model_street_150 : decode b_Model_street 150 = .ok (.imul, 1) := by decide +kernel
theorem d_Model_street_151 : decode b_Model_street 151 = .ok (.iconst 3, 1) := by decide +kernel
theorem d_Model_street_152 : decode b_Model_street 152 = .ok (.iadd, 1) := by decide +kernel
theorem d_Model_street_153 : decode b_Model_street 153 = .ok (.iaload, 1) := by decide +kernel
theorem d_Model_street_154 : decode b_Model_street 154 = .ok (.iastore, 1) := by decide +kernel
theorem d_Model_street_155 : decode b_Model_street 155 = .ok (.aload_n 0, 1) := by decide +kernel
theorem d_Model_street_156 : decode b_Model_street 156 = .ok (.getfield 41, 3) := by decide +kernel
theorem d_Model_street_159 : decode b_Model_street 159 = .ok (.iload_n 2, 1) := by decide +kernel
theorem d_Model_street_160 : decode b_Model_street 160 = .ok (.iconst 0, 1) := by decide +kernel
theorem d_Model_street_161 : decode b_Model_street 161 = .ok (.iastore, 1) := by decide +kernel
theorem d_Model_street_162 : decode b_Model_street 162 = .ok (.iinc 2 1, 3) := by decide +kernel
theorem d_Model_street_165 : decode b_Model_street 165 = .ok (.goto (-80), 3) := by decide +kernel
theorem d_Model_street_168 : decode b_Model_street 168 = .ok (.iconst 0, 1) := by decide +kernel
theorem d_Model_street_169 : decode b_Model_street 169 = .ok (.istore_n 2, 1) := by decide +kernel
theorem d_Model_street_170 : decode b_Model_street 170 = .ok (.iload_n 2, 1) := by decide +kernel
theorem d_Model_street_171 : decode b_Model_street 171 = .ok (.bipush 26, 2) := by decide +kernel
theorem d_Model_street_173 : decode b_Model_street 173 = .ok (.if_icmp .ge 16, 3) := by decide +kernel
theorem d_Model_street_176 : decode b_Model_street 176 = .ok (.aload_n 0, 1) := by decide +kernel
theorem d_Model_street_177 : decode b_Model_street 177 = .ok (.iconst 0, 1) := by decide +kernel
theorem d_Model_street_178 : decode b_Model_street 178 = .ok (.iload_n 2, 1) := by decide +kernel
theorem d_Model_street_179 : decode b_Model_street 179 = .ok (.iconst 0, 1) := by decide +kernel
theorem d_Model_street_180 : decode b_Model_street 180 = .ok (.invokevirtual 185, 3) := by decide +kernel
theorem d_Model_street_183 : decode b_Model_street 183 = .ok (.iinc 2 1, 3) := by decide +kernel
theorem d_Model_street_186 : decode b_Model_street 186 = .ok (.goto (-16), 3) := by decide +kernel
theorem d_Model_street_189 : decode b_Model_street 189 = .ok (.aload_n 0, 1) := by decide +kernel
theorem d_Model_street_190 : decode b_Model_street 190 = .ok (.iconst 0, 1) := by decide +kernel
theorem d_Model_street_191 : decode b_Model_street 191 = .ok (.putfield 189, 3) := by decide +kernel
theorem d_Model_street_194 : decode b_Model_street 194 = .ok (.iconst 0, 1) := by decide +kernel
theorem d_Model_street_195 : decode b_Model_street 195 = .ok (.istore_n 2, 1) := by decide +kernel
theorem d_Model_street_196 : decode b_Model_street 196 = .ok (.iload_n 2, 1) := by decide +kernel
theorem d_Model_street_197 : decode b_Model_street 197 = .ok (.iconst 3, 1) := by decide +kernel
theorem d_Model_street_198 : decode b_Model_street 198 = .ok (.if_icmp .ge 16, 3) := by decide +kernel
theorem d_Model_street_201 : decode b_Model_street 201 = .ok (.aload_n 0, 1) := by decide +kernel
theorem d_Model_street_202 : decode b_Model_street 202 = .ok (.getfield 59, 3) := by decide +kernel
theorem d_Model_street_205 : decode b_Model_street 205 = .ok (.iload_n 2, 1) := by decide +kernel
theorem d_Model_street_206 : decode b_Model_street 206 = .ok (.iconst (-1), 1) := by decide +kernel
theorem d_Model_street_207 : decode b_Model_street 207 = .ok (.iastore, 1) := by decide +kernel
theorem d_Model_street_208 : decode b_Model_street 208 = .ok (.iinc 2 1, 3) := by decide +kernel
theorem d_Model_street_211 : decode b_Model_street 211 = .ok (.goto (-15), 3) := by decide +kernel
theorem d_Model_street_214 : decode b_Model_street 214 = .ok (.aload_n 0, 1) := by decide +kernel
theorem d_Model_street_215 : decode b_Model_street 215 = .ok (.getfield 176, 3) := by decide +kernel
theorem d_Model_street_218 : decode b_Model_street 218 = .ok (.ireturn, 1) := by decide +kernel
abbrev b_Model_isHouse : ByteArray := prog_11_method_31_code
abbrev y_Model_isHouse : MethodName := ⟨"RiverTuesdaysModel", "isHouse", "(I)Z"⟩
theorem ok_Model_isHouse : okV y_Model_isHouse b_Model_isHouse 2 (some .boolean) 1 9 := ⟨mGW (List.mem_of_getElem? (i := 1323) (by decide +kernel)) rfl, mGW (List.mem_of_getElem? (i := 43) (by decide +kernel)) rfl, mGW (List.mem_of_getElem? (i := 83) (by decide +kernel)) rfl, mGW (List.mem_of_getElem? (i := 1324) (by decide +kernel)) rfl, ⟨by decide, by decide, by decide +kernel⟩, rfl⟩
theorem d_Model_isHouse_0 : decode b_Model_isHouse 0 = .ok (.iload_n 1, 1) := by decide +kernel
theorem d_Model_isHouse_1 : decode b_Model_isHouse 1 = .ok (.iconst 0, 1) := by decide +kernel
theorem d_Model_isHouse_2 : decode b_Model_isHouse 2 = .ok (.aload_n 0, 1) := by decide +kernel
theorem d_Model_isHouse_3 : decode b_Model_isHouse 3 = .ok (.getfield 176, 3) := by decide +kernel
theorem d_Model_isHouse_6 : decode b_Model_isHouse 6 = .ok (.iconst 1, 1) := by decide +kernel
theorem d_Model_isHouse_7 : decode b_Model_isHouse 7 = .ok (.isub, 1) := by decide +kernel
theorem d_Model_isHouse_8 : decode b_Model_isHouse 8 = .ok (.invokestatic 118, 3) := by decide +kernel
theorem d_Model_isHouse_11 : decode b_Model_isHouse 11 = .ok (.ireturn, 1) := by decide +kernel
abbrev b_Model_v : ByteArray := prog_11_method_32_code
abbrev y_Model_v : MethodName := ⟨"RiverTuesdaysModel", "v", "(II)I"⟩
theorem ok_Model_v : okV y_Model_v b_Model_v 3 (some .int) 2 9 := ⟨mGW (List.mem_of_getElem? (i := 1331) (by decide +kernel)) rfl, mGW (List.mem_of_getElem? (i := 45) (by decide +kernel)) rfl, mGW (List.mem_of_getElem? (i := 83) (by decide +kernel)) rfl, mGW (List.mem_of_getElem? (i := 1332) (by decide +kernel)) rfl, ⟨by decide, by decide, by decide +kernel⟩, rfl⟩
theorem d_Model_v_0 : decode b_Model_v 0 = .ok (.aload_n 0, 1) := by decide +kernel
theorem d_Model_v_1 : decode b_Model_v 1 = .ok (.getfield 47, 3) := by decide +kernel
theorem d_Model_v_4 : decode b_Model_v 4 = .ok (.bipush 26, 2) := by decide +kernel
theorem d_Model_v_6 : decode b_Model_v 6 = .ok (.iload_n 1, 1) := by decide +kernel
theorem d_Model_v_7 : decode b_Model_v 7 = .ok (.imul, 1) := by decide +kernel
theorem d_Model_v_8 : decode b_Model_v 8 = .ok (.iload_n 2, 1) := by decide +kernel
theorem d_Model_v_9 : decode b_Model_v 9 = .ok (.iadd, 1) := by decide +kernel
theorem d_Model_v_10 : decode b_Model_v 10 = .ok (.iaload, 1) := by decide +kernel
theorem d_Model_v_11 : decode b_Model_v 11 = .ok (.ireturn, 1) := by decide +kernel
abbrev b_Model_add : ByteArray := prog_11_method_34_code
abbrev y_Model_add : MethodName := ⟨"RiverTuesdaysModel", "add", "(III)V"⟩
theorem ok_Model_add : okV y_Model_add b_Model_add 4 none 3 9 := ⟨mGW (List.mem_of_getElem? (i := 1351) (by decide +kernel)) rfl, mGW (List.mem_of_getElem? (i := 49) (by decide +kernel)) rfl, mGW (List.mem_of_getElem? (i := 83) (by decide +kernel)) rfl, mGW (List.mem_of_getElem? (i := 1352) (by decide +kernel)) rfl, ⟨by decide, by decide, by decide +kernel⟩, rfl⟩
theorem d_Model_add_0 : decode b_Model_add 0 = .ok (.aload_n 0, 1) := by decide +kernel
theorem d_Model_add_1 : decode b_Model_add 1 = .ok (.getfield 47, 3) := by decide +kernel
theorem d_Model_add_4 : decode b_Model_add 4 = .ok (.bipush 26, 2) := by decide +kernel
theorem d_Model_add_6 : decode b_Model_add 6 = .ok (.iload_n 1, 1) := by decide +kernel
theorem d_Model_add_7 : decode b_Model_add 7 = .ok (.imul, 1) := by decide +kernel
theorem d_Model_add_8 : decode b_Model_add 8 = .ok (.iload_n 2, 1) := by decide +kernel
theorem d_Model_add_9 : decode b_Model_add 9 = .ok (.iadd, 1) := by decide +kernel
theorem d_Model_add_10 : decode b_Model_add 10 = .ok (.dup2, 1) := by decide +kernel
theorem d_Model_add_11 : decode b_Model_add 11 = .ok (.iaload, 1) := by decide +kernel
theorem d_Model_add_12 : decode b_Model_add 12 = .ok (.iload_n 3, 1) := by decide +kernel
theorem d_Model_add_13 : decode b_Model_add 13 = .ok (.iadd, 1) := by decide +kernel
theorem d_Model_add_14 : decode b_Model_add 14 = .ok (.iastore, 1) := by decide +kernel
theorem d_Model_add_15 : decode b_Model_add 15 = .ok (.return_, 1) := by decide +kernel
abbrev b_Model_higher : ByteArray := prog_11_method_35_code
abbrev y_Model_higher : MethodName := ⟨"RiverTuesdaysModel", "higher", "(II)I"⟩
theorem ok_Model_higher : okV y_Model_higher b_Model_higher 4 (some .int) 2 9 := ⟨mGW (List.mem_of_getElem? (i := 1359) (by decide +kernel)) rfl, mGW (List.mem_of_getElem? (i := 51) (by decide +kernel)) rfl, mGW (List.mem_of_getElem? (i := 83) (by decide +kernel)) rfl, mGW (List.mem_of_getElem? (i := 1360) (by decide +kernel)) rfl, ⟨by decide, by decide, by decide +kernel⟩, rfl⟩
theorem d_Model_higher_0 : decode b_Model_higher 0 = .ok (.iload_n 2, 1) := by decide +kernel
theorem d_Model_higher_1 : decode b_Model_higher 1 = .ok (.aload_n 0, 1) := by decide +kernel
theorem d_Model_higher_2 : decode b_Model_higher 2 = .ok (.getfield 176, 3) := by decide +kernel
theorem d_Model_higher_5 : decode b_Model_higher 5 = .ok (.iconst 1, 1) := by decide +kernel
theorem d_Model_higher_6 : decode b_Model_higher 6 = .ok (.isub, 1) := by decide +kernel
theorem d_Model_higher_7 : decode b_Model_higher 7 = .ok (.if_icmp .ne 10, 3) := by decide +kernel
theorem d_Model_higher_10 : decode b_Model_higher 10 = .ok (.aload_n 0, 1) := by decide +kernel
theorem d_Model_higher_11 : decode b_Model_higher 11 = .ok (.getfield 182, 3) := by decide +kernel
theorem d_Model_higher_14 : decode b_Model_higher 14 = .ok (.goto 22, 3) := by decide +kernel
theorem d_Model_higher_17 : decode b_Model_higher 17 = .ok (.aload_n 0, 1) := by decide +kernel
theorem d_Model_higher_18 : decode b_Model_higher 18 = .ok (.getfield 32, 3) := by decide +kernel
theorem d_Model_higher_21 : decode b_Model_higher 21 = .ok (.iload_n 2, 1) := by decide +kernel
theorem d_Model_higher_22 : decode b_Model_higher 22 = .ok (.iconst 1, 1) := by decide +kernel
theorem d_Model_higher_23 : decode b_Model_higher 23 = .ok (.iadd, 1) := by decide +kernel
theorem d_Model_higher_24 : decode b_Model_higher 24 = .ok (.iaload, 1) := by decide +kernel
theorem d_Model_higher_25 : decode b_Model_higher 25 = .ok (.aload_n 0, 1) := by decide +kernel
theorem d_Model_higher_26 : decode b_Model_higher 26 = .ok (.iload_n 1, 1) := by decide +kernel
theorem d_Model_higher_27 : decode b_Model_higher 27 = .ok (.iconst 0, 1) := by decide +kernel
theorem d_Model_higher_28 : decode b_Model_higher 28 = .ok (.iload_n 2, 1) := by decide +kernel
theorem d_Model_higher_29 : decode b_Model_higher 29 = .ok (.iadd, 1) := by decide +kernel
theorem d_Model_higher_30 : decode b_Model_higher 30 = .ok (.iconst 1, 1) := by decide +kernel
theorem d_Model_higher_31 : decode b_Model_higher 31 = .ok (.iadd, 1) := by decide +kernel
theorem d_Model_higher_32 : decode b_Model_higher 32 = .ok (.invokevirtual 192, 3) := by decide +kernel
theorem d_Model_higher_35 : decode b_Model_higher 35 = .ok (.iadd, 1) := by decide +kernel
theorem d_Model_higher_36 : decode b_Model_higher 36 = .ok (.istore_n 3, 1) := by decide +kernel
theorem d_Model_higher_37 : decode b_Model_higher 37 = .ok (.aload_n 0, 1) := by decide +kernel
theorem d_Model_higher_38 : decode b_Model_higher 38 = .ok (.getfield 32, 3) := by decide +kernel
theorem d_Model_higher_41 : decode b_Model_higher 41 = .ok (.iload_n 2, 1) := by decide +kernel
theorem d_Model_higher_42 : decode b_Model_higher 42 = .ok (.iaload, 1) := by decide +kernel
theorem d_Model_higher_43 : decode b_Model_higher 43 = .ok (.aload_n 0, 1) := by decide +kernel
theorem d_Model_higher_44 : decode b_Model_higher 44 = .ok (.iload_n 1, 1) := by decide +kernel
theorem d_Model_higher_45 : decode b_Model_higher 45 = .ok (.iconst 0, 1) := by decide +kernel
theorem d_Model_higher_46 : decode b_Model_higher 46 = .ok (.iload_n 2, 1) := by decide +kernel
theorem d_Model_higher_47 : decode b_Model_higher 47 = .ok (.iadd, 1) := by decide +kernel
theorem d_Model_higher_48 : decode b_Model_higher 48 = .ok (.invokevirtual 192, 3) := by decide +kernel
theorem d_Model_higher_51 : decode b_Model_higher 51 = .ok (.iadd, 1) := by decide +kernel
theorem d_Model_higher_52 : decode b_Model_higher 52 = .ok (.iload_n 3, 1) := by decide +kernel
theorem d_Model_higher_53 : decode b_Model_higher 53 = .ok (.isub, 1) := by decide +kernel
theorem d_Model_higher_54 : decode b_Model_higher 54 = .ok (.ireturn, 1) := by decide +kernel
abbrev b_Model_runOf : ByteArray := prog_11_method_36_code
abbrev y_Model_runOf : MethodName := ⟨"RiverTuesdaysModel", "runOf", "(II)I"⟩
theorem ok_Model_runOf : okV y_Model_runOf b_Model_runOf 6 (some .int) 2 9 := ⟨mGW (List.mem_of_getElem? (i := 1355) (by decide +kernel)) rfl, mGW (List.mem_of_getElem? (i := 50) (by decide +kernel)) rfl, mGW (List.mem_of_getElem? (i := 83) (by decide +kernel)) rfl, mGW (List.mem_of_getElem? (i := 1356) (by decide +kernel)) rfl, ⟨by decide, by decide, by decide +kernel⟩, rfl⟩
theorem d_Model_runOf_0 : decode b_Model_runOf 0 = .ok (.aload_n 0, 1) := by decide +kernel
theorem d_Model_runOf_1 : decode b_Model_runOf 1 = .ok (.iload_n 1, 1) := by decide +kernel
theorem d_Model_runOf_2 : decode b_Model_runOf 2 = .ok (.iload_n 2, 1) := by decide +kernel
theorem d_Model_runOf_3 : decode b_Model_runOf 3 = .ok (.invokevirtual 195, 3) := by decide +kernel
theorem d_Model_runOf_6 : decode b_Model_runOf 6 = .ok (.istore_n 3, 1) := by decide +kernel
theorem d_Model_runOf_7 : decode b_Model_runOf 7 = .ok (.iload_n 3, 1) := by decide +kernel
theorem d_Model_runOf_8 : decode b_Model_runOf 8 = .ok (.ifCond .gt 7, 3) := by decide +kernel
theorem d_Model_runOf_11 : decode b_Model_runOf 11 = .ok (.iconst 0, 1) := by decide +kernel
theorem d_Model_runOf_12 : decode b_Model_runOf 12 = .ok (.goto 19, 3) := by decide +kernel
theorem d_Model_runOf_15 : decode b_Model_runOf 15 = .ok (.iload_n 3, 1) := by decide +kernel
theorem d_Model_runOf_16 : decode b_Model_runOf 16 = .ok (.iconst 1, 1) := by decide +kernel
theorem d_Model_runOf_17 : decode b_Model_runOf 17 = .ok (.iadd, 1) := by decide +kernel
theorem d_Model_runOf_18 : decode b_Model_runOf 18 = .ok (.iconst 2, 1) := by decide +kernel
theorem d_Model_runOf_19 : decode b_Model_runOf 19 = .ok (.idiv, 1) := by decide +kernel
theorem d_Model_runOf_20 : decode b_Model_runOf 20 = .ok (.aload_n 0, 1) := by decide +kernel
theorem d_Model_runOf_21 : decode b_Model_runOf 21 = .ok (.iload_n 1, 1) := by decide +kernel
theorem d_Model_runOf_22 : decode b_Model_runOf 22 = .ok (.iconst 0, 1) := by decide +kernel
theorem d_Model_runOf_23 : decode b_Model_runOf 23 = .ok (.iload_n 2, 1) := by decide +kernel
theorem d_Model_runOf_24 : decode b_Model_runOf 24 = .ok (.iadd, 1) := by decide +kernel
theorem d_Model_runOf_25 : decode b_Model_runOf 25 = .ok (.invokevirtual 192, 3) := by decide +kernel
theorem d_Model_runOf_28 : decode b_Model_runOf 28 = .ok (.invokestatic 198, 3) := by decide +kernel
theorem d_Model_runOf_31 : decode b_Model_runOf 31 = .ok (.istore 4, 2) := by decide +kernel
theorem d_Model_runOf_33 : decode b_Model_runOf 33 = .ok (.aload_n 0, 1) := by decide +kernel
theorem d_Model_runOf_34 : decode b_Model_runOf 34 = .ok (.getfield 29, 3) := by decide +kernel
theorem d_Model_runOf_37 : decode b_Model_runOf 37 = .ok (.iload_n 2, 1) := by decide +kernel
theorem d_Model_runOf_38 : decode b_Model_runOf 38 = .ok (.iaload, 1) := by decide +kernel
theorem d_Model_runOf_39 : decode b_Model_runOf 39 = .ok (.istore 5, 2) := by decide +kernel
theorem d_Model_runOf_41 : decode b_Model_runOf 41 = .ok (.aload_n 0, 1) := by decide +kernel
theorem d_Model_runOf_42 : decode b_Model_runOf 42 = .ok (.getfield 41, 3) := by decide +kernel
theorem d_Model_runOf_45 : decode b_Model_runOf 45 = .ok (.iload_n 2, 1) := by decide +kernel
theorem d_Model_runOf_46 : decode b_Model_runOf 46 = .ok (.iaload, 1) := by decide +kernel
theorem d_Model_runOf_47 : decode b_Model_runOf 47 = .ok (.iconst 1, 1) := by decide +kernel
theorem d_Model_runOf_48 : decode b_Model_runOf 48 = .ok (.if_icmp .ne 7, 3) := by decide +kernel
theorem d_Model_runOf_51 : decode b_Model_runOf 51 = .ok (.iconst 0, 1) := by decide +kernel
theorem d_Model_runOf_52 : decode b_Model_runOf 52 = .ok (.goto 26, 3) := by decide +kernel
theorem d_Model_runOf_55 : decode b_Model_runOf 55 = .ok (.iload 5, 2) := by decide +kernel
theorem d_Model_runOf_57 : decode b_Model_runOf 57 = .ok (.iconst 3, 1) := by decide +kernel
theorem d_Model_runOf_58 : decode b_Model_runOf 58 = .ok (.if_icmp .eq 9, 3) := by decide +kernel
theorem d_Model_runOf_61 : decode b_Model_runOf 61 = .ok (.iload 5, 2) := by decide +kernel
theorem d_Model_runOf_63 : decode b_Model_runOf 63 = .ok (.iconst 5, 1) := by decide +kernel
theorem d_Model_runOf_64 : decode b_Model_runOf 64 = .ok (.if_icmp .ne 12, 3) := by decide +kernel
theorem d_Model_runOf_67 : decode b_Model_runOf 67 = .ok (.iload 4, 2) := by decide +kernel
theorem d_Model_runOf_69 : decode b_Model_runOf 69 = .ok (.iconst 2, 1) := by decide +kernel
theorem d_Model_runOf_70 : decode b_Model_runOf 70 = .ok (.invokestatic 198, 3) := by decide +kernel
theorem d_Model_runOf_73 : decode b_Model_runOf 73 = .ok (.goto 5, 3) := by decide +kernel
theorem d_Model_runOf_76 : decode b_Model_runOf 76 = .ok (.iload 4, 2) := by decide +kernel
theorem d_Model_runOf_78 : decode b_Model_runOf 78 = .ok (.ireturn, 1) := by decide +kernel
abbrev b_Model_groundBy : ByteArray := prog_11_method_37_code
abbrev y_Model_groundBy : MethodName := ⟨"RiverTuesdaysModel", "groundBy", "(II)I"⟩
theorem ok_Model_groundBy : okS y_Model_groundBy b_Model_groundBy 2 (some .int) 2 := ⟨mGW (List.mem_of_getElem? (i := 1365) (by decide +kernel)) rfl, mGW (List.mem_of_getElem? (i := 83) (by decide +kernel)) rfl, mGW (List.mem_of_getElem? (i := 1366) (by decide +kernel)) rfl, ⟨by decide, by decide, by decide +kernel⟩⟩
theorem d_Model_groundBy_0 : decode b_Model_groundBy 0 = .ok (.iload_n 0, 1) := by decide +kernel
theorem d_Model_groundBy_1 : decode b_Model_groundBy 1 = .ok (.iconst 1, 1) := by decide +kernel
theorem d_Model_groundBy_2 : decode b_Model_groundBy 2 = .ok (.if_icmp .ne 12, 3) := by decide +kernel
theorem d_Model_groundBy_5 : decode b_Model_groundBy 5 = .ok (.iload_n 1, 1) := by decide +kernel
theorem d_Model_groundBy_6 : decode b_Model_groundBy 6 = .ok (.iconst 2, 1) := by decide +kernel
theorem d_Model_groundBy_7 : decode b_Model_groundBy 7 = .ok (.if_icmp .lt 7, 3) := by decide +kernel
theorem d_Model_groundBy_10 : decode b_Model_groundBy 10 = .ok (.iconst 1, 1) := by decide +kernel
theorem d_Model_groundBy_11 : decode b_Model_groundBy 11 = .ok (.goto 15, 3) := by decide +kernel
theorem d_Model_groundBy_14 : decode b_Model_groundBy 14 = .ok (.iload_n 0, 1) := by decide +kernel
theorem d_Model_groundBy_15 : decode b_Model_groundBy 15 = .ok (.iconst 4, 1) := by decide +kernel
theorem d_Model_groundBy_16 : decode b_Model_groundBy 16 = .ok (.if_icmp .ne 9, 3) := by decide +kernel
theorem d_Model_groundBy_19 : decode b_Model_groundBy 19 = .ok (.iload_n 1, 1) := by decide +kernel
theorem d_Model_groundBy_20 : decode b_Model_groundBy 20 = .ok (.iconst 2, 1) := by decide +kernel
theorem d_Model_groundBy_21 : decode b_Model_groundBy 21 = .ok (.idiv, 1) := by decide +kernel
theorem d_Model_groundBy_22 : decode b_Model_groundBy 22 = .ok (.goto 4, 3) := by decide +kernel
theorem d_Model_groundBy_25 : decode b_Model_groundBy 25 = .ok (.iconst 0, 1) := by decide +kernel
theorem d_Model_groundBy_26 : decode b_Model_groundBy 26 = .ok (.ireturn, 1) := by decide +kernel
abbrev b_Model_goes : ByteArray := prog_11_method_38_code
abbrev y_Model_goes : MethodName := ⟨"RiverTuesdaysModel", "goes", "(IZ)V"⟩
theorem ok_Model_goes : okV y_Model_goes b_Model_goes 5 none 2 9 := ⟨mGW (List.mem_of_getElem? (i := 1347) (by decide +kernel)) rfl, mGW (List.mem_of_getElem? (i := 48) (by decide +kernel)) rfl, mGW (List.mem_of_getElem? (i := 83) (by decide +kernel)) rfl, mGW (List.mem_of_getElem? (i := 1348) (by decide +kernel)) rfl, ⟨by decide, by decide, by decide +kernel⟩, rfl⟩
theorem d_Model_goes_0 : decode b_Model_goes 0 = .ok (.iload_n 2, 1) := by decide +kernel
theorem d_Model_goes_1 : decode b_Model_goes 1 = .ok (.ifCond .eq 24, 3) := by decide +kernel
theorem d_Model_goes_4 : decode b_Model_goes 4 = .ok (.aload_n 0, 1) := by decide +kernel
theorem d_Model_goes_5 : decode b_Model_goes 5 = .ok (.iload_n 1, 1) := by decide +kernel
theorem d_Model_goes_6 : decode b_Model_goes 6 = .ok (.iconst 0, 1) := by decide +kernel
theorem d_Model_goes_7 : decode b_Model_goes 7 = .ok (.aload_n 0, 1) := by decide +kernel
theorem d_Model_goes_8 : decode b_Model_goes 8 = .ok (.getfield 179, 3) := by decide +kernel
theorem d_Model_goes_11 : decode b_Model_goes 11 = .ok (.invokevirtual 201, 3) := by decide +kernel
theorem d_Model_goes_14 : decode b_Model_goes 14 = .ok (.aload_n 0, 1) := by decide +kernel
theorem d_Model_goes_15 : decode b_Model_goes 15 = .ok (.iload_n 1, 1) := by decide +kernel
theorem d_Model_goes_16 : decode b_Model_goes 16 = .ok (.bipush 24, 2) := by decide +kernel
theorem d_Model_goes_18 : decode b_Model_goes 18 = .ok (.aload_n 0, 1) := by decide +kernel
theorem d_Model_goes_19 : decode b_Model_goes 19 = .ok (.getfield 179, 3) := by decide +kernel
theorem d_Model_goes_22 : decode b_Model_goes 22 = .ok (.invokevirtual 201, 3) := by decide +kernel
theorem d_Model_goes_25 : decode b_Model_goes 25 = .ok (.aload_n 0, 1) := by decide +kernel
theorem d_Model_goes_26 : decode b_Model_goes 26 = .ok (.iconst 0, 1) := by decide +kernel
theorem d_Model_goes_27 : decode b_Model_goes 27 = .ok (.putfield 204, 3) := by decide +kernel
theorem d_Model_goes_30 : decode b_Model_goes 30 = .ok (.iconst 0, 1) := by decide +kernel
theorem d_Model_goes_31 : decode b_Model_goes 31 = .ok (.istore_n 3, 1) := by decide +kernel
theorem d_Model_goes_32 : decode b_Model_goes 32 = .ok (.iload_n 3, 1) := by decide +kernel
theorem d_Model_goes_33 : decode b_Model_goes 33 = .ok (.aload_n 0, 1) := by decide +kernel
theorem d_Model_goes_34 : decode b_Model_goes 34 = .ok (.getfield 176, 3) := by decide +kernel
theorem d_Model_goes_37 : decode b_Model_goes 37 = .ok (.if_icmp .ge 96, 3) := by decide +kernel
theorem d_Model_goes_40 : decode b_Model_goes 40 = .ok (.aload_n 0, 1) := by decide +kernel
theorem d_Model_goes_41 : decode b_Model_goes 41 = .ok (.iload_n 1, 1) := by decide +kernel
theorem d_Model_goes_42 : decode b_Model_goes 42 = .ok (.iload_n 3, 1) := by decide +kernel
theorem d_Model_goes_43 : decode b_Model_goes 43 = .ok (.invokevirtual 207, 3) := by decide +kernel
theorem d_Model_goes_46 : decode b_Model_goes 46 = .ok (.istore 4, 2) := by decide +kernel
theorem d_Model_goes_48 : decode b_Model_goes 48 = .ok (.aload_n 0, 1) := by decide +kernel
theorem d_Model_goes_49 : decode b_Model_goes 49 = .ok (.getfield 50, 3) := by decide +kernel
theorem d_Model_goes_52 : decode b_Model_goes 52 = .ok (.iload_n 3, 1) := by decide +kernel
theorem d_Model_goes_53 : decode b_Model_goes 53 = .ok (.iload 4, 2) := by decide +kernel
theorem d_Model_goes_55 : decode b_Model_goes 55 = .ok (.iastore, 1) := by decide +kernel
theorem d_Model_goes_56 : decode b_Model_goes 56 = .ok (.aload_n 0, 1) := by decide +kernel
theorem d_Model_goes_57 : decode b_Model_goes 57 = .ok (.iload_n 1, 1) := by decide +kernel
theorem d_Model_goes_58 : decode b_Model_goes 58 = .ok (.iconst 0, 1) := by decide +kernel
theorem d_Model_goes_59 : decode b_Model_goes 59 = .ok (.iload_n 3, 1) := by decide +kernel
theorem d_Model_goes_60 : decode b_Model_goes 60 = .ok (.iadd, 1) := by decide +kernel
theorem d_Model_goes_61 : decode b_Model_goes 61 = .ok (.iload 4, 2) := by decide +kernel
theorem d_Model_goes_63 : decode b_Model_goes 63 = .ok (.ineg, 1) := by decide +kernel
theorem d_Model_goes_64 : decode b_Model_goes 64 = .ok (.invokevirtual 201, 3) := by decide +kernel
theorem d_Model_goes_67 : decode b_Model_goes 67 = .ok (.aload_n 0, 1) := by decide +kernel
theorem d_Model_goes_68 : decode b_Model_goes 68 = .ok (.iload_n 1, 1) := by decide +kernel
theorem d_Model_goes_69 : decode b_Model_goes 69 = .ok (.bipush 16, 2) := by decide +kernel
theorem d_Model_goes_71 : decode b_Model_goes 71 = .ok (.iload_n 3, 1) := by decide +kernel
theorem d_Model_goes_72 : decode b_Model_goes 72 = .ok (.iadd, 1) := by decide +kernel
theorem d_Model_goes_73 : decode b_Model_goes 73 = .ok (.aload_n 0, 1) := by decide +kernel
theorem d_Model_goes_74 : decode b_Model_goes 74 = .ok (.getfield 29, 3) := by decide +kernel
theorem d_Model_goes_77 : decode b_Model_goes 77 = .ok (.iload_n 3, 1) := by decide +kernel
theorem d_Model_goes_78 : decode b_Model_goes 78 = .ok (.iaload, 1) := by decide +kernel
theorem d_Model_goes_79 : decode b_Model_goes 79 = .ok (.iload 4, 2) := by decide +kernel
theorem d_Model_goes_81 : decode b_Model_goes 81 = .ok (.invokestatic 210, 3) := by decide +kernel
theorem d_Model_goes_84 : decode b_Model_goes 84 = .ok (.invokevirtual 201, 3) := by decide +kernel
theorem d_Model_goes_87 : decode b_Model_goes 87 = .ok (.iload_n 3, 1) := by decide +kernel
theorem d_Model_goes_88 : decode b_Model_goes 88 = .ok (.aload_n 0, 1) := by decide +kernel
theorem d_Model_goes_89 : decode b_Model_goes 89 = .ok (.getfield 176, 3) := by decide +kernel
theorem d_Model_goes_92 : decode b_Model_goes 92 = .ok (.iconst 1, 1) := by decide +kernel
theorem d_Model_goes_93 : decode b_Model_goes 93 = .ok (.isub, 1) := by decide +kernel
theorem d_Model_goes_94 : decode b_Model_goes 94 = .ok (.if_icmp .ge 18, 3) := by decide +kernel
theorem d_Model_goes_97 : decode b_Model_goes 97 = .ok (.aload_n 0, 1) := by decide +kernel
theorem d_Model_goes_98 : decode b_Model_goes 98 = .ok (.iload_n 1, 1) := by decide +kernel
theorem d_Model_goes_99 : decode b_Model_goes 99 = .ok (.iconst 0, 1) := by decide +kernel
theorem d_Model_goes_100 : decode b_Model_goes 100 = .ok (.iload_n 3, 1) := by decide +kernel
theorem d_Model_goes_101 : decode b_Model_goes 101 = .ok (.iadd, 1) := by decide +kernel
theorem d_Model_goes_102 : decode b_Model_goes 102 = .ok (.iconst 1, 1) := by decide +kernel
theorem d_Model_goes_103 : decode b_Model_goes 103 = .ok (.iadd, 1) := by decide +kernel
theorem d_Model_goes_104 : decode b_Model_goes 104 = .ok (.iload 4, 2) := by decide +kernel
theorem d_Model_goes_106 : decode b_Model_goes 106 = .ok (.invokevirtual 201, 3) := by decide +kernel
theorem d_Model_goes_109 : decode b_Model_goes 109 = .ok (.goto 18, 3) := by decide +kernel
theorem d_Model_goes_112 : decode b_Model_goes 112 = .ok (.aload_n 0, 1) := by decide +kernel
theorem d_Model_goes_113 : decode b_Model_goes 113 = .ok (.iload_n 1, 1) := by decide +kernel
theorem d_Model_goes_114 : decode b_Model_goes 114 = .ok (.bipush 25, 2) := by decide +kernel
theorem d_Model_goes_116 : decode b_Model_goes 116 = .ok (.iload 4, 2) := by decide +kernel
theorem d_Model_goes_118 : decode b_Model_goes 118 = .ok (.invokevirtual 201, 3) := by decide +kernel
theorem d_Model_goes_121 : decode b_Model_goes 121 = .ok (.aload_n 0, 1) := by decide +kernel
theorem d_Model_goes_122 : decode b_Model_goes 122 = .ok (.iload 4, 2) := by decide +kernel
theorem d_Model_goes_124 : decode b_Model_goes 124 = .ok (.putfield 204, 3) := by decide +kernel
theorem d_Model_goes_127 : decode b_Model_goes 127 = .ok (.iinc 3 1, 3) := by decide +kernel
theorem d_Model_goes_130 : decode b_Model_goes 130 = .ok (.goto (-98), 3) := by decide +kernel
theorem d_Model_goes_133 : decode b_Model_goes 133 = .ok (.iconst 0, 1) := by decide +kernel
theorem d_Model_goes_134 : decode b_Model_goes 134 = .ok (.istore_n 3, 1) := by decide +kernel
theorem d_Model_goes_135 : decode b_Model_goes 135 = .ok (.iload_n 3, 1) := by decide +kernel
theorem d_Model_goes_136 : decode b_Model_goes 136 = .ok (.aload_n 0, 1) := by decide +kernel
theorem d_Model_goes_137 : decode b_Model_goes 137 = .ok (.getfield 176, 3) := by decide +kernel
theorem d_Model_goes_140 : decode b_Model_goes 140 = .ok (.if_icmp .ge 87, 3) := by decide +kernel
theorem d_Model_goes_143 : decode b_Model_goes 143 = .ok (.iconst 0, 1) := by decide +kernel
theorem d_Model_goes_144 : decode b_Model_goes 144 = .ok (.aload_n 0, 1) := by decide +kernel
theorem d_Model_goes_145 : decode b_Model_goes 145 = .ok (.iload_n 1, 1) := by decide +kernel
theorem d_Model_goes_146 : decode b_Model_goes 146 = .ok (.iconst 0, 1) := by decide +kernel
theorem d_Model_goes_147 : decode b_Model_goes 147 = .ok (.iload_n 3, 1) := by decide +kernel
theorem d_Model_goes_148 : decode b_Model_goes 148 = .ok (.iadd, 1) := by decide +kernel
theorem d_Model_goes_149 : decode b_Model_goes 149 = .ok (.invokevirtual 192, 3) := by decide +kernel
theorem d_Model_goes_152 : decode b_Model_goes 152 = .ok (.aload_n 0, 1) := by decide +kernel
theorem d_Model_goes_153 : decode b_Model_goes 153 = .ok (.getfield 35, 3) := by decide +kernel
theorem d_Model_goes_156 : decode b_Model_goes 156 = .ok (.iload_n 3, 1) := by decide +kernel
theorem d_Model_goes_157 : decode b_Model_goes 157 = .ok (.iaload, 1) := by decide +kernel
theorem d_Model_goes_158 : decode b_Model_goes 158 = .ok (.isub, 1) := by decide +kernel
theorem d_Model_goes_159 : decode b_Model_goes 159 = .ok (.invokestatic 213, 3) := by decide +kernel
theorem d_Model_goes_162 : decode b_Model_goes 162 = .ok (.istore 4, 2) := by decide +kernel
theorem d_Model_goes_164 : decode b_Model_goes 164 = .ok (.aload_n 0, 1) := by decide +kernel
theorem d_Model_goes_165 : decode b_Model_goes 165 = .ok (.getfield 53, 3) := by decide +kernel
theorem d_Model_goes_168 : decode b_Model_goes 168 = .ok (.iload_n 3, 1) := by decide +kernel
theorem d_Model_goes_169 : decode b_Model_goes 169 = .ok (.iload 4, 2) := by decide +kernel
theorem d_Model_goes_171 : decode b_Model_goes 171 = .ok (.aload_n 0, 1) := by decide +kernel
theorem d_Model_goes_172 : decode b_Model_goes 172 = .ok (.getfield 38, 3) := by decide +kernel
theorem d_Model_goes_175 : decode b_Model_goes 175 = .ok (.iload_n 3, 1) := by decide +kernel
theorem d_Model_goes_176 : decode b_Model_goes 176 = .ok (.iaload, 1) := by decide +kernel
theorem d_Model_goes_177 : decode b_Model_goes 177 = .ok (.aload_n 0, 1) := by decide +kernel
theorem d_Model_goes_178 : decode b_Model_goes 178 = .ok (.iload_n 1, 1) := by decide +kernel
theorem d_Model_goes_179 : decode b_Model_goes 179 = .ok (.bipush 8, 2) := by decide +kernel
theorem d_Model_goes_181 : decode b_Model_goes 181 = .ok (.iload_n 3, 1) := by decide +kernel
theorem d_Model_goes_182 : decode b_Model_goes 182 = .ok (.iadd, 1) := by decide +kernel
theorem d_Model_goes_183 : decode b_Model_goes 183 = .ok (.invokevirtual 192, 3) := by decide +kernel
theorem d_Model_goes_186 : decode b_Model_goes 186 = .ok (.isub, 1) := by decide +kernel
theorem d_Model_goes_187 : decode b_Model_goes 187 = .ok (.invokestatic 198, 3) := by decide +kernel
theorem d_Model_goes_190 : decode b_Model_goes 190 = .ok (.iastore, 1) := by decide +kernel
theorem d_Model_goes_191 : decode b_Model_goes 191 = .ok (.aload_n 0, 1) := by decide +kernel
theorem d_Model_goes_192 : decode b_Model_goes 192 = .ok (.iload_n 1, 1) := by decide +kernel
theorem d_Model_goes_193 : decode b_Model_goes 193 = .ok (.iconst 0, 1) := by decide +kernel
theorem d_Model_goes_194 : decode b_Model_goes 194 = .ok (.iload_n 3, 1) := by decide +kernel
theorem d_Model_goes_195 : decode b_Model_goes 195 = .ok (.iadd, 1) := by decide +kernel
theorem d_Model_goes_196 : decode b_Model_goes 196 = .ok (.aload_n 0, 1) := by decide +kernel
theorem d_Model_goes_197 : decode b_Model_goes 197 = .ok (.getfield 53, 3) := by decide +kernel
theorem d_Model_goes_200 : decode b_Model_goes 200 = .ok (.iload_n 3, 1) := by decide +kernel
theorem d_Model_goes_201 : decode b_Model_goes 201 = .ok (.iaload, 1) := by decide +kernel
theorem d_Model_goes_202 : decode b_Model_goes 202 = .ok (.ineg, 1) := by decide +kernel
theorem d_Model_goes_203 : decode b_Model_goes 203 = .ok (.invokevirtual 201, 3) := by decide +kernel
theorem d_Model_goes_206 : decode b_Model_goes 206 = .ok (.aload_n 0, 1) := by decide +kernel
theorem d_Model_goes_207 : decode b_Model_goes 207 = .ok (.iload_n 1, 1) := by decide +kernel
theorem d_Model_goes_208 : decode b_Model_goes 208 = .ok (.bipush 8, 2) := by decide +kernel
theorem d_Model_goes_210 : decode b_Model_goes 210 = .ok (.iload_n 3, 1) := by decide +kernel
theorem d_Model_goes_211 : decode b_Model_goes 211 = .ok (.iadd, 1) := by decide +kernel
theorem d_Model_goes_212 : decode b_Model_goes 212 = .ok (.aload_n 0, 1) := by decide +kernel
theorem d_Model_goes_213 : decode b_Model_goes 213 = .ok (.getfield 53, 3) := by decide +kernel
theorem d_Model_goes_216 : decode b_Model_goes 216 = .ok (.iload_n 3, 1) := by decide +kernel
theorem d_Model_goes_217 : decode b_Model_goes 217 = .ok (.iaload, 1) := by decide +kernel
theorem d_Model_goes_218 : decode b_Model_goes 218 = .ok (.invokevirtual 201, 3) := by decide +kernel
theorem d_Model_goes_221 : decode b_Model_goes 221 = .ok (.iinc 3 1, 3) := by decide +kernel
theorem d_Model_goes_224 : decode b_Model_goes 224 = .ok (.goto (-89), 3) := by decide +kernel
theorem d_Model_goes_227 : decode b_Model_goes 227 = .ok (.return_, 1) := by decide +kernel
def f_Model_in (v0 : Int32) (v1 : Int32) (v2 : Int32) (D : Dt) : Option (Int32 × Dt) :=
  (if v0 < v1 then some (0, D) else (if v2 < v0 then some (0, D) else some (1, D)))
set_option maxHeartbeats 4000000 in
theorem te_Model_in {Γ : GmT} {G : Dt → Nat → List (Nat × Value) → List Value → Prop} {rr : Int32} {DD : Dt} (C : Cx Γ "RiverTuesdaysModel" b_Model_in 3 1 (some .boolean) (some (.int rr)) DD G) {v0 : Int32} {v1 : Int32} {v2 : Int32} {D : Dt} (hf : f_Model_in v0 v1 v2 D = some (rr, DD)) : G D 0 [(0, .int v0), (1, .int v1), (2, .int v2)] [] := by
  unfold f_Model_in at hf
  refine r_iload_n (pc := 0) C 0 d_Model_in_0 rfl rfl ?_
  refine r_iload_n (pc := 1) C 1 d_Model_in_1 rfl rfl ?_
  refine r_icmp_lt (pc := 2) C (tgt := 14) d_Model_in_2 (by decide) hf (fun c2 hf => ?_) (fun c2 hf => ?_)
  · refine r_iconst (pc := 14) C (v := 0) d_Model_in_14 (by decide) ?_
    exact r_zret (pc := 15) C d_Model_in_15 rfl hf
  · refine r_iload_n (pc := 5) C 0 d_Model_in_5 rfl rfl ?_
    refine r_iload_n (pc := 6) C 2 d_Model_in_6 rfl rfl ?_
    refine r_icmp_gt (pc := 7) C (tgt := 14) d_Model_in_7 (by decide) hf (fun c7 hf => ?_) (fun c7 hf => ?_)
    · refine r_iconst (pc := 14) C (v := 0) d_Model_in_14 (by decide) ?_
      exact r_zret (pc := 15) C d_Model_in_15 rfl hf
    · refine r_iconst (pc := 10) C (v := 1) d_Model_in_10 (by decide) ?_
      refine r_goto (pc := 11) C (tgt := 15) d_Model_in_11 (by decide) ?_
      exact r_zret (pc := 15) C d_Model_in_15 rfl hf
theorem c_Model_in (Γ : GmT) {v0 : Int32} {v1 : Int32} {v2 : Int32} {D : Dt} {rr : Int32} {DD : Dt} (hf : f_Model_in v0 v1 v2 D = some (rr, DD)) : Mt Γ y_Model_in b_Model_in 3 (some .boolean) 1 [.int v0, .int v1, .int v2] D (some (.int rr)) DD := Mt_of (by decide) (Nat.le_of_ble_eq_true rfl) (fun G C => te_Model_in C hf)
def f_Model_has (v0 : Int32) (v1 : Int32) (D : Dt) : Option (Int32 × Dt) :=
  (if ((v0 >>> (v1 &&& 31)) &&& 1) = 1 then some (1, D) else some (0, D))
set_option maxHeartbeats 4000000 in
theorem te_Model_has {Γ : GmT} {G : Dt → Nat → List (Nat × Value) → List Value → Prop} {rr : Int32} {DD : Dt} (C : Cx Γ "RiverTuesdaysModel" b_Model_has 2 1 (some .boolean) (some (.int rr)) DD G) {v0 : Int32} {v1 : Int32} {D : Dt} (hf : f_Model_has v0 v1 D = some (rr, DD)) : G D 0 [(0, .int v0), (1, .int v1)] [] := by
  unfold f_Model_has at hf
  refine r_iload_n (pc := 0) C 0 d_Model_has_0 rfl rfl ?_
  refine r_iload_n (pc := 1) C 1 d_Model_has_1 rfl rfl ?_
  refine r_ishr (pc := 2) C d_Model_has_2 ?_
  refine r_iconst (pc := 3) C (v := 1) d_Model_has_3 (by decide) ?_
  refine r_iand (pc := 4) C d_Model_has_4 ?_
  refine r_iconst (pc := 5) C (v := 1) d_Model_has_5 (by decide) ?_
  refine r_icmp_ne (pc := 6) C (tgt := 13) d_Model_has_6 (by decide) hf (fun c6 hf => ?_) (fun c6 hf => ?_)
  · refine r_iconst (pc := 13) C (v := 0) d_Model_has_13 (by decide) ?_
    exact r_zret (pc := 14) C d_Model_has_14 rfl hf
  · refine r_iconst (pc := 9) C (v := 1) d_Model_has_9 (by decide) ?_
    refine r_goto (pc := 10) C (tgt := 14) d_Model_has_10 (by decide) ?_
    exact r_zret (pc := 14) C d_Model_has_14 rfl hf
theorem c_Model_has (Γ : GmT) {v0 : Int32} {v1 : Int32} {D : Dt} {rr : Int32} {DD : Dt} (hf : f_Model_has v0 v1 D = some (rr, DD)) : Mt Γ y_Model_has b_Model_has 2 (some .boolean) 1 [.int v0, .int v1] D (some (.int rr)) DD := Mt_of (by decide) (Nat.le_of_ble_eq_true rfl) (fun G C => te_Model_has C hf)
def s_Model_bits_4 (k4 : Int32 → Int32 → Dt → Option (Int32 × Dt)) (v1 : Int32) (v2 : Int32) (D : Dt) : Option (Int32 × Dt) :=
  (if v2 = 0 then some (v1, D) else k4 (v1 + 1) (v2 &&& (v2 - 1)) D)
def lp_Model_bits_4 (n : Nat) : Int32 → Int32 → Dt → Option (Int32 × Dt) := itr (fun _ _ _ => none) (s_Model_bits_4) n
set_option maxHeartbeats 4000000 in
theorem ts_Model_bits_4 {Γ : GmT} {G : Dt → Nat → List (Nat × Value) → List Value → Prop} {rr : Int32} {DD : Dt} (C : Cx Γ "RiverTuesdaysModel" b_Model_bits 3 1 (some .int) (some (.int rr)) DD G) {k4 : Int32 → Int32 → Dt → Option (Int32 × Dt)} (hk4 : ∀ (v1 : Int32) (v2 : Int32) (D : Dt), k4 v1 v2 D = some (rr, DD) → G D 4 [(1, .int v1), (2, .int v2)] []) {v1 : Int32} {v2 : Int32} {D : Dt} (hf : s_Model_bits_4 k4 v1 v2 D = some (rr, DD)) : G D 4 [(1, .int v1), (2, .int v2)] [] := by
  unfold s_Model_bits_4 at hf
  refine r_iload_n (pc := 4) C 1 d_Model_bits_4 rfl rfl ?_
  refine r_if_eq (pc := 5) C (tgt := 20) d_Model_bits_5 (by decide) hf (fun c5 hf => ?_) (fun c5 hf => ?_)
  · refine r_iload_n (pc := 20) C 0 d_Model_bits_20 rfl rfl ?_
    exact r_iret (pc := 21) C d_Model_bits_21 hf
  · refine r_iinc (pc := 8) C (v := v1 + 1) (lv' := [(1, .int (v1 + 1)), (2, .int v2)]) 0 d_Model_bits_8 rfl rfl (Nat.le_of_ble_eq_true rfl) rfl ?_
    refine r_iload_n (pc := 11) C 1 d_Model_bits_11 rfl rfl ?_
    refine r_iload_n (pc := 12) C 1 d_Model_bits_12 rfl rfl ?_
    refine r_iconst (pc := 13) C (v := 1) d_Model_bits_13 (by decide) ?_
    refine r_isub (pc := 14) C d_Model_bits_14 ?_
    refine r_iand (pc := 15) C d_Model_bits_15 ?_
    refine r_istore_n (pc := 16) (lv' := [(2, .int (v2 &&& (v2 - 1))), (1, .int (v1 + 1))]) C d_Model_bits_16 rfl (Nat.le_of_ble_eq_true rfl) rfl ?_
    refine r_goto (pc := 17) C (tgt := 4) d_Model_bits_17 (by decide) ?_
    exact r_lv (pc := 4) C [1, 0] rfl (hk4 (v1 + 1) (v2 &&& (v2 - 1)) D hf)
theorem tl_Model_bits_4 {Γ : GmT} {G : Dt → Nat → List (Nat × Value) → List Value → Prop} {rr : Int32} {DD : Dt} (C : Cx Γ "RiverTuesdaysModel" b_Model_bits 3 1 (some .int) (some (.int rr)) DD G) : ∀ (n : Nat) (v1 : Int32) (v2 : Int32) (D : Dt), lp_Model_bits_4 n v1 v2 D = some (rr, DD) → G D 4 [(1, .int v1), (2, .int v2)] [] := by
  intro n
  induction n with
  | zero =>
    intro v1 v2 D hf
    exact absurd (show (none : Option (Int32 × Dt)) = some (rr, DD) from hf) (by simp)
  | succ n ih =>
    intro v1 v2 D hf
    exact ts_Model_bits_4 C (k4 := lp_Model_bits_4 n) ih hf
def f_Model_bits (v0 : Int32) (D : Dt) : Option (Int32 × Dt) :=
  lp_Model_bits_4 FU 0 v0 D
set_option maxHeartbeats 4000000 in
theorem te_Model_bits {Γ : GmT} {G : Dt → Nat → List (Nat × Value) → List Value → Prop} {rr : Int32} {DD : Dt} (C : Cx Γ "RiverTuesdaysModel" b_Model_bits 3 1 (some .int) (some (.int rr)) DD G) {v0 : Int32} {D : Dt} (hf : f_Model_bits v0 D = some (rr, DD)) : G D 0 [(0, .int v0)] [] := by
  unfold f_Model_bits at hf
  refine r_iconst (pc := 0) C (v := 0) d_Model_bits_0 (by decide) ?_
  refine r_istore_n (pc := 1) (lv' := [(1, .int 0), (0, .int v0)]) C d_Model_bits_1 rfl (Nat.le_of_ble_eq_true rfl) rfl ?_
  refine r_iload_n (pc := 2) C 1 d_Model_bits_2 rfl rfl ?_
  refine r_istore_n (pc := 3) (lv' := [(2, .int v0), (1, .int 0), (0, .int v0)]) C d_Model_bits_3 rfl (Nat.le_of_ble_eq_true rfl) rfl ?_
  exact r_lv (pc := 4) C [1, 0] rfl (tl_Model_bits_4 C FU 0 v0 D hf)
theorem c_Model_bits (Γ : GmT) {v0 : Int32} {D : Dt} {rr : Int32} {DD : Dt} (hf : f_Model_bits v0 D = some (rr, DD)) : Mt Γ y_Model_bits b_Model_bits 3 (some .int) 1 [.int v0] D (some (.int rr)) DD := Mt_of (by decide) (Nat.le_of_ble_eq_true rfl) (fun G C => te_Model_bits C hf)
def f_Model_lesser (v0 : Int32) (v1 : Int32) (D : Dt) : Option (Int32 × Dt) :=
  (if v1 ≤ v0 then some (v1, D) else some (v0, D))
set_option maxHeartbeats 4000000 in
theorem te_Model_lesser {Γ : GmT} {G : Dt → Nat → List (Nat × Value) → List Value → Prop} {rr : Int32} {DD : Dt} (C : Cx Γ "RiverTuesdaysModel" b_Model_lesser 2 1 (some .int) (some (.int rr)) DD G) {v0 : Int32} {v1 : Int32} {D : Dt} (hf : f_Model_lesser v0 v1 D = some (rr, DD)) : G D 0 [(0, .int v0), (1, .int v1)] [] := by
  unfold f_Model_lesser at hf
  refine r_iload_n (pc := 0) C 0 d_Model_lesser_0 rfl rfl ?_
  refine r_iload_n (pc := 1) C 1 d_Model_lesser_1 rfl rfl ?_
  refine r_icmp_ge (pc := 2) C (tgt := 9) d_Model_lesser_2 (by decide) hf (fun c2 hf => ?_) (fun c2 hf => ?_)
  · refine r_iload_n (pc := 9) C 1 d_Model_lesser_9 rfl rfl ?_
    exact r_iret (pc := 10) C d_Model_lesser_10 hf
  · refine r_iload_n (pc := 5) C 0 d_Model_lesser_5 rfl rfl ?_
    refine r_goto (pc := 6) C (tgt := 10) d_Model_lesser_6 (by decide) ?_
    exact r_iret (pc := 10) C d_Model_lesser_10 hf
theorem c_Model_lesser (Γ : GmT) {v0 : Int32} {v1 : Int32} {D : Dt} {rr : Int32} {DD : Dt} (hf : f_Model_lesser v0 v1 D = some (rr, DD)) : Mt Γ y_Model_lesser b_Model_lesser 2 (some .int) 1 [.int v0, .int v1] D (some (.int rr)) DD := Mt_of (by decide) (Nat.le_of_ble_eq_true rfl) (fun G C => te_Model_lesser C hf)
def f_Model_greater (v0 : Int32) (v1 : Int32) (D : Dt) : Option (Int32 × Dt) :=
  (if v0 ≤ v1 then some (v1, D) else some (v0, D))
set_option maxHeartbeats 4000000 in
theorem te_Model_greater {Γ : GmT} {G : Dt → Nat → List (Nat × Value) → List Value → Prop} {rr : Int32} {DD : Dt} (C : Cx Γ "RiverTuesdaysModel" b_Model_greater 2 1 (some .int) (some (.int rr)) DD G) {v0 : Int32} {v1 : Int32} {D : Dt} (hf : f_Model_greater v0 v1 D = some (rr, DD)) : G D 0 [(0, .int v0), (1, .int v1)] [] := by
  unfold f_Model_greater at hf
  refine r_iload_n (pc := 0) C 0 d_Model_greater_0 rfl rfl ?_
  refine r_iload_n (pc := 1) C 1 d_Model_greater_1 rfl rfl ?_
  refine r_icmp_le (pc := 2) C (tgt := 9) d_Model_greater_2 (by decide) hf (fun c2 hf => ?_) (fun c2 hf => ?_)
  · refine r_iload_n (pc := 9) C 1 d_Model_greater_9 rfl rfl ?_
    exact r_iret (pc := 10) C d_Model_greater_10 hf
  · refine r_iload_n (pc := 5) C 0 d_Model_greater_5 rfl rfl ?_
    refine r_goto (pc := 6) C (tgt := 10) d_Model_greater_6 (by decide) ?_
    exact r_iret (pc := 10) C d_Model_greater_10 hf
theorem c_Model_greater (Γ : GmT) {v0 : Int32} {v1 : Int32} {D : Dt} {rr : Int32} {DD : Dt} (hf : f_Model_greater v0 v1 D = some (rr, DD)) : Mt Γ y_Model_greater b_Model_greater 2 (some .int) 1 [.int v0, .int v1] D (some (.int rr)) DD := Mt_of (by decide) (Nat.le_of_ble_eq_true rfl) (fun G C => te_Model_greater C hf)
def f_Model_meets (v1 : Int32) (D : Dt) : Option (Int32 × Dt) :=
  nm (wr D 176 0 v1) (fun D1 => (if inb v1 6 = true then (if inb v1 6 = true then nm (wr D1 177 v1.toNatClampNeg ((D1 177 v1.toNatClampNeg) + 1)) (fun D2 => some ((-3), D2)) else none) else none))
set_option maxHeartbeats 4000000 in
theorem te_Model_meets {Γ : GmT} {G : Dt → Nat → List (Nat × Value) → List Value → Prop} {rr : Int32} {DD : Dt} (C : Cx Γ "RiverTuesdaysModel" b_Model_meets 2 1 (some .int) (some (.int rr)) DD G) {v1 : Int32} {D : Dt} (hf : f_Model_meets v1 D = some (rr, DD)) : G D 0 [(0, .ref (Γ.2.1 176)), (1, .int v1)] [] := by
  unfold f_Model_meets at hf
  refine r_aload_n (pc := 0) C 0 d_Model_meets_0 rfl rfl ?_
  refine r_iload_n (pc := 1) C 1 d_Model_meets_1 rfl rfl ?_
  refine p_Model_latest (pc := 2) C k_id176 Lf_Model_114 d_Model_meets_2 ?_
  refine r_nmD hf (fun D1 hf => ?_)
  refine r_aload_n (pc := 5) C 0 d_Model_meets_5 rfl rfl ?_
  refine g_Model_came (pc := 6) C k_id176 Lf_Model_7 d_Model_meets_6 ?_
  refine r_iload_n (pc := 9) C 1 d_Model_meets_9 rfl rfl ?_
  refine r_dup2 (pc := 10) C d_Model_meets_10 rfl rfl ?_
  refine r_iald (pc := 11) C kq_Model_came d_Model_meets_11 hf (fun hf => ?_)
  refine r_iconst (pc := 12) C (v := 1) d_Model_meets_12 (by decide) ?_
  refine r_iadd (pc := 13) C d_Model_meets_13 ?_
  refine r_iast (pc := 14) C kq_Model_came d_Model_meets_14 hf (fun hf => ?_)
  refine r_nmD hf (fun D2 hf => ?_)
  refine r_bipush (pc := 15) C (v := (-3)) d_Model_meets_15 (by decide) ?_
  exact r_iret (pc := 17) C d_Model_meets_17 hf
theorem c_Model_meets (Γ : GmT) {v1 : Int32} {D : Dt} {rr : Int32} {DD : Dt} (hf : f_Model_meets v1 D = some (rr, DD)) : Mt Γ y_Model_meets b_Model_meets 2 (some .int) 1 [.ref (Γ.2.1 176), .int v1] D (some (.int rr)) DD := Mt_of (by decide) (Nat.le_of_ble_eq_true rfl) (fun G C => te_Model_meets C hf)
def f_Model_finding (D : Dt) : Option (Int32 × Dt) :=
  some (D 176 0, D)
set_option maxHeartbeats 4000000 in
theorem te_Model_finding {Γ : GmT} {G : Dt → Nat → List (Nat × Value) → List Value → Prop} {rr : Int32} {DD : Dt} (C : Cx Γ "RiverTuesdaysModel" b_Model_finding 1 1 (some .int) (some (.int rr)) DD G) {D : Dt} (hf : f_Model_finding D = some (rr, DD)) : G D 0 [(0, .ref (Γ.2.1 176))] [] := by
  unfold f_Model_finding at hf
  refine r_aload_n (pc := 0) C 0 d_Model_finding_0 rfl rfl ?_
  refine g_Model_latest (pc := 1) C k_id176 Lf_Model_114 d_Model_finding_1 ?_
  exact r_iret (pc := 4) C d_Model_finding_4 hf
theorem c_Model_finding (Γ : GmT) {D : Dt} {rr : Int32} {DD : Dt} (hf : f_Model_finding D = some (rr, DD)) : Mt Γ y_Model_finding b_Model_finding 1 (some .int) 1 [.ref (Γ.2.1 176)] D (some (.int rr)) DD := Mt_of (by decide) (Nat.le_of_ble_eq_true rfl) (fun G C => te_Model_finding C hf)
def f_Model_findings (v1 : Int32) (D : Dt) : Option (Int32 × Dt) :=
  bnd (f_Model_in v1 1 5 D) (fun x1 D2 => (if x1 = 0 then some ((-1), D2) else (if inb v1 6 = true then some (D2 177 v1.toNatClampNeg, D2) else none)))
set_option maxHeartbeats 4000000 in
theorem te_Model_findings {Γ : GmT} {G : Dt → Nat → List (Nat × Value) → List Value → Prop} {rr : Int32} {DD : Dt} (C : Cx Γ "RiverTuesdaysModel" b_Model_findings 2 2 (some .int) (some (.int rr)) DD G) {v1 : Int32} {D : Dt} (hf : f_Model_findings v1 D = some (rr, DD)) : G D 0 [(0, .ref (Γ.2.1 176)), (1, .int v1)] [] := by
  unfold f_Model_findings at hf
  refine r_iload_n (pc := 0) C 1 d_Model_findings_0 rfl rfl ?_
  refine r_iconst (pc := 1) C (v := 1) d_Model_findings_1 (by decide) ?_
  refine r_iconst (pc := 2) C (v := 5) d_Model_findings_2 (by decide) ?_
  refine r_callSi (pc := 3) (As := [.int v1, .int 1, .int 5]) (rest := []) C ok_Model_in Lm_Model_118 ⟨by decide, by decide⟩ rfl rfl (Nat.le_of_ble_eq_true rfl) d_Model_findings_3 hf (fun x D1 hc => c_Model_in Γ hc) (fun x1 D2 hf => ?_)
  refine r_if_eq (pc := 6) C (tgt := 18) d_Model_findings_6 (by decide) hf (fun c6 hf => ?_) (fun c6 hf => ?_)
  · refine r_iconst (pc := 18) C (v := (-1)) d_Model_findings_18 (by decide) ?_
    exact r_iret (pc := 19) C d_Model_findings_19 hf
  · refine r_aload_n (pc := 9) C 0 d_Model_findings_9 rfl rfl ?_
    refine g_Model_came (pc := 10) C k_id176 Lf_Model_7 d_Model_findings_10 ?_
    refine r_iload_n (pc := 13) C 1 d_Model_findings_13 rfl rfl ?_
    refine r_iald (pc := 14) C kq_Model_came d_Model_findings_14 hf (fun hf => ?_)
    refine r_goto (pc := 15) C (tgt := 19) d_Model_findings_15 (by decide) ?_
    exact r_iret (pc := 19) C d_Model_findings_19 hf
theorem c_Model_findings (Γ : GmT) {v1 : Int32} {D : Dt} {rr : Int32} {DD : Dt} (hf : f_Model_findings v1 D = some (rr, DD)) : Mt Γ y_Model_findings b_Model_findings 2 (some .int) 2 [.ref (Γ.2.1 176), .int v1] D (some (.int rr)) DD := Mt_of (by decide) (Nat.le_of_ble_eq_true rfl) (fun G C => te_Model_findings C hf)
def f_Model_tells (v1 : Int32) (v2 : Int32) (D : Dt) : Option (Int32 × Dt) :=
  nm (wr D 176 2 v1) (fun D1 => some (v2, D1))
set_option maxHeartbeats 4000000 in
theorem te_Model_tells {Γ : GmT} {G : Dt → Nat → List (Nat × Value) → List Value → Prop} {rr : Int32} {DD : Dt} (C : Cx Γ "RiverTuesdaysModel" b_Model_tells 3 1 (some .int) (some (.int rr)) DD G) {v1 : Int32} {v2 : Int32} {D : Dt} (hf : f_Model_tells v1 v2 D = some (rr, DD)) : G D 0 [(0, .ref (Γ.2.1 176)), (1, .int v1), (2, .int v2)] [] := by
  unfold f_Model_tells at hf
  refine r_aload_n (pc := 0) C 0 d_Model_tells_0 rfl rfl ?_
  refine r_iload_n (pc := 1) C 1 d_Model_tells_1 rfl rfl ?_
  refine p_Model_asked (pc := 2) C k_id176 Lf_Model_122 d_Model_tells_2 ?_
  refine r_nmD hf (fun D1 hf => ?_)
  refine r_iload_n (pc := 5) C 2 d_Model_tells_5 rfl rfl ?_
  exact r_iret (pc := 6) C d_Model_tells_6 hf
theorem c_Model_tells (Γ : GmT) {v1 : Int32} {v2 : Int32} {D : Dt} {rr : Int32} {DD : Dt} (hf : f_Model_tells v1 v2 D = some (rr, DD)) : Mt Γ y_Model_tells b_Model_tells 3 (some .int) 1 [.ref (Γ.2.1 176), .int v1, .int v2] D (some (.int rr)) DD := Mt_of (by decide) (Nat.le_of_ble_eq_true rfl) (fun G C => te_Model_tells C hf)
def f_Model_asked (D : Dt) : Option (Int32 × Dt) :=
  some (D 176 2, D)
set_option maxHeartbeats 4000000 in
theorem te_Model_asked {Γ : GmT} {G : Dt → Nat → List (Nat × Value) → List Value → Prop} {rr : Int32} {DD : Dt} (C : Cx Γ "RiverTuesdaysModel" b_Model_asked 1 1 (some .int) (some (.int rr)) DD G) {D : Dt} (hf : f_Model_asked D = some (rr, DD)) : G D 0 [(0, .ref (Γ.2.1 176))] [] := by
  unfold f_Model_asked at hf
  refine r_aload_n (pc := 0) C 0 d_Model_asked_0 rfl rfl ?_
  refine g_Model_asked (pc := 1) C k_id176 Lf_Model_122 d_Model_asked_1 ?_
  exact r_iret (pc := 4) C d_Model_asked_4 hf
theorem c_Model_asked (Γ : GmT) {D : Dt} {rr : Int32} {DD : Dt} (hf : f_Model_asked D = some (rr, DD)) : Mt Γ y_Model_asked b_Model_asked 1 (some .int) 1 [.ref (Γ.2.1 176)] D (some (.int rr)) DD := Mt_of (by decide) (Nat.le_of_ble_eq_true rfl) (fun G C => te_Model_asked C hf)
def f_Model_isRow (v0 : Int32) (D : Dt) : Option (Int32 × Dt) :=
  bnd (f_Model_in v0 0 5 D) (fun x1 D2 => (if x1 = 0 ∨ x1 = 1 then some (x1, D2) else none))
set_option maxHeartbeats 4000000 in
theorem te_Model_isRow {Γ : GmT} {G : Dt → Nat → List (Nat × Value) → List Value → Prop} {rr : Int32} {DD : Dt} (C : Cx Γ "RiverTuesdaysModel" b_Model_isRow 1 2 (some .boolean) (some (.int rr)) DD G) {v0 : Int32} {D : Dt} (hf : f_Model_isRow v0 D = some (rr, DD)) : G D 0 [(0, .int v0)] [] := by
  unfold f_Model_isRow at hf
  refine r_iload_n (pc := 0) C 0 d_Model_isRow_0 rfl rfl ?_
  refine r_iconst (pc := 1) C (v := 0) d_Model_isRow_1 (by decide) ?_
  refine r_iconst (pc := 2) C (v := 5) d_Model_isRow_2 (by decide) ?_
  refine r_callSi (pc := 3) (As := [.int v0, .int 0, .int 5]) (rest := []) C ok_Model_in Lm_Model_118 ⟨by decide, by decide⟩ rfl rfl (Nat.le_of_ble_eq_true rfl) d_Model_isRow_3 hf (fun x D1 hc => c_Model_in Γ hc) (fun x1 D2 hf => ?_)
  exact r_zretc (pc := 6) C d_Model_isRow_6 hf
theorem c_Model_isRow (Γ : GmT) {v0 : Int32} {D : Dt} {rr : Int32} {DD : Dt} (hf : f_Model_isRow v0 D = some (rr, DD)) : Mt Γ y_Model_isRow b_Model_isRow 1 (some .boolean) 2 [.int v0] D (some (.int rr)) DD := Mt_of (by decide) (Nat.le_of_ble_eq_true rfl) (fun G C => te_Model_isRow C hf)
def f_Model_rowAt (v1 : Int32) (v2 : Int32) (D : Dt) : Option (Int32 × Dt) :=
  (if inb ((60 * v1) + v2) 360 = true then some (D 179 ((60 * v1) + v2).toNatClampNeg, D) else none)
set_option maxHeartbeats 4000000 in
theorem te_Model_rowAt {Γ : GmT} {G : Dt → Nat → List (Nat × Value) → List Value → Prop} {rr : Int32} {DD : Dt} (C : Cx Γ "RiverTuesdaysModel" b_Model_rowAt 3 1 (some .int) (some (.int rr)) DD G) {v1 : Int32} {v2 : Int32} {D : Dt} (hf : f_Model_rowAt v1 v2 D = some (rr, DD)) : G D 0 [(0, .ref (Γ.2.1 176)), (1, .int v1), (2, .int v2)] [] := by
  unfold f_Model_rowAt at hf
  refine r_aload_n (pc := 0) C 0 d_Model_rowAt_0 rfl rfl ?_
  refine g_Model_rows (pc := 1) C k_id176 Lf_Model_16 d_Model_rowAt_1 ?_
  refine r_bipush (pc := 4) C (v := 60) d_Model_rowAt_4 (by decide) ?_
  refine r_iload_n (pc := 6) C 1 d_Model_rowAt_6 rfl rfl ?_
  refine r_imul (pc := 7) C d_Model_rowAt_7 ?_
  refine r_iload_n (pc := 8) C 2 d_Model_rowAt_8 rfl rfl ?_
  refine r_iadd (pc := 9) C d_Model_rowAt_9 ?_
  refine r_iald (pc := 10) C kq_Model_rows d_Model_rowAt_10 hf (fun hf => ?_)
  exact r_iret (pc := 11) C d_Model_rowAt_11 hf
theorem c_Model_rowAt (Γ : GmT) {v1 : Int32} {v2 : Int32} {D : Dt} {rr : Int32} {DD : Dt} (hf : f_Model_rowAt v1 v2 D = some (rr, DD)) : Mt Γ y_Model_rowAt b_Model_rowAt 3 (some .int) 1 [.ref (Γ.2.1 176), .int v1, .int v2] D (some (.int rr)) DD := Mt_of (by decide) (Nat.le_of_ble_eq_true rfl) (fun G C => te_Model_rowAt C hf)
def s_Model_row_34 (k34 : Int32 → Int32 → Int32 → Dt → Option (Int32 × Dt)) (v1 : Int32) (v2 : Int32) (v3 : Int32) (D : Dt) : Option (Int32 × Dt) :=
  (if 60 ≤ v3 then some (v2, D) else (if inb ((60 * v1) + v3) 360 = true then nm (wr D 179 ((60 * v1) + v3).toNatClampNeg 0) (fun D4 => k34 v1 v2 (v3 + 1) D4) else none))
def lp_Model_row_34 (n : Nat) : Int32 → Int32 → Int32 → Dt → Option (Int32 × Dt) := itr (fun _ _ _ _ => none) (s_Model_row_34) n
set_option maxHeartbeats 4000000 in
theorem ts_Model_row_34 {Γ : GmT} {G : Dt → Nat → List (Nat × Value) → List Value → Prop} {rr : Int32} {DD : Dt} (C : Cx Γ "RiverTuesdaysModel" b_Model_row 4 3 (some .int) (some (.int rr)) DD G) {k34 : Int32 → Int32 → Int32 → Dt → Option (Int32 × Dt)} (hk34 : ∀ (v1 : Int32) (v2 : Int32) (v3 : Int32) (D : Dt), k34 v1 v2 v3 D = some (rr, DD) → G D 34 [(0, .ref (Γ.2.1 176)), (1, .int v1), (2, .int v2), (3, .int v3)] []) {v1 : Int32} {v2 : Int32} {v3 : Int32} {D : Dt} (hf : s_Model_row_34 k34 v1 v2 v3 D = some (rr, DD)) : G D 34 [(0, .ref (Γ.2.1 176)), (1, .int v1), (2, .int v2), (3, .int v3)] [] := by
  unfold s_Model_row_34 at hf
  refine r_iload_n (pc := 34) C 3 d_Model_row_34 rfl rfl ?_
  refine r_bipush (pc := 35) C (v := 60) d_Model_row_35 (by decide) ?_
  refine r_icmp_ge (pc := 37) C (tgt := 58) d_Model_row_37 (by decide) hf (fun c37 hf => ?_) (fun c37 hf => ?_)
  · refine r_iload_n (pc := 58) C 2 d_Model_row_58 rfl rfl ?_
    exact r_iret (pc := 59) C d_Model_row_59 hf
  · refine r_aload_n (pc := 40) C 0 d_Model_row_40 rfl rfl ?_
    refine g_Model_rows (pc := 41) C k_id176 Lf_Model_16 d_Model_row_41 ?_
    refine r_bipush (pc := 44) C (v := 60) d_Model_row_44 (by decide) ?_
    refine r_iload_n (pc := 46) C 1 d_Model_row_46 rfl rfl ?_
    refine r_imul (pc := 47) C d_Model_row_47 ?_
    refine r_iload_n (pc := 48) C 3 d_Model_row_48 rfl rfl ?_
    refine r_iadd (pc := 49) C d_Model_row_49 ?_
    refine r_iconst (pc := 50) C (v := 0) d_Model_row_50 (by decide) ?_
    refine r_iast (pc := 51) C kq_Model_rows d_Model_row_51 hf (fun hf => ?_)
    refine r_nmD hf (fun D4 hf => ?_)
    refine r_iinc (pc := 52) C (v := v3 + 1) (lv' := [(3, .int (v3 + 1)), (0, .ref (Γ.2.1 176)), (1, .int v1), (2, .int v2)]) 3 d_Model_row_52 rfl rfl (Nat.le_of_ble_eq_true rfl) rfl ?_
    refine r_goto (pc := 55) C (tgt := 34) d_Model_row_55 (by decide) ?_
    exact r_lv (pc := 34) C [1, 2, 3, 0] rfl (hk34 v1 v2 (v3 + 1) D4 hf)
theorem tl_Model_row_34 {Γ : GmT} {G : Dt → Nat → List (Nat × Value) → List Value → Prop} {rr : Int32} {DD : Dt} (C : Cx Γ "RiverTuesdaysModel" b_Model_row 4 3 (some .int) (some (.int rr)) DD G) : ∀ (n : Nat) (v1 : Int32) (v2 : Int32) (v3 : Int32) (D : Dt), lp_Model_row_34 n v1 v2 v3 D = some (rr, DD) → G D 34 [(0, .ref (Γ.2.1 176)), (1, .int v1), (2, .int v2), (3, .int v3)] [] := by
  intro n
  induction n with
  | zero =>
    intro v1 v2 v3 D hf
    exact absurd (show (none : Option (Int32 × Dt)) = some (rr, DD) from hf) (by simp)
  | succ n ih =>
    intro v1 v2 v3 D hf
    exact ts_Model_row_34 C (k34 := lp_Model_row_34 n) ih hf
def f_Model_row (v1 : Int32) (v2 : Int32) (D : Dt) : Option (Int32 × Dt) :=
  bnd (f_Model_isRow v1 D) (fun x1 D2 => (if x1 = 0 then some ((-1), D2) else (if v2 ≤ 60 then (if 0 ≤ v2 then (if inb v1 6 = true then nm (wr D2 178 v1.toNatClampNeg v2) (fun D3 => lp_Model_row_34 FU v1 v2 0 D3) else none) else bnd (f_Model_meets 5 D2) (fun x5 D6 => some (x5, D6))) else some ((-1), D2))))
set_option maxHeartbeats 4000000 in
theorem te_Model_row {Γ : GmT} {G : Dt → Nat → List (Nat × Value) → List Value → Prop} {rr : Int32} {DD : Dt} (C : Cx Γ "RiverTuesdaysModel" b_Model_row 4 3 (some .int) (some (.int rr)) DD G) {v1 : Int32} {v2 : Int32} {D : Dt} (hf : f_Model_row v1 v2 D = some (rr, DD)) : G D 0 [(0, .ref (Γ.2.1 176)), (1, .int v1), (2, .int v2)] [] := by
  unfold f_Model_row at hf
  refine r_iload_n (pc := 0) C 1 d_Model_row_0 rfl rfl ?_
  refine r_callSi (pc := 1) (As := [.int v1]) (rest := []) C ok_Model_isRow Lm_Model_125 ⟨by decide, by decide⟩ rfl rfl (Nat.le_of_ble_eq_true rfl) d_Model_row_1 hf (fun x D1 hc => c_Model_isRow Γ hc) (fun x1 D2 hf => ?_)
  refine r_if_eq (pc := 4) C (tgt := 13) d_Model_row_4 (by decide) hf (fun c4 hf => ?_) (fun c4 hf => ?_)
  · refine r_iconst (pc := 13) C (v := (-1)) d_Model_row_13 (by decide) ?_
    exact r_iret (pc := 14) C d_Model_row_14 hf
  · refine r_iload_n (pc := 7) C 2 d_Model_row_7 rfl rfl ?_
    refine r_bipush (pc := 8) C (v := 60) d_Model_row_8 (by decide) ?_
    refine r_icmp_le (pc := 10) C (tgt := 15) d_Model_row_10 (by decide) hf (fun c10 hf => ?_) (fun c10 hf => ?_)
    · refine r_iload_n (pc := 15) C 2 d_Model_row_15 rfl rfl ?_
      refine r_if_ge (pc := 16) C (tgt := 25) d_Model_row_16 (by decide) hf (fun c16 hf => ?_) (fun c16 hf => ?_)
      · refine r_aload_n (pc := 25) C 0 d_Model_row_25 rfl rfl ?_
        refine g_Model_sizes (pc := 26) C k_id176 Lf_Model_13 d_Model_row_26 ?_
        refine r_iload_n (pc := 29) C 1 d_Model_row_29 rfl rfl ?_
        refine r_iload_n (pc := 30) C 2 d_Model_row_30 rfl rfl ?_
        refine r_iast (pc := 31) C kq_Model_sizes d_Model_row_31 hf (fun hf => ?_)
        refine r_nmD hf (fun D3 hf => ?_)
        refine r_iconst (pc := 32) C (v := 0) d_Model_row_32 (by decide) ?_
        refine r_istore_n (pc := 33) (lv' := [(3, .int 0), (0, .ref (Γ.2.1 176)), (1, .int v1), (2, .int v2)]) C d_Model_row_33 rfl (Nat.le_of_ble_eq_true rfl) rfl ?_
        exact r_lv (pc := 34) C [1, 2, 3, 0] rfl (tl_Model_row_34 C FU v1 v2 0 D3 hf)
      · refine r_aload_n (pc := 19) C 0 d_Model_row_19 rfl rfl ?_
        refine r_iconst (pc := 20) C (v := 5) d_Model_row_20 (by decide) ?_
        refine r_callVi (pc := 21) (As := [.int 5]) (rest := []) C ok_Model_meets Lm_Model_129 k_id176 (by decide) ⟨by decide, by decide⟩ rfl rfl (Nat.le_of_ble_eq_true rfl) d_Model_row_21 hf (fun x D1 hc => c_Model_meets Γ hc) (fun x5 D6 hf => ?_)
        exact r_iret (pc := 24) C d_Model_row_24 hf
    · refine r_iconst (pc := 13) C (v := (-1)) d_Model_row_13 (by decide) ?_
      exact r_iret (pc := 14) C d_Model_row_14 hf
theorem c_Model_row (Γ : GmT) {v1 : Int32} {v2 : Int32} {D : Dt} {rr : Int32} {DD : Dt} (hf : f_Model_row v1 v2 D = some (rr, DD)) : Mt Γ y_Model_row b_Model_row 4 (some .int) 3 [.ref (Γ.2.1 176), .int v1, .int v2] D (some (.int rr)) DD := Mt_of (by decide) (Nat.le_of_ble_eq_true rfl) (fun G C => te_Model_row C hf)
def f_Model_lay (v1 : Int32) (v2 : Int32) (v3 : Int32) (D : Dt) : Option (Int32 × Dt) :=
  bnd (f_Model_isRow v1 D) (fun x1 D2 => (if x1 = 0 then some ((-1), D2) else (if inb v1 6 = true then (if 0 ≤ (D2 178 v1.toNatClampNeg) then (if inb v1 6 = true then bnd (f_Model_in v2 0 ((D2 178 v1.toNatClampNeg) - 1) D2) (fun x3 D4 => (if x3 = 0 then bnd (f_Model_meets 2 D4) (fun x10 D11 => some (x10, D11)) else bnd (f_Model_rowAt v1 v2 D4) (fun x5 D6 => (if inb ((60 * v1) + v2) 360 = true then nm (wr D6 179 ((60 * v1) + v2).toNatClampNeg v3) (fun D7 => bnd (f_Model_tells x5 1 D7) (fun x8 D9 => some (x8, D9))) else none)))) else none) else bnd (f_Model_meets 1 D2) (fun x12 D13 => some (x12, D13))) else none)))
set_option maxHeartbeats 4000000 in
theorem te_Model_lay {Γ : GmT} {G : Dt → Nat → List (Nat × Value) → List Value → Prop} {rr : Int32} {DD : Dt} (C : Cx Γ "RiverTuesdaysModel" b_Model_lay 5 3 (some .int) (some (.int rr)) DD G) {v1 : Int32} {v2 : Int32} {v3 : Int32} {D : Dt} (hf : f_Model_lay v1 v2 v3 D = some (rr, DD)) : G D 0 [(0, .ref (Γ.2.1 176)), (1, .int v1), (2, .int v2), (3, .int v3)] [] := by
  unfold f_Model_lay at hf
  refine r_iload_n (pc := 0) C 1 d_Model_lay_0 rfl rfl ?_
  refine r_callSi (pc := 1) (As := [.int v1]) (rest := []) C ok_Model_isRow Lm_Model_125 ⟨by decide, by decide⟩ rfl rfl (Nat.le_of_ble_eq_true rfl) d_Model_lay_1 hf (fun x D1 hc => c_Model_isRow Γ hc) (fun x1 D2 hf => ?_)
  refine r_if_ne (pc := 4) C (tgt := 9) d_Model_lay_4 (by decide) hf (fun c4 hf => ?_) (fun c4 hf => ?_)
  · refine r_aload_n (pc := 9) C 0 d_Model_lay_9 rfl rfl ?_
    refine g_Model_sizes (pc := 10) C k_id176 Lf_Model_13 d_Model_lay_10 ?_
    refine r_iload_n (pc := 13) C 1 d_Model_lay_13 rfl rfl ?_
    refine r_iald (pc := 14) C kq_Model_sizes d_Model_lay_14 hf (fun hf => ?_)
    refine r_if_ge (pc := 15) C (tgt := 24) d_Model_lay_15 (by decide) hf (fun c15 hf => ?_) (fun c15 hf => ?_)
    · refine r_iload_n (pc := 24) C 2 d_Model_lay_24 rfl rfl ?_
      refine r_iconst (pc := 25) C (v := 0) d_Model_lay_25 (by decide) ?_
      refine r_aload_n (pc := 26) C 0 d_Model_lay_26 rfl rfl ?_
      refine g_Model_sizes (pc := 27) C k_id176 Lf_Model_13 d_Model_lay_27 ?_
      refine r_iload_n (pc := 30) C 1 d_Model_lay_30 rfl rfl ?_
      refine r_iald (pc := 31) C kq_Model_sizes d_Model_lay_31 hf (fun hf => ?_)
      refine r_iconst (pc := 32) C (v := 1) d_Model_lay_32 (by decide) ?_
      refine r_isub (pc := 33) C d_Model_lay_33 ?_
      refine r_callSi (pc := 34) (As := [.int v2, .int 0, .int ((D2 178 v1.toNatClampNeg) - 1)]) (rest := []) C ok_Model_in Lm_Model_118 ⟨by decide, by decide⟩ rfl rfl (Nat.le_of_ble_eq_true rfl) d_Model_lay_34 hf (fun x D1 hc => c_Model_in Γ hc) (fun x3 D4 hf => ?_)
      refine r_if_ne (pc := 37) C (tgt := 46) d_Model_lay_37 (by decide) hf (fun c37 hf => ?_) (fun c37 hf => ?_)
      · refine r_aload_n (pc := 46) C 0 d_Model_lay_46 rfl rfl ?_
        refine r_iload_n (pc := 47) C 1 d_Model_lay_47 rfl rfl ?_
        refine r_iload_n (pc := 48) C 2 d_Model_lay_48 rfl rfl ?_
        refine r_callVi (pc := 49) (As := [.int v1, .int v2]) (rest := []) C ok_Model_rowAt Lm_Model_133 k_id176 (by decide) ⟨by decide, by decide⟩ rfl rfl (Nat.le_of_ble_eq_true rfl) d_Model_lay_49 hf (fun x D1 hc => c_Model_rowAt Γ hc) (fun x5 D6 hf => ?_)
        refine r_istore (pc := 52) (lv' := [(4, .int x5), (0, .ref (Γ.2.1 176)), (1, .int v1), (2, .int v2), (3, .int v3)]) C d_Model_lay_52 (Nat.le_of_ble_eq_true rfl) rfl ?_
        refine r_aload_n (pc := 54) C 1 d_Model_lay_54 rfl rfl ?_
        refine g_Model_rows (pc := 55) C k_id176 Lf_Model_16 d_Model_lay_55 ?_
        refine r_bipush (pc := 58) C (v := 60) d_Model_lay_58 (by decide) ?_
        refine r_iload_n (pc := 60) C 2 d_Model_lay_60 rfl rfl ?_
        refine r_imul (pc := 61) C d_Model_lay_61 ?_
        refine r_iload_n (pc := 62) C 3 d_Model_lay_62 rfl rfl ?_
        refine r_iadd (pc := 63) C d_Model_lay_63 ?_
        refine r_iload_n (pc := 64) C 4 d_Model_lay_64 rfl rfl ?_
        refine r_iast (pc := 65) C kq_Model_rows d_Model_lay_65 hf (fun hf => ?_)
        refine r_nmD hf (fun D7 hf => ?_)
        refine r_aload_n (pc := 66) C 1 d_Model_lay_66 rfl rfl ?_
        refine r_iload (pc := 67) C 0 d_Model_lay_67 rfl ?_
        refine r_iconst (pc := 69) C (v := 1) d_Model_lay_69 (by decide) ?_
        refine r_callVi (pc := 70) (As := [.int x5, .int 1]) (rest := []) C ok_Model_tells Lm_Model_137 k_id176 (by decide) ⟨by decide, by decide⟩ rfl rfl (Nat.le_of_ble_eq_true rfl) d_Model_lay_70 hf (fun x D1 hc => c_Model_tells Γ hc) (fun x8 D9 hf => ?_)
        exact r_iret (pc := 73) C d_Model_lay_73 hf
      · refine r_aload_n (pc := 40) C 0 d_Model_lay_40 rfl rfl ?_
        refine r_iconst (pc := 41) C (v := 2) d_Model_lay_41 (by decide) ?_
        refine r_callVi (pc := 42) (As := [.int 2]) (rest := []) C ok_Model_meets Lm_Model_129 k_id176 (by decide) ⟨by decide, by decide⟩ rfl rfl (Nat.le_of_ble_eq_true rfl) d_Model_lay_42 hf (fun x D1 hc => c_Model_meets Γ hc) (fun x10 D11 hf => ?_)
        exact r_iret (pc := 45) C d_Model_lay_45 hf
    · refine r_aload_n (pc := 18) C 0 d_Model_lay_18 rfl rfl ?_
      refine r_iconst (pc := 19) C (v := 1) d_Model_lay_19 (by decide) ?_
      refine r_callVi (pc := 20) (As := [.int 1]) (rest := []) C ok_Model_meets Lm_Model_129 k_id176 (by decide) ⟨by decide, by decide⟩ rfl rfl (Nat.le_of_ble_eq_true rfl) d_Model_lay_20 hf (fun x D1 hc => c_Model_meets Γ hc) (fun x12 D13 hf => ?_)
      exact r_iret (pc := 23) C d_Model_lay_23 hf
  · refine r_iconst (pc := 7) C (v := (-1)) d_Model_lay_7 (by decide) ?_
    exact r_iret (pc := 8) C d_Model_lay_8 hf
theorem c_Model_lay (Γ : GmT) {v1 : Int32} {v2 : Int32} {v3 : Int32} {D : Dt} {rr : Int32} {DD : Dt} (hf : f_Model_lay v1 v2 v3 D = some (rr, DD)) : Mt Γ y_Model_lay b_Model_lay 5 (some .int) 3 [.ref (Γ.2.1 176), .int v1, .int v2, .int v3] D (some (.int rr)) DD := Mt_of (by decide) (Nat.le_of_ble_eq_true rfl) (fun G C => te_Model_lay C hf)
def f_Model_at (v1 : Int32) (v2 : Int32) (D : Dt) : Option (Int32 × Dt) :=
  bnd (f_Model_isRow v1 D) (fun x1 D2 => (if x1 = 0 then some ((-1), D2) else (if inb v1 6 = true then (if 0 ≤ (D2 178 v1.toNatClampNeg) then (if inb v1 6 = true then bnd (f_Model_in v2 0 ((D2 178 v1.toNatClampNeg) - 1) D2) (fun x3 D4 => (if x3 = 0 then bnd (f_Model_meets 2 D4) (fun x5 D6 => some (x5, D6)) else bnd (f_Model_rowAt v1 v2 D4) (fun x7 D8 => bnd (f_Model_tells x7 1 D8) (fun x9 D10 => some (x9, D10))))) else none) else bnd (f_Model_meets 1 D2) (fun x11 D12 => some (x11, D12))) else none)))
set_option maxHeartbeats 4000000 in
theorem te_Model_at {Γ : GmT} {G : Dt → Nat → List (Nat × Value) → List Value → Prop} {rr : Int32} {DD : Dt} (C : Cx Γ "RiverTuesdaysModel" b_Model_at 3 3 (some .int) (some (.int rr)) DD G) {v1 : Int32} {v2 : Int32} {D : Dt} (hf : f_Model_at v1 v2 D = some (rr, DD)) : G D 0 [(0, .ref (Γ.2.1 176)), (1, .int v1), (2, .int v2)] [] := by
  unfold f_Model_at at hf
  refine r_iload_n (pc := 0) C 1 d_Model_at_0 rfl rfl ?_
  refine r_callSi (pc := 1) (As := [.int v1]) (rest := []) C ok_Model_isRow Lm_Model_125 ⟨by decide, by decide⟩ rfl rfl (Nat.le_of_ble_eq_true rfl) d_Model_at_1 hf (fun x D1 hc => c_Model_isRow Γ hc) (fun x1 D2 hf => ?_)
  refine r_if_ne (pc := 4) C (tgt := 9) d_Model_at_4 (by decide) hf (fun c4 hf => ?_) (fun c4 hf => ?_)
  · refine r_aload_n (pc := 9) C 0 d_Model_at_9 rfl rfl ?_
    refine g_Model_sizes (pc := 10) C k_id176 Lf_Model_13 d_Model_at_10 ?_
    refine r_iload_n (pc := 13) C 1 d_Model_at_13 rfl rfl ?_
    refine r_iald (pc := 14) C kq_Model_sizes d_Model_at_14 hf (fun hf => ?_)
    refine r_if_ge (pc := 15) C (tgt := 24) d_Model_at_15 (by decide) hf (fun c15 hf => ?_) (fun c15 hf => ?_)
    · refine r_iload_n (pc := 24) C 2 d_Model_at_24 rfl rfl ?_
      refine r_iconst (pc := 25) C (v := 0) d_Model_at_25 (by decide) ?_
      refine r_aload_n (pc := 26) C 0 d_Model_at_26 rfl rfl ?_
      refine g_Model_sizes (pc := 27) C k_id176 Lf_Model_13 d_Model_at_27 ?_
      refine r_iload_n (pc := 30) C 1 d_Model_at_30 rfl rfl ?_
      refine r_iald (pc := 31) C kq_Model_sizes d_Model_at_31 hf (fun hf => ?_)
      refine r_iconst (pc := 32) C (v := 1) d_Model_at_32 (by decide) ?_
      refine r_isub (pc := 33) C d_Model_at_33 ?_
      refine r_callSi (pc := 34) (As := [.int v2, .int 0, .int ((D2 178 v1.toNatClampNeg) - 1)]) (rest := []) C ok_Model_in Lm_Model_118 ⟨by decide, by decide⟩ rfl rfl (Nat.le_of_ble_eq_true rfl) d_Model_at_34 hf (fun x D1 hc => c_Model_in Γ hc) (fun x3 D4 hf => ?_)
      refine r_if_eq (pc := 37) C (tgt := 54) d_Model_at_37 (by decide) hf (fun c37 hf => ?_) (fun c37 hf => ?_)
      · refine r_aload_n (pc := 54) C 0 d_Model_at_54 rfl rfl ?_
        refine r_iconst (pc := 55) C (v := 2) d_Model_at_55 (by decide) ?_
        refine r_callVi (pc := 56) (As := [.int 2]) (rest := []) C ok_Model_meets Lm_Model_129 k_id176 (by decide) ⟨by decide, by decide⟩ rfl rfl (Nat.le_of_ble_eq_true rfl) d_Model_at_56 hf (fun x D1 hc => c_Model_meets Γ hc) (fun x5 D6 hf => ?_)
        exact r_iret (pc := 59) C d_Model_at_59 hf
      · refine r_aload_n (pc := 40) C 0 d_Model_at_40 rfl rfl ?_
        refine r_aload_n (pc := 41) C 0 d_Model_at_41 rfl rfl ?_
        refine r_iload_n (pc := 42) C 1 d_Model_at_42 rfl rfl ?_
        refine r_iload_n (pc := 43) C 2 d_Model_at_43 rfl rfl ?_
        refine r_callVi (pc := 44) (As := [.int v1, .int v2]) (rest := [.ref (Γ.2.1 176)]) C ok_Model_rowAt Lm_Model_133 k_id176 (by decide) ⟨by decide, by decide⟩ rfl rfl (Nat.le_of_ble_eq_true rfl) d_Model_at_44 hf (fun x D1 hc => c_Model_rowAt Γ hc) (fun x7 D8 hf => ?_)
        refine r_iconst (pc := 47) C (v := 1) d_Model_at_47 (by decide) ?_
        refine r_callVi (pc := 48) (As := [.int x7, .int 1]) (rest := []) C ok_Model_tells Lm_Model_137 k_id176 (by decide) ⟨by decide, by decide⟩ rfl rfl (Nat.le_of_ble_eq_true rfl) d_Model_at_48 hf (fun x D1 hc => c_Model_tells Γ hc) (fun x9 D10 hf => ?_)
        refine r_goto (pc := 51) C (tgt := 59) d_Model_at_51 (by decide) ?_
        exact r_iret (pc := 59) C d_Model_at_59 hf
    · refine r_aload_n (pc := 18) C 0 d_Model_at_18 rfl rfl ?_
      refine r_iconst (pc := 19) C (v := 1) d_Model_at_19 (by decide) ?_
      refine r_callVi (pc := 20) (As := [.int 1]) (rest := []) C ok_Model_meets Lm_Model_129 k_id176 (by decide) ⟨by decide, by decide⟩ rfl rfl (Nat.le_of_ble_eq_true rfl) d_Model_at_20 hf (fun x D1 hc => c_Model_meets Γ hc) (fun x11 D12 hf => ?_)
      exact r_iret (pc := 23) C d_Model_at_23 hf
  · refine r_iconst (pc := 7) C (v := (-1)) d_Model_at_7 (by decide) ?_
    exact r_iret (pc := 8) C d_Model_at_8 hf
theorem c_Model_at (Γ : GmT) {v1 : Int32} {v2 : Int32} {D : Dt} {rr : Int32} {DD : Dt} (hf : f_Model_at v1 v2 D = some (rr, DD)) : Mt Γ y_Model_at b_Model_at 3 (some .int) 3 [.ref (Γ.2.1 176), .int v1, .int v2] D (some (.int rr)) DD := Mt_of (by decide) (Nat.le_of_ble_eq_true rfl) (fun G C => te_Model_at C hf)
def f_Model_tear (v1 : Int32) (D : Dt) : Option (Int32 × Dt) :=
  bnd (f_Model_isRow v1 D) (fun x1 D2 => (if x1 = 0 then some ((-1), D2) else (if inb v1 6 = true then (if 0 ≤ (D2 178 v1.toNatClampNeg) then (if inb v1 6 = true then nm (wr D2 178 v1.toNatClampNeg (-1)) (fun D3 => some (1, D3)) else none) else bnd (f_Model_meets 1 D2) (fun x4 D5 => some (x4, D5))) else none)))
set_option maxHeartbeats 4000000 in
theorem te_Model_tear {Γ : GmT} {G : Dt → Nat → List (Nat × Value) → List Value → Prop} {rr : Int32} {DD : Dt} (C : Cx Γ "RiverTuesdaysModel" b_Model_tear 2 3 (some .int) (some (.int rr)) DD G) {v1 : Int32} {D : Dt} (hf : f_Model_tear v1 D = some (rr, DD)) : G D 0 [(0, .ref (Γ.2.1 176)), (1, .int v1)] [] := by
  unfold f_Model_tear at hf
  refine r_iload_n (pc := 0) C 1 d_Model_tear_0 rfl rfl ?_
  refine r_callSi (pc := 1) (As := [.int v1]) (rest := []) C ok_Model_isRow Lm_Model_125 ⟨by decide, by decide⟩ rfl rfl (Nat.le_of_ble_eq_true rfl) d_Model_tear_1 hf (fun x D1 hc => c_Model_isRow Γ hc) (fun x1 D2 hf => ?_)
  refine r_if_ne (pc := 4) C (tgt := 9) d_Model_tear_4 (by decide) hf (fun c4 hf => ?_) (fun c4 hf => ?_)
  · refine r_aload_n (pc := 9) C 0 d_Model_tear_9 rfl rfl ?_
    refine g_Model_sizes (pc := 10) C k_id176 Lf_Model_13 d_Model_tear_10 ?_
    refine r_iload_n (pc := 13) C 1 d_Model_tear_13 rfl rfl ?_
    refine r_iald (pc := 14) C kq_Model_sizes d_Model_tear_14 hf (fun hf => ?_)
    refine r_if_ge (pc := 15) C (tgt := 24) d_Model_tear_15 (by decide) hf (fun c15 hf => ?_) (fun c15 hf => ?_)
    · refine r_aload_n (pc := 24) C 0 d_Model_tear_24 rfl rfl ?_
      refine g_Model_sizes (pc := 25) C k_id176 Lf_Model_13 d_Model_tear_25 ?_
      refine r_iload_n (pc := 28) C 1 d_Model_tear_28 rfl rfl ?_
      refine r_iconst (pc := 29) C (v := (-1)) d_Model_tear_29 (by decide) ?_
      refine r_iast (pc := 30) C kq_Model_sizes d_Model_tear_30 hf (fun hf => ?_)
      refine r_nmD hf (fun D3 hf => ?_)
      refine r_iconst (pc := 31) C (v := 1) d_Model_tear_31 (by decide) ?_
      exact r_iret (pc := 32) C d_Model_tear_32 hf
    · refine r_aload_n (pc := 18) C 0 d_Model_tear_18 rfl rfl ?_
      refine r_iconst (pc := 19) C (v := 1) d_Model_tear_19 (by decide) ?_
      refine r_callVi (pc := 20) (As := [.int 1]) (rest := []) C ok_Model_meets Lm_Model_129 k_id176 (by decide) ⟨by decide, by decide⟩ rfl rfl (Nat.le_of_ble_eq_true rfl) d_Model_tear_20 hf (fun x D1 hc => c_Model_meets Γ hc) (fun x4 D5 hf => ?_)
      exact r_iret (pc := 23) C d_Model_tear_23 hf
  · refine r_iconst (pc := 7) C (v := (-1)) d_Model_tear_7 (by decide) ?_
    exact r_iret (pc := 8) C d_Model_tear_8 hf
theorem c_Model_tear (Γ : GmT) {v1 : Int32} {D : Dt} {rr : Int32} {DD : Dt} (hf : f_Model_tear v1 D = some (rr, DD)) : Mt Γ y_Model_tear b_Model_tear 2 (some .int) 3 [.ref (Γ.2.1 176), .int v1] D (some (.int rr)) DD := Mt_of (by decide) (Nat.le_of_ble_eq_true rfl) (fun G C => te_Model_tear C hf)
def b_Model_copy_45 (D : Dt) : Option (Int32 × Dt) :=
  bnd (f_Model_meets 1 D) (fun x5 D6 => some (x5, D6))
set_option maxHeartbeats 4000000 in
theorem tb_Model_copy_45 {Γ : GmT} {G : Dt → Nat → List (Nat × Value) → List Value → Prop} {rr : Int32} {DD : Dt} (C : Cx Γ "RiverTuesdaysModel" b_Model_copy 7 3 (some .int) (some (.int rr)) DD G) {D : Dt} (hf : b_Model_copy_45 D = some (rr, DD)) : G D 45 [(0, .ref (Γ.2.1 176))] [] := by
  unfold b_Model_copy_45 at hf
  refine r_aload_n (pc := 45) C 0 d_Model_copy_45 rfl rfl ?_
  refine r_iconst (pc := 46) C (v := 1) d_Model_copy_46 (by decide) ?_
  refine r_callVi (pc := 47) (As := [.int 1]) (rest := []) C ok_Model_meets Lm_Model_129 k_id176 (by decide) ⟨by decide, by decide⟩ rfl rfl (Nat.le_of_ble_eq_true rfl) d_Model_copy_47 hf (fun x D1 hc => c_Model_meets Γ hc) (fun x5 D6 hf => ?_)
  exact r_iret (pc := 50) C d_Model_copy_50 hf
def b_Model_copy_95 (D : Dt) : Option (Int32 × Dt) :=
  bnd (f_Model_meets 2 D) (fun x7 D8 => some (x7, D8))
set_option maxHeartbeats 4000000 in
theorem tb_Model_copy_95 {Γ : GmT} {G : Dt → Nat → List (Nat × Value) → List Value → Prop} {rr : Int32} {DD : Dt} (C : Cx Γ "RiverTuesdaysModel" b_Model_copy 7 3 (some .int) (some (.int rr)) DD G) {D : Dt} (hf : b_Model_copy_95 D = some (rr, DD)) : G D 95 [(0, .ref (Γ.2.1 176))] [] := by
  unfold b_Model_copy_95 at hf
  refine r_aload_n (pc := 95) C 0 d_Model_copy_95 rfl rfl ?_
  refine r_iconst (pc := 96) C (v := 2) d_Model_copy_96 (by decide) ?_
  refine r_callVi (pc := 97) (As := [.int 2]) (rest := []) C ok_Model_meets Lm_Model_129 k_id176 (by decide) ⟨by decide, by decide⟩ rfl rfl (Nat.le_of_ble_eq_true rfl) d_Model_copy_97 hf (fun x D1 hc => c_Model_meets Γ hc) (fun x7 D8 hf => ?_)
  exact r_iret (pc := 100) C d_Model_copy_100 hf
def s_Model_copy_136 (k136 : Int32 → Int32 → Int32 → Int32 → Dt → Option (Int32 × Dt)) (v3 : Int32) (v4 : Int32) (v5 : Int32) (v6 : Int32) (D : Dt) : Option (Int32 × Dt) :=
  (if v5 ≤ v6 then some (1, D) else (if inb v6 60 = true then (if inb (((60 * v3) + v4) + v6) 360 = true then nm (wr D 179 (((60 * v3) + v4) + v6).toNatClampNeg (D 180 v6.toNatClampNeg)) (fun D9 => k136 v3 v4 v5 (v6 + 1) D9) else none) else none))
def lp_Model_copy_136 (n : Nat) : Int32 → Int32 → Int32 → Int32 → Dt → Option (Int32 × Dt) := itr (fun _ _ _ _ _ => none) (s_Model_copy_136) n
set_option maxHeartbeats 4000000 in
theorem ts_Model_copy_136 {Γ : GmT} {G : Dt → Nat → List (Nat × Value) → List Value → Prop} {rr : Int32} {DD : Dt} (C : Cx Γ "RiverTuesdaysModel" b_Model_copy 7 3 (some .int) (some (.int rr)) DD G) {k136 : Int32 → Int32 → Int32 → Int32 → Dt → Option (Int32 × Dt)} (hk136 : ∀ (v3 : Int32) (v4 : Int32) (v5 : Int32) (v6 : Int32) (D : Dt), k136 v3 v4 v5 v6 D = some (rr, DD) → G D 136 [(0, .ref (Γ.2.1 176)), (3, .int v3), (4, .int v4), (5, .int v5), (6, .int v6)] []) {v3 : Int32} {v4 : Int32} {v5 : Int32} {v6 : Int32} {D : Dt} (hf : s_Model_copy_136 k136 v3 v4 v5 v6 D = some (rr, DD)) : G D 136 [(0, .ref (Γ.2.1 176)), (3, .int v3), (4, .int v4), (5, .int v5), (6, .int v6)] [] := by
  unfold s_Model_copy_136 at hf
  refine r_iload (pc := 136) C 4 d_Model_copy_136 rfl ?_
  refine r_iload (pc := 138) C 3 d_Model_copy_138 rfl ?_
  refine r_icmp_ge (pc := 140) C (tgt := 171) d_Model_copy_140 (by decide) hf (fun c140 hf => ?_) (fun c140 hf => ?_)
  · refine r_iconst (pc := 171) C (v := 1) d_Model_copy_171 (by decide) ?_
    exact r_iret (pc := 172) C d_Model_copy_172 hf
  · refine r_aload_n (pc := 143) C 0 d_Model_copy_143 rfl rfl ?_
    refine g_Model_rows (pc := 144) C k_id176 Lf_Model_16 d_Model_copy_144 ?_
    refine r_bipush (pc := 147) C (v := 60) d_Model_copy_147 (by decide) ?_
    refine r_iload_n (pc := 149) C 1 d_Model_copy_149 rfl rfl ?_
    refine r_imul (pc := 150) C d_Model_copy_150 ?_
    refine r_iload (pc := 151) C 2 d_Model_copy_151 rfl ?_
    refine r_iadd (pc := 153) C d_Model_copy_153 ?_
    refine r_iload (pc := 154) C 4 d_Model_copy_154 rfl ?_
    refine r_iadd (pc := 156) C d_Model_copy_156 ?_
    refine r_aload_n (pc := 157) C 0 d_Model_copy_157 rfl rfl ?_
    refine g_Model_copied (pc := 158) C k_id176 Lf_Model_19 d_Model_copy_158 ?_
    refine r_iload (pc := 161) C 4 d_Model_copy_161 rfl ?_
    refine r_iald (pc := 163) C kq_Model_copied d_Model_copy_163 hf (fun hf => ?_)
    refine r_iast (pc := 164) C kq_Model_rows d_Model_copy_164 hf (fun hf => ?_)
    refine r_nmD hf (fun D9 hf => ?_)
    refine r_iinc (pc := 165) C (v := v6 + 1) (lv' := [(6, .int (v6 + 1)), (0, .ref (Γ.2.1 176)), (3, .int v3), (4, .int v4), (5, .int v5)]) 4 d_Model_copy_165 rfl rfl (Nat.le_of_ble_eq_true rfl) rfl ?_
    refine r_goto (pc := 168) C (tgt := 136) d_Model_copy_168 (by decide) ?_
    exact r_lv (pc := 136) C [1, 2, 3, 4, 0] rfl (hk136 v3 v4 v5 (v6 + 1) D9 hf)
theorem tl_Model_copy_136 {Γ : GmT} {G : Dt → Nat → List (Nat × Value) → List Value → Prop} {rr : Int32} {DD : Dt} (C : Cx Γ "RiverTuesdaysModel" b_Model_copy 7 3 (some .int) (some (.int rr)) DD G) : ∀ (n : Nat) (v3 : Int32) (v4 : Int32) (v5 : Int32) (v6 : Int32) (D : Dt), lp_Model_copy_136 n v3 v4 v5 v6 D = some (rr, DD) → G D 136 [(0, .ref (Γ.2.1 176)), (3, .int v3), (4, .int v4), (5, .int v5), (6, .int v6)] [] := by
  intro n
  induction n with
  | zero =>
    intro v3 v4 v5 v6 D hf
    exact absurd (show (none : Option (Int32 × Dt)) = some (rr, DD) from hf) (by simp)
  | succ n ih =>
    intro v3 v4 v5 v6 D hf
    exact ts_Model_copy_136 C (k136 := lp_Model_copy_136 n) ih hf
def s_Model_copy_104 (k104 : Int32 → Int32 → Int32 → Int32 → Int32 → Int32 → Dt → Option (Int32 × Dt)) (v1 : Int32) (v2 : Int32) (v3 : Int32) (v4 : Int32) (v5 : Int32) (v6 : Int32) (D : Dt) : Option (Int32 × Dt) :=
  (if v5 ≤ v6 then lp_Model_copy_136 FU v3 v4 v5 0 D else bnd (f_Model_rowAt v1 (v2 + v6) D) (fun x10 D11 => (if inb v6 60 = true then nm (wr D11 180 v6.toNatClampNeg x10) (fun D12 => k104 v1 v2 v3 v4 v5 (v6 + 1) D12) else none)))
def lp_Model_copy_104 (n : Nat) : Int32 → Int32 → Int32 → Int32 → Int32 → Int32 → Dt → Option (Int32 × Dt) := itr (fun _ _ _ _ _ _ _ => none) (s_Model_copy_104) n
set_option maxHeartbeats 4000000 in
theorem ts_Model_copy_104 {Γ : GmT} {G : Dt → Nat → List (Nat × Value) → List Value → Prop} {rr : Int32} {DD : Dt} (C : Cx Γ "RiverTuesdaysModel" b_Model_copy 7 3 (some .int) (some (.int rr)) DD G) {k104 : Int32 → Int32 → Int32 → Int32 → Int32 → Int32 → Dt → Option (Int32 × Dt)} (hk104 : ∀ (v1 : Int32) (v2 : Int32) (v3 : Int32) (v4 : Int32) (v5 : Int32) (v6 : Int32) (D : Dt), k104 v1 v2 v3 v4 v5 v6 D = some (rr, DD) → G D 104 [(0, .ref (Γ.2.1 176)), (1, .int v1), (2, .int v2), (3, .int v3), (4, .int v4), (5, .int v5), (6, .int v6)] []) {v1 : Int32} {v2 : Int32} {v3 : Int32} {v4 : Int32} {v5 : Int32} {v6 : Int32} {D : Dt} (hf : s_Model_copy_104 k104 v1 v2 v3 v4 v5 v6 D = some (rr, DD)) : G D 104 [(0, .ref (Γ.2.1 176)), (1, .int v1), (2, .int v2), (3, .int v3), (4, .int v4), (5, .int v5), (6, .int v6)] [] := by
  unfold s_Model_copy_104 at hf
  refine r_iload (pc := 104) C 6 d_Model_copy_104 rfl ?_
  refine r_iload (pc := 106) C 5 d_Model_copy_106 rfl ?_
  refine r_icmp_ge (pc := 108) C (tgt := 133) d_Model_copy_108 (by decide) hf (fun c108 hf => ?_) (fun c108 hf => ?_)
  · refine r_iconst (pc := 133) C (v := 0) d_Model_copy_133 (by decide) ?_
    refine r_istore (pc := 134) (lv' := [(6, .int 0), (0, .ref (Γ.2.1 176)), (1, .int v1), (2, .int v2), (3, .int v3), (4, .int v4), (5, .int v5)]) C d_Model_copy_134 (Nat.le_of_ble_eq_true rfl) rfl ?_
    exact r_lv (pc := 136) C [1, 4, 5, 6, 0] rfl (tl_Model_copy_136 C FU v3 v4 v5 0 D hf)
  · refine r_aload_n (pc := 111) C 0 d_Model_copy_111 rfl rfl ?_
    refine g_Model_copied (pc := 112) C k_id176 Lf_Model_19 d_Model_copy_112 ?_
    refine r_iload (pc := 115) C 6 d_Model_copy_115 rfl ?_
    refine r_aload_n (pc := 117) C 0 d_Model_copy_117 rfl rfl ?_
    refine r_iload_n (pc := 118) C 1 d_Model_copy_118 rfl rfl ?_
    refine r_iload_n (pc := 119) C 2 d_Model_copy_119 rfl rfl ?_
    refine r_iload (pc := 120) C 6 d_Model_copy_120 rfl ?_
    refine r_iadd (pc := 122) C d_Model_copy_122 ?_
    refine r_callVi (pc := 123) (As := [.int v1, .int (v2 + v6)]) (rest := [.int v6, .ref (Γ.2.1 180)]) C ok_Model_rowAt Lm_Model_133 k_id176 (by decide) ⟨by decide, by decide⟩ rfl rfl (Nat.le_of_ble_eq_true rfl) d_Model_copy_123 hf (fun x D1 hc => c_Model_rowAt Γ hc) (fun x10 D11 hf => ?_)
    refine r_iast (pc := 126) C kq_Model_copied d_Model_copy_126 hf (fun hf => ?_)
    refine r_nmD hf (fun D12 hf => ?_)
    refine r_iinc (pc := 127) C (v := v6 + 1) (lv' := [(6, .int (v6 + 1)), (0, .ref (Γ.2.1 176)), (1, .int v1), (2, .int v2), (3, .int v3), (4, .int v4), (5, .int v5)]) 6 d_Model_copy_127 rfl rfl (Nat.le_of_ble_eq_true rfl) rfl ?_
    refine r_goto (pc := 130) C (tgt := 104) d_Model_copy_130 (by decide) ?_
    exact r_lv (pc := 104) C [1, 2, 3, 4, 5, 6, 0] rfl (hk104 v1 v2 v3 v4 v5 (v6 + 1) D12 hf)
theorem tl_Model_copy_104 {Γ : GmT} {G : Dt → Nat → List (Nat × Value) → List Value → Prop} {rr : Int32} {DD : Dt} (C : Cx Γ "RiverTuesdaysModel" b_Model_copy 7 3 (some .int) (some (.int rr)) DD G) : ∀ (n : Nat) (v1 : Int32) (v2 : Int32) (v3 : Int32) (v4 : Int32) (v5 : Int32) (v6 : Int32) (D : Dt), lp_Model_copy_104 n v1 v2 v3 v4 v5 v6 D = some (rr, DD) → G D 104 [(0, .ref (Γ.2.1 176)), (1, .int v1), (2, .int v2), (3, .int v3), (4, .int v4), (5, .int v5), (6, .int v6)] [] := by
  intro n
  induction n with
  | zero =>
    intro v1 v2 v3 v4 v5 v6 D hf
    exact absurd (show (none : Option (Int32 × Dt)) = some (rr, DD) from hf) (by simp)
  | succ n ih =>
    intro v1 v2 v3 v4 v5 v6 D hf
    exact ts_Model_copy_104 C (k104 := lp_Model_copy_104 n) ih hf
def f_Model_copy (v1 : Int32) (v2 : Int32) (v3 : Int32) (v4 : Int32) (v5 : Int32) (D : Dt) : Option (Int32 × Dt) :=
  bnd (f_Model_isRow v1 D) (fun x1 D2 => (if x1 = 0 then some ((-1), D2) else bnd (f_Model_isRow v3 D2) (fun x3 D4 => (if x3 = 0 then some ((-1), D4) else (if 0 ≤ v5 then (if inb v1 6 = true then (if (D4 178 v1.toNatClampNeg) < 0 then b_Model_copy_45 D4 else (if inb v3 6 = true then (if 0 ≤ (D4 178 v3.toNatClampNeg) then (if v2 < 0 then b_Model_copy_95 D4 else (if v4 < 0 then b_Model_copy_95 D4 else (if inb v1 6 = true then (if 0 < (lg_cmp ((v2.toInt64) + (v5.toInt64)) ((D4 178 v1.toNatClampNeg).toInt64)) then b_Model_copy_95 D4 else (if inb v3 6 = true then (if (lg_cmp ((v4.toInt64) + (v5.toInt64)) ((D4 178 v3.toNatClampNeg).toInt64)) ≤ 0 then lp_Model_copy_104 FU v1 v2 v3 v4 v5 0 D4 else b_Model_copy_95 D4) else none)) else none))) else b_Model_copy_45 D4) else none)) else none) else bnd (f_Model_meets 5 D4) (fun x13 D14 => some (x13, D14)))))))
set_option maxHeartbeats 4000000 in
theorem te_Model_copy {Γ : GmT} {G : Dt → Nat → List (Nat × Value) → List Value → Prop} {rr : Int32} {DD : Dt} (C : Cx Γ "RiverTuesdaysModel" b_Model_copy 7 3 (some .int) (some (.int rr)) DD G) {v1 : Int32} {v2 : Int32} {v3 : Int32} {v4 : Int32} {v5 : Int32} {D : Dt} (hf : f_Model_copy v1 v2 v3 v4 v5 D = some (rr, DD)) : G D 0 [(0, .ref (Γ.2.1 176)), (1, .int v1), (2, .int v2), (3, .int v3), (4, .int v4), (5, .int v5)] [] := by
  unfold f_Model_copy at hf
  refine r_iload_n (pc := 0) C 1 d_Model_copy_0 rfl rfl ?_
  refine r_callSi (pc := 1) (As := [.int v1]) (rest := []) C ok_Model_isRow Lm_Model_125 ⟨by decide, by decide⟩ rfl rfl (Nat.le_of_ble_eq_true rfl) d_Model_copy_1 hf (fun x D1 hc => c_Model_isRow Γ hc) (fun x1 D2 hf => ?_)
  refine r_if_eq (pc := 4) C (tgt := 14) d_Model_copy_4 (by decide) hf (fun c4 hf => ?_) (fun c4 hf => ?_)
  · refine r_iconst (pc := 14) C (v := (-1)) d_Model_copy_14 (by decide) ?_
    exact r_iret (pc := 15) C d_Model_copy_15 hf
  · refine r_iload_n (pc := 7) C 3 d_Model_copy_7 rfl rfl ?_
    refine r_callSi (pc := 8) (As := [.int v3]) (rest := []) C ok_Model_isRow Lm_Model_125 ⟨by decide, by decide⟩ rfl rfl (Nat.le_of_ble_eq_true rfl) d_Model_copy_8 hf (fun x D1 hc => c_Model_isRow Γ hc) (fun x3 D4 hf => ?_)
    refine r_if_ne (pc := 11) C (tgt := 16) d_Model_copy_11 (by decide) hf (fun c11 hf => ?_) (fun c11 hf => ?_)
    · refine r_iload (pc := 16) C 5 d_Model_copy_16 rfl ?_
      refine r_if_ge (pc := 18) C (tgt := 27) d_Model_copy_18 (by decide) hf (fun c18 hf => ?_) (fun c18 hf => ?_)
      · refine r_aload_n (pc := 27) C 0 d_Model_copy_27 rfl rfl ?_
        refine g_Model_sizes (pc := 28) C k_id176 Lf_Model_13 d_Model_copy_28 ?_
        refine r_iload_n (pc := 31) C 1 d_Model_copy_31 rfl rfl ?_
        refine r_iald (pc := 32) C kq_Model_sizes d_Model_copy_32 hf (fun hf => ?_)
        refine r_if_lt (pc := 33) C (tgt := 45) d_Model_copy_33 (by decide) hf (fun c33 hf => ?_) (fun c33 hf => ?_)
        · exact r_lv (pc := 45) C [0] rfl (tb_Model_copy_45 C hf)
        · refine r_aload_n (pc := 36) C 0 d_Model_copy_36 rfl rfl ?_
          refine g_Model_sizes (pc := 37) C k_id176 Lf_Model_13 d_Model_copy_37 ?_
          refine r_iload_n (pc := 40) C 3 d_Model_copy_40 rfl rfl ?_
          refine r_iald (pc := 41) C kq_Model_sizes d_Model_copy_41 hf (fun hf => ?_)
          refine r_if_ge (pc := 42) C (tgt := 51) d_Model_copy_42 (by decide) hf (fun c42 hf => ?_) (fun c42 hf => ?_)
          · refine r_iload_n (pc := 51) C 2 d_Model_copy_51 rfl rfl ?_
            refine r_if_lt (pc := 52) C (tgt := 95) d_Model_copy_52 (by decide) hf (fun c52 hf => ?_) (fun c52 hf => ?_)
            · exact r_lv (pc := 95) C [0] rfl (tb_Model_copy_95 C hf)
            · refine r_iload (pc := 55) C 4 d_Model_copy_55 rfl ?_
              refine r_if_lt (pc := 57) C (tgt := 95) d_Model_copy_57 (by decide) hf (fun c57 hf => ?_) (fun c57 hf => ?_)
              · exact r_lv (pc := 95) C [0] rfl (tb_Model_copy_95 C hf)
              · refine r_iload_n (pc := 60) C 2 d_Model_copy_60 rfl rfl ?_
                refine r_i2l (pc := 61) C d_Model_copy_61 ?_
                refine r_iload (pc := 62) C 5 d_Model_copy_62 rfl ?_
                refine r_i2l (pc := 64) C d_Model_copy_64 ?_
                refine r_ladd (pc := 65) C d_Model_copy_65 ?_
                refine r_aload_n (pc := 66) C 0 d_Model_copy_66 rfl rfl ?_
                refine g_Model_sizes (pc := 67) C k_id176 Lf_Model_13 d_Model_copy_67 ?_
                refine r_iload_n (pc := 70) C 1 d_Model_copy_70 rfl rfl ?_
                refine r_iald (pc := 71) C kq_Model_sizes d_Model_copy_71 hf (fun hf => ?_)
                refine r_i2l (pc := 72) C d_Model_copy_72 ?_
                refine r_lcmp (pc := 73) C d_Model_copy_73 ?_
                refine r_if_gt (pc := 74) C (tgt := 95) d_Model_copy_74 (by decide) hf (fun c74 hf => ?_) (fun c74 hf => ?_)
                · exact r_lv (pc := 95) C [0] rfl (tb_Model_copy_95 C hf)
                · refine r_iload (pc := 77) C 4 d_Model_copy_77 rfl ?_
                  refine r_i2l (pc := 79) C d_Model_copy_79 ?_
                  refine r_iload (pc := 80) C 5 d_Model_copy_80 rfl ?_
                  refine r_i2l (pc := 82) C d_Model_copy_82 ?_
                  refine r_ladd (pc := 83) C d_Model_copy_83 ?_
                  refine r_aload_n (pc := 84) C 0 d_Model_copy_84 rfl rfl ?_
                  refine g_Model_sizes (pc := 85) C k_id176 Lf_Model_13 d_Model_copy_85 ?_
                  refine r_iload_n (pc := 88) C 3 d_Model_copy_88 rfl rfl ?_
                  refine r_iald (pc := 89) C kq_Model_sizes d_Model_copy_89 hf (fun hf => ?_)
                  refine r_i2l (pc := 90) C d_Model_copy_90 ?_
                  refine r_lcmp (pc := 91) C d_Model_copy_91 ?_
                  refine r_if_le (pc := 92) C (tgt := 101) d_Model_copy_92 (by decide) hf (fun c92 hf => ?_) (fun c92 hf => ?_)
                  · refine r_iconst (pc := 101) C (v := 0) d_Model_copy_101 (by decide) ?_
                    refine r_istore (pc := 102) (lv' := [(6, .int 0), (0, .ref (Γ.2.1 176)), (1, .int v1), (2, .int v2), (3, .int v3), (4, .int v4), (5, .int v5)]) C d_Model_copy_102 (Nat.le_of_ble_eq_true rfl) rfl ?_
                    exact r_lv (pc := 104) C [1, 2, 3, 4, 5, 6, 0] rfl (tl_Model_copy_104 C FU v1 v2 v3 v4 v5 0 D4 hf)
                  · exact r_lv (pc := 95) C [0] rfl (tb_Model_copy_95 C hf)
          · exact r_lv (pc := 45) C [0] rfl (tb_Model_copy_45 C hf)
      · refine r_aload_n (pc := 21) C 0 d_Model_copy_21 rfl rfl ?_
        refine r_iconst (pc := 22) C (v := 5) d_Model_copy_22 (by decide) ?_
        refine r_callVi (pc := 23) (As := [.int 5]) (rest := []) C ok_Model_meets Lm_Model_129 k_id176 (by decide) ⟨by decide, by decide⟩ rfl rfl (Nat.le_of_ble_eq_true rfl) d_Model_copy_23 hf (fun x D1 hc => c_Model_meets Γ hc) (fun x13 D14 hf => ?_)
        exact r_iret (pc := 26) C d_Model_copy_26 hf
    · refine r_iconst (pc := 14) C (v := (-1)) d_Model_copy_14 (by decide) ?_
      exact r_iret (pc := 15) C d_Model_copy_15 hf
theorem c_Model_copy (Γ : GmT) {v1 : Int32} {v2 : Int32} {v3 : Int32} {v4 : Int32} {v5 : Int32} {D : Dt} {rr : Int32} {DD : Dt} (hf : f_Model_copy v1 v2 v3 v4 v5 D = some (rr, DD)) : Mt Γ y_Model_copy b_Model_copy 7 (some .int) 3 [.ref (Γ.2.1 176), .int v1, .int v2, .int v3, .int v4, .int v5] D (some (.int rr)) DD := Mt_of (by decide) (Nat.le_of_ble_eq_true rfl) (fun G C => te_Model_copy C hf)
def s_Model_mean_44 (k44 : Int32 → Int64 → Int32 → Dt → Option (Int32 × Dt)) (v1 : Int32) (v2 : Int64) (v4 : Int32) (D : Dt) : Option (Int32 × Dt) :=
  (if inb v1 6 = true then (if (D 178 v1.toNatClampNeg) ≤ v4 then (if inb v1 6 = true then (if ((D 178 v1.toNatClampNeg).toInt64) = 0 then none else bnd (f_Model_tells ((v2 / ((D 178 v1.toNatClampNeg).toInt64)).toInt32) 1 D) (fun x3 D4 => some (x3, D4))) else none) else bnd (f_Model_rowAt v1 v4 D) (fun x5 D6 => k44 v1 (v2 + (x5.toInt64)) (v4 + 1) D6)) else none)
def lp_Model_mean_44 (n : Nat) : Int32 → Int64 → Int32 → Dt → Option (Int32 × Dt) := itr (fun _ _ _ _ => none) (s_Model_mean_44) n
set_option maxHeartbeats 4000000 in
theorem ts_Model_mean_44 {Γ : GmT} {G : Dt → Nat → List (Nat × Value) → List Value → Prop} {rr : Int32} {DD : Dt} (C : Cx Γ "RiverTuesdaysModel" b_Model_mean 5 3 (some .int) (some (.int rr)) DD G) {k44 : Int32 → Int64 → Int32 → Dt → Option (Int32 × Dt)} (hk44 : ∀ (v1 : Int32) (v2 : Int64) (v4 : Int32) (D : Dt), k44 v1 v2 v4 D = some (rr, DD) → G D 44 [(0, .ref (Γ.2.1 176)), (1, .int v1), (2, .long v2), (4, .int v4)] []) {v1 : Int32} {v2 : Int64} {v4 : Int32} {D : Dt} (hf : s_Model_mean_44 k44 v1 v2 v4 D = some (rr, DD)) : G D 44 [(0, .ref (Γ.2.1 176)), (1, .int v1), (2, .long v2), (4, .int v4)] [] := by
  unfold s_Model_mean_44 at hf
  refine r_iload (pc := 44) C 3 d_Model_mean_44 rfl ?_
  refine r_aload_n (pc := 46) C 0 d_Model_mean_46 rfl rfl ?_
  refine g_Model_sizes (pc := 47) C k_id176 Lf_Model_13 d_Model_mean_47 ?_
  refine r_iload_n (pc := 50) C 1 d_Model_mean_50 rfl rfl ?_
  refine r_iald (pc := 51) C kq_Model_sizes d_Model_mean_51 hf (fun hf => ?_)
  refine r_icmp_ge (pc := 52) C (tgt := 72) d_Model_mean_52 (by decide) hf (fun c52 hf => ?_) (fun c52 hf => ?_)
  · refine r_aload_n (pc := 72) C 0 d_Model_mean_72 rfl rfl ?_
    refine r_lload_n (pc := 73) C 2 d_Model_mean_73 rfl rfl ?_
    refine r_aload_n (pc := 74) C 0 d_Model_mean_74 rfl rfl ?_
    refine g_Model_sizes (pc := 75) C k_id176 Lf_Model_13 d_Model_mean_75 ?_
    refine r_iload_n (pc := 78) C 1 d_Model_mean_78 rfl rfl ?_
    refine r_iald (pc := 79) C kq_Model_sizes d_Model_mean_79 hf (fun hf => ?_)
    refine r_i2l (pc := 80) C d_Model_mean_80 ?_
    refine r_ldiv (pc := 81) C d_Model_mean_81 hf (fun hf => ?_)
    refine r_l2i (pc := 82) C d_Model_mean_82 ?_
    refine r_iconst (pc := 83) C (v := 1) d_Model_mean_83 (by decide) ?_
    refine r_callVi (pc := 84) (As := [.int ((v2 / ((D 178 v1.toNatClampNeg).toInt64)).toInt32), .int 1]) (rest := []) C ok_Model_tells Lm_Model_137 k_id176 (by decide) ⟨by decide, by decide⟩ rfl rfl (Nat.le_of_ble_eq_true rfl) d_Model_mean_84 hf (fun x D1 hc => c_Model_tells Γ hc) (fun x3 D4 hf => ?_)
    exact r_iret (pc := 87) C d_Model_mean_87 hf
  · refine r_lload_n (pc := 55) C 2 d_Model_mean_55 rfl rfl ?_
    refine r_aload_n (pc := 56) C 0 d_Model_mean_56 rfl rfl ?_
    refine r_iload_n (pc := 57) C 1 d_Model_mean_57 rfl rfl ?_
    refine r_iload (pc := 58) C 3 d_Model_mean_58 rfl ?_
    refine r_callVi (pc := 60) (As := [.int v1, .int v4]) (rest := [.long v2]) C ok_Model_rowAt Lm_Model_133 k_id176 (by decide) ⟨by decide, by decide⟩ rfl rfl (Nat.le_of_ble_eq_true rfl) d_Model_mean_60 hf (fun x D1 hc => c_Model_rowAt Γ hc) (fun x5 D6 hf => ?_)
    refine r_i2l (pc := 63) C d_Model_mean_63 ?_
    refine r_ladd (pc := 64) C d_Model_mean_64 ?_
    refine r_lstore_n (pc := 65) (lv' := [(2, .long (v2 + (x5.toInt64))), (0, .ref (Γ.2.1 176)), (1, .int v1), (4, .int v4)]) C d_Model_mean_65 rfl (Nat.le_of_ble_eq_true rfl) rfl ?_
    refine r_iinc (pc := 66) C (v := v4 + 1) (lv' := [(4, .int (v4 + 1)), (2, .long (v2 + (x5.toInt64))), (0, .ref (Γ.2.1 176)), (1, .int v1)]) 3 d_Model_mean_66 rfl rfl (Nat.le_of_ble_eq_true rfl) rfl ?_
    refine r_goto (pc := 69) C (tgt := 44) d_Model_mean_69 (by decide) ?_
    exact r_lv (pc := 44) C [2, 3, 1, 0] rfl (hk44 v1 (v2 + (x5.toInt64)) (v4 + 1) D6 hf)
theorem tl_Model_mean_44 {Γ : GmT} {G : Dt → Nat → List (Nat × Value) → List Value → Prop} {rr : Int32} {DD : Dt} (C : Cx Γ "RiverTuesdaysModel" b_Model_mean 5 3 (some .int) (some (.int rr)) DD G) : ∀ (n : Nat) (v1 : Int32) (v2 : Int64) (v4 : Int32) (D : Dt), lp_Model_mean_44 n v1 v2 v4 D = some (rr, DD) → G D 44 [(0, .ref (Γ.2.1 176)), (1, .int v1), (2, .long v2), (4, .int v4)] [] := by
  intro n
  induction n with
  | zero =>
    intro v1 v2 v4 D hf
    exact absurd (show (none : Option (Int32 × Dt)) = some (rr, DD) from hf) (by simp)
  | succ n ih =>
    intro v1 v2 v4 D hf
    exact ts_Model_mean_44 C (k44 := lp_Model_mean_44 n) ih hf
def f_Model_mean (v1 : Int32) (D : Dt) : Option (Int32 × Dt) :=
  bnd (f_Model_isRow v1 D) (fun x1 D2 => (if x1 = 0 then some ((-1), D2) else (if inb v1 6 = true then (if 0 ≤ (D2 178 v1.toNatClampNeg) then (if inb v1 6 = true then (if (D2 178 v1.toNatClampNeg) = 0 then bnd (f_Model_meets 4 D2) (fun x7 D8 => some (x7, D8)) else lp_Model_mean_44 FU v1 0 0 D2) else none) else bnd (f_Model_meets 1 D2) (fun x9 D10 => some (x9, D10))) else none)))
set_option maxHeartbeats 4000000 in
theorem te_Model_mean {Γ : GmT} {G : Dt → Nat → List (Nat × Value) → List Value → Prop} {rr : Int32} {DD : Dt} (C : Cx Γ "RiverTuesdaysModel" b_Model_mean 5 3 (some .int) (some (.int rr)) DD G) {v1 : Int32} {D : Dt} (hf : f_Model_mean v1 D = some (rr, DD)) : G D 0 [(0, .ref (Γ.2.1 176)), (1, .int v1)] [] := by
  unfold f_Model_mean at hf
  refine r_iload_n (pc := 0) C 1 d_Model_mean_0 rfl rfl ?_
  refine r_callSi (pc := 1) (As := [.int v1]) (rest := []) C ok_Model_isRow Lm_Model_125 ⟨by decide, by decide⟩ rfl rfl (Nat.le_of_ble_eq_true rfl) d_Model_mean_1 hf (fun x D1 hc => c_Model_isRow Γ hc) (fun x1 D2 hf => ?_)
  refine r_if_ne (pc := 4) C (tgt := 9) d_Model_mean_4 (by decide) hf (fun c4 hf => ?_) (fun c4 hf => ?_)
  · refine r_aload_n (pc := 9) C 0 d_Model_mean_9 rfl rfl ?_
    refine g_Model_sizes (pc := 10) C k_id176 Lf_Model_13 d_Model_mean_10 ?_
    refine r_iload_n (pc := 13) C 1 d_Model_mean_13 rfl rfl ?_
    refine r_iald (pc := 14) C kq_Model_sizes d_Model_mean_14 hf (fun hf => ?_)
    refine r_if_ge (pc := 15) C (tgt := 24) d_Model_mean_15 (by decide) hf (fun c15 hf => ?_) (fun c15 hf => ?_)
    · refine r_aload_n (pc := 24) C 0 d_Model_mean_24 rfl rfl ?_
      refine g_Model_sizes (pc := 25) C k_id176 Lf_Model_13 d_Model_mean_25 ?_
      refine r_iload_n (pc := 28) C 1 d_Model_mean_28 rfl rfl ?_
      refine r_iald (pc := 29) C kq_Model_sizes d_Model_mean_29 hf (fun hf => ?_)
      refine r_if_ne (pc := 30) C (tgt := 39) d_Model_mean_30 (by decide) hf (fun c30 hf => ?_) (fun c30 hf => ?_)
      · refine r_lconst (pc := 39) C (v := 0) d_Model_mean_39 (by decide) ?_
        refine r_lstore_n (pc := 40) (lv' := [(2, .long 0), (0, .ref (Γ.2.1 176)), (1, .int v1)]) C d_Model_mean_40 rfl (Nat.le_of_ble_eq_true rfl) rfl ?_
        refine r_iconst (pc := 41) C (v := 0) d_Model_mean_41 (by decide) ?_
        refine r_istore (pc := 42) (lv' := [(4, .int 0), (2, .long 0), (0, .ref (Γ.2.1 176)), (1, .int v1)]) C d_Model_mean_42 (Nat.le_of_ble_eq_true rfl) rfl ?_
        exact r_lv (pc := 44) C [2, 3, 1, 0] rfl (tl_Model_mean_44 C FU v1 0 0 D2 hf)
      · refine r_aload_n (pc := 33) C 0 d_Model_mean_33 rfl rfl ?_
        refine r_iconst (pc := 34) C (v := 4) d_Model_mean_34 (by decide) ?_
        refine r_callVi (pc := 35) (As := [.int 4]) (rest := []) C ok_Model_meets Lm_Model_129 k_id176 (by decide) ⟨by decide, by decide⟩ rfl rfl (Nat.le_of_ble_eq_true rfl) d_Model_mean_35 hf (fun x D1 hc => c_Model_meets Γ hc) (fun x7 D8 hf => ?_)
        exact r_iret (pc := 38) C d_Model_mean_38 hf
    · refine r_aload_n (pc := 18) C 0 d_Model_mean_18 rfl rfl ?_
      refine r_iconst (pc := 19) C (v := 1) d_Model_mean_19 (by decide) ?_
      refine r_callVi (pc := 20) (As := [.int 1]) (rest := []) C ok_Model_meets Lm_Model_129 k_id176 (by decide) ⟨by decide, by decide⟩ rfl rfl (Nat.le_of_ble_eq_true rfl) d_Model_mean_20 hf (fun x D1 hc => c_Model_meets Γ hc) (fun x9 D10 hf => ?_)
      exact r_iret (pc := 23) C d_Model_mean_23 hf
  · refine r_iconst (pc := 7) C (v := (-1)) d_Model_mean_7 (by decide) ?_
    exact r_iret (pc := 8) C d_Model_mean_8 hf
theorem c_Model_mean (Γ : GmT) {v1 : Int32} {D : Dt} {rr : Int32} {DD : Dt} (hf : f_Model_mean v1 D = some (rr, DD)) : Mt Γ y_Model_mean b_Model_mean 5 (some .int) 3 [.ref (Γ.2.1 176), .int v1] D (some (.int rr)) DD := Mt_of (by decide) (Nat.le_of_ble_eq_true rfl) (fun G C => te_Model_mean C hf)
def f_Model_isText (v0 : Int32) (D : Dt) : Option (Int32 × Dt) :=
  bnd (f_Model_in v0 0 3 D) (fun x1 D2 => (if x1 = 0 ∨ x1 = 1 then some (x1, D2) else none))
set_option maxHeartbeats 4000000 in
theorem te_Model_isText {Γ : GmT} {G : Dt → Nat → List (Nat × Value) → List Value → Prop} {rr : Int32} {DD : Dt} (C : Cx Γ "RiverTuesdaysModel" b_Model_isText 1 2 (some .boolean) (some (.int rr)) DD G) {v0 : Int32} {D : Dt} (hf : f_Model_isText v0 D = some (rr, DD)) : G D 0 [(0, .int v0)] [] := by
  unfold f_Model_isText at hf
  refine r_iload_n (pc := 0) C 0 d_Model_isText_0 rfl rfl ?_
  refine r_iconst (pc := 1) C (v := 0) d_Model_isText_1 (by decide) ?_
  refine r_iconst (pc := 2) C (v := 3) d_Model_isText_2 (by decide) ?_
  refine r_callSi (pc := 3) (As := [.int v0, .int 0, .int 3]) (rest := []) C ok_Model_in Lm_Model_118 ⟨by decide, by decide⟩ rfl rfl (Nat.le_of_ble_eq_true rfl) d_Model_isText_3 hf (fun x D1 hc => c_Model_in Γ hc) (fun x1 D2 hf => ?_)
  exact r_zretc (pc := 6) C d_Model_isText_6 hf
theorem c_Model_isText (Γ : GmT) {v0 : Int32} {D : Dt} {rr : Int32} {DD : Dt} (hf : f_Model_isText v0 D = some (rr, DD)) : Mt Γ y_Model_isText b_Model_isText 1 (some .boolean) 2 [.int v0] D (some (.int rr)) DD := Mt_of (by decide) (Nat.le_of_ble_eq_true rfl) (fun G C => te_Model_isText C hf)
def s_Model_text_34 (k34 : Int32 → Int32 → Int32 → Dt → Option (Int32 × Dt)) (v1 : Int32) (v2 : Int32) (v3 : Int32) (D : Dt) : Option (Int32 × Dt) :=
  (if 60 ≤ v3 then some (v2, D) else (if inb ((60 * v1) + v3) 240 = true then nm (wr D 182 ((60 * v1) + v3).toNatClampNeg (vp_nar .byte 32)) (fun D4 => k34 v1 v2 (v3 + 1) D4) else none))
def lp_Model_text_34 (n : Nat) : Int32 → Int32 → Int32 → Dt → Option (Int32 × Dt) := itr (fun _ _ _ _ => none) (s_Model_text_34) n
set_option maxHeartbeats 4000000 in
theorem ts_Model_text_34 {Γ : GmT} {G : Dt → Nat → List (Nat × Value) → List Value → Prop} {rr : Int32} {DD : Dt} (C : Cx Γ "RiverTuesdaysModel" b_Model_text 4 3 (some .int) (some (.int rr)) DD G) {k34 : Int32 → Int32 → Int32 → Dt → Option (Int32 × Dt)} (hk34 : ∀ (v1 : Int32) (v2 : Int32) (v3 : Int32) (D : Dt), k34 v1 v2 v3 D = some (rr, DD) → G D 34 [(0, .ref (Γ.2.1 176)), (1, .int v1), (2, .int v2), (3, .int v3)] []) {v1 : Int32} {v2 : Int32} {v3 : Int32} {D : Dt} (hf : s_Model_text_34 k34 v1 v2 v3 D = some (rr, DD)) : G D 34 [(0, .ref (Γ.2.1 176)), (1, .int v1), (2, .int v2), (3, .int v3)] [] := by
  unfold s_Model_text_34 at hf
  refine r_iload_n (pc := 34) C 3 d_Model_text_34 rfl rfl ?_
  refine r_bipush (pc := 35) C (v := 60) d_Model_text_35 (by decide) ?_
  refine r_icmp_ge (pc := 37) C (tgt := 59) d_Model_text_37 (by decide) hf (fun c37 hf => ?_) (fun c37 hf => ?_)
  · refine r_iload_n (pc := 59) C 2 d_Model_text_59 rfl rfl ?_
    exact r_iret (pc := 60) C d_Model_text_60 hf
  · refine r_aload_n (pc := 40) C 0 d_Model_text_40 rfl rfl ?_
    refine g_Model_bytes (pc := 41) C k_id176 Lf_Model_25 d_Model_text_41 ?_
    refine r_bipush (pc := 44) C (v := 60) d_Model_text_44 (by decide) ?_
    refine r_iload_n (pc := 46) C 1 d_Model_text_46 rfl rfl ?_
    refine r_imul (pc := 47) C d_Model_text_47 ?_
    refine r_iload_n (pc := 48) C 3 d_Model_text_48 rfl rfl ?_
    refine r_iadd (pc := 49) C d_Model_text_49 ?_
    refine r_bipush (pc := 50) C (v := 32) d_Model_text_50 (by decide) ?_
    refine r_bast (pc := 52) C kq_Model_bytes d_Model_text_52 hf (fun hf => ?_)
    refine r_nmD hf (fun D4 hf => ?_)
    refine r_iinc (pc := 53) C (v := v3 + 1) (lv' := [(3, .int (v3 + 1)), (0, .ref (Γ.2.1 176)), (1, .int v1), (2, .int v2)]) 3 d_Model_text_53 rfl rfl (Nat.le_of_ble_eq_true rfl) rfl ?_
    refine r_goto (pc := 56) C (tgt := 34) d_Model_text_56 (by decide) ?_
    exact r_lv (pc := 34) C [1, 2, 3, 0] rfl (hk34 v1 v2 (v3 + 1) D4 hf)
theorem tl_Model_text_34 {Γ : GmT} {G : Dt → Nat → List (Nat × Value) → List Value → Prop} {rr : Int32} {DD : Dt} (C : Cx Γ "RiverTuesdaysModel" b_Model_text 4 3 (some .int) (some (.int rr)) DD G) : ∀ (n : Nat) (v1 : Int32) (v2 : Int32) (v3 : Int32) (D : Dt), lp_Model_text_34 n v1 v2 v3 D = some (rr, DD) → G D 34 [(0, .ref (Γ.2.1 176)), (1, .int v1), (2, .int v2), (3, .int v3)] [] := by
  intro n
  induction n with
  | zero =>
    intro v1 v2 v3 D hf
    exact absurd (show (none : Option (Int32 × Dt)) = some (rr, DD) from hf) (by simp)
  | succ n ih =>
    intro v1 v2 v3 D hf
    exact ts_Model_text_34 C (k34 := lp_Model_text_34 n) ih hf
def f_Model_text (v1 : Int32) (v2 : Int32) (D : Dt) : Option (Int32 × Dt) :=
  bnd (f_Model_isText v1 D) (fun x1 D2 => (if x1 = 0 then some ((-1), D2) else (if v2 ≤ 60 then (if 0 ≤ v2 then (if inb v1 4 = true then nm (wr D2 181 v1.toNatClampNeg v2) (fun D3 => lp_Model_text_34 FU v1 v2 0 D3) else none) else bnd (f_Model_meets 5 D2) (fun x5 D6 => some (x5, D6))) else some ((-1), D2))))
set_option maxHeartbeats 4000000 in
theorem te_Model_text {Γ : GmT} {G : Dt → Nat → List (Nat × Value) → List Value → Prop} {rr : Int32} {DD : Dt} (C : Cx Γ "RiverTuesdaysModel" b_Model_text 4 3 (some .int) (some (.int rr)) DD G) {v1 : Int32} {v2 : Int32} {D : Dt} (hf : f_Model_text v1 v2 D = some (rr, DD)) : G D 0 [(0, .ref (Γ.2.1 176)), (1, .int v1), (2, .int v2)] [] := by
  unfold f_Model_text at hf
  refine r_iload_n (pc := 0) C 1 d_Model_text_0 rfl rfl ?_
  refine r_callSi (pc := 1) (As := [.int v1]) (rest := []) C ok_Model_isText Lm_Model_140 ⟨by decide, by decide⟩ rfl rfl (Nat.le_of_ble_eq_true rfl) d_Model_text_1 hf (fun x D1 hc => c_Model_isText Γ hc) (fun x1 D2 hf => ?_)
  refine r_if_eq (pc := 4) C (tgt := 13) d_Model_text_4 (by decide) hf (fun c4 hf => ?_) (fun c4 hf => ?_)
  · refine r_iconst (pc := 13) C (v := (-1)) d_Model_text_13 (by decide) ?_
    exact r_iret (pc := 14) C d_Model_text_14 hf
  · refine r_iload_n (pc := 7) C 2 d_Model_text_7 rfl rfl ?_
    refine r_bipush (pc := 8) C (v := 60) d_Model_text_8 (by decide) ?_
    refine r_icmp_le (pc := 10) C (tgt := 15) d_Model_text_10 (by decide) hf (fun c10 hf => ?_) (fun c10 hf => ?_)
    · refine r_iload_n (pc := 15) C 2 d_Model_text_15 rfl rfl ?_
      refine r_if_ge (pc := 16) C (tgt := 25) d_Model_text_16 (by decide) hf (fun c16 hf => ?_) (fun c16 hf => ?_)
      · refine r_aload_n (pc := 25) C 0 d_Model_text_25 rfl rfl ?_
        refine g_Model_textSizes (pc := 26) C k_id176 Lf_Model_22 d_Model_text_26 ?_
        refine r_iload_n (pc := 29) C 1 d_Model_text_29 rfl rfl ?_
        refine r_iload_n (pc := 30) C 2 d_Model_text_30 rfl rfl ?_
        refine r_iast (pc := 31) C kq_Model_textSizes d_Model_text_31 hf (fun hf => ?_)
        refine r_nmD hf (fun D3 hf => ?_)
        refine r_iconst (pc := 32) C (v := 0) d_Model_text_32 (by decide) ?_
        refine r_istore_n (pc := 33) (lv' := [(3, .int 0), (0, .ref (Γ.2.1 176)), (1, .int v1), (2, .int v2)]) C d_Model_text_33 rfl (Nat.le_of_ble_eq_true rfl) rfl ?_
        exact r_lv (pc := 34) C [1, 2, 3, 0] rfl (tl_Model_text_34 C FU v1 v2 0 D3 hf)
      · refine r_aload_n (pc := 19) C 0 d_Model_text_19 rfl rfl ?_
        refine r_iconst (pc := 20) C (v := 5) d_Model_text_20 (by decide) ?_
        refine r_callVi (pc := 21) (As := [.int 5]) (rest := []) C ok_Model_meets Lm_Model_129 k_id176 (by decide) ⟨by decide, by decide⟩ rfl rfl (Nat.le_of_ble_eq_true rfl) d_Model_text_21 hf (fun x D1 hc => c_Model_meets Γ hc) (fun x5 D6 hf => ?_)
        exact r_iret (pc := 24) C d_Model_text_24 hf
    · refine r_iconst (pc := 13) C (v := (-1)) d_Model_text_13 (by decide) ?_
      exact r_iret (pc := 14) C d_Model_text_14 hf
theorem c_Model_text (Γ : GmT) {v1 : Int32} {v2 : Int32} {D : Dt} {rr : Int32} {DD : Dt} (hf : f_Model_text v1 v2 D = some (rr, DD)) : Mt Γ y_Model_text b_Model_text 4 (some .int) 3 [.ref (Γ.2.1 176), .int v1, .int v2] D (some (.int rr)) DD := Mt_of (by decide) (Nat.le_of_ble_eq_true rfl) (fun G C => te_Model_text C hf)
def f_Model_put (v1 : Int32) (v2 : Int32) (v3 : Int32) (D : Dt) : Option (Int32 × Dt) :=
  bnd (f_Model_isText v1 D) (fun x1 D2 => (if x1 = 0 then some ((-1), D2) else (if inb v1 4 = true then (if 0 ≤ (D2 181 v1.toNatClampNeg) then (if inb v1 4 = true then bnd (f_Model_in v2 0 ((D2 181 v1.toNatClampNeg) - 1) D2) (fun x3 D4 => (if x3 = 0 then bnd (f_Model_meets 2 D4) (fun x7 D8 => some (x7, D8)) else (if inb ((60 * v1) + v2) 240 = true then nm (D4 182 ((60 * v1) + v2).toNatClampNeg) (fun x5 => (if inb ((60 * v1) + v2) 240 = true then nm (wr D4 182 ((60 * v1) + v2).toNatClampNeg (vp_nar .byte (v3.toInt8.toInt32))) (fun D6 => some (1000 + x5, D6)) else none)) else none))) else none) else bnd (f_Model_meets 1 D2) (fun x9 D10 => some (x9, D10))) else none)))
set_option maxHeartbeats 4000000 in
theorem te_Model_put {Γ : GmT} {G : Dt → Nat → List (Nat × Value) → List Value → Prop} {rr : Int32} {DD : Dt} (C : Cx Γ "RiverTuesdaysModel" b_Model_put 5 3 (some .int) (some (.int rr)) DD G) {v1 : Int32} {v2 : Int32} {v3 : Int32} {D : Dt} (hf : f_Model_put v1 v2 v3 D = some (rr, DD)) : G D 0 [(0, .ref (Γ.2.1 176)), (1, .int v1), (2, .int v2), (3, .int v3)] [] := by
  unfold f_Model_put at hf
  refine r_iload_n (pc := 0) C 1 d_Model_put_0 rfl rfl ?_
  refine r_callSi (pc := 1) (As := [.int v1]) (rest := []) C ok_Model_isText Lm_Model_140 ⟨by decide, by decide⟩ rfl rfl (Nat.le_of_ble_eq_true rfl) d_Model_put_1 hf (fun x D1 hc => c_Model_isText Γ hc) (fun x1 D2 hf => ?_)
  refine r_if_ne (pc := 4) C (tgt := 9) d_Model_put_4 (by decide) hf (fun c4 hf => ?_) (fun c4 hf => ?_)
  · refine r_aload_n (pc := 9) C 0 d_Model_put_9 rfl rfl ?_
    refine g_Model_textSizes (pc := 10) C k_id176 Lf_Model_22 d_Model_put_10 ?_
    refine r_iload_n (pc := 13) C 1 d_Model_put_13 rfl rfl ?_
    refine r_iald (pc := 14) C kq_Model_textSizes d_Model_put_14 hf (fun hf => ?_)
    refine r_if_ge (pc := 15) C (tgt := 24) d_Model_put_15 (by decide) hf (fun c15 hf => ?_) (fun c15 hf => ?_)
    · refine r_iload_n (pc := 24) C 2 d_Model_put_24 rfl rfl ?_
      refine r_iconst (pc := 25) C (v := 0) d_Model_put_25 (by decide) ?_
      refine r_aload_n (pc := 26) C 0 d_Model_put_26 rfl rfl ?_
      refine g_Model_textSizes (pc := 27) C k_id176 Lf_Model_22 d_Model_put_27 ?_
      refine r_iload_n (pc := 30) C 1 d_Model_put_30 rfl rfl ?_
      refine r_iald (pc := 31) C kq_Model_textSizes d_Model_put_31 hf (fun hf => ?_)
      refine r_iconst (pc := 32) C (v := 1) d_Model_put_32 (by decide) ?_
      refine r_isub (pc := 33) C d_Model_put_33 ?_
      refine r_callSi (pc := 34) (As := [.int v2, .int 0, .int ((D2 181 v1.toNatClampNeg) - 1)]) (rest := []) C ok_Model_in Lm_Model_118 ⟨by decide, by decide⟩ rfl rfl (Nat.le_of_ble_eq_true rfl) d_Model_put_34 hf (fun x D1 hc => c_Model_in Γ hc) (fun x3 D4 hf => ?_)
      refine r_if_ne (pc := 37) C (tgt := 46) d_Model_put_37 (by decide) hf (fun c37 hf => ?_) (fun c37 hf => ?_)
      · refine r_aload_n (pc := 46) C 0 d_Model_put_46 rfl rfl ?_
        refine g_Model_bytes (pc := 47) C k_id176 Lf_Model_25 d_Model_put_47 ?_
        refine r_bipush (pc := 50) C (v := 60) d_Model_put_50 (by decide) ?_
        refine r_iload_n (pc := 52) C 1 d_Model_put_52 rfl rfl ?_
        refine r_imul (pc := 53) C d_Model_put_53 ?_
        refine r_iload_n (pc := 54) C 2 d_Model_put_54 rfl rfl ?_
        refine r_iadd (pc := 55) C d_Model_put_55 ?_
        refine r_bald (pc := 56) C kq_Model_bytes d_Model_put_56 hf (fun hf => ?_)
        refine r_nmi (pc := 57) hf (fun x5 hf => ?_)
        refine r_istore (pc := 57) (lv' := [(4, .int x5), (0, .ref (Γ.2.1 176)), (1, .int v1), (2, .int v2), (3, .int v3)]) C d_Model_put_57 (Nat.le_of_ble_eq_true rfl) rfl ?_
        refine r_aload_n (pc := 59) C 1 d_Model_put_59 rfl rfl ?_
        refine g_Model_bytes (pc := 60) C k_id176 Lf_Model_25 d_Model_put_60 ?_
        refine r_bipush (pc := 63) C (v := 60) d_Model_put_63 (by decide) ?_
        refine r_iload_n (pc := 65) C 2 d_Model_put_65 rfl rfl ?_
        refine r_imul (pc := 66) C d_Model_put_66 ?_
        refine r_iload_n (pc := 67) C 3 d_Model_put_67 rfl rfl ?_
        refine r_iadd (pc := 68) C d_Model_put_68 ?_
        refine r_iload_n (pc := 69) C 4 d_Model_put_69 rfl rfl ?_
        refine r_i2b (pc := 70) C d_Model_put_70 ?_
        refine r_bast (pc := 71) C kq_Model_bytes d_Model_put_71 hf (fun hf => ?_)
        refine r_nmD hf (fun D6 hf => ?_)
        refine r_sipush (pc := 72) C (v := 1000) d_Model_put_72 (by decide) ?_
        refine r_iload (pc := 75) C 0 d_Model_put_75 rfl ?_
        refine r_iadd (pc := 77) C d_Model_put_77 ?_
        exact r_iret (pc := 78) C d_Model_put_78 hf
      · refine r_aload_n (pc := 40) C 0 d_Model_put_40 rfl rfl ?_
        refine r_iconst (pc := 41) C (v := 2) d_Model_put_41 (by decide) ?_
        refine r_callVi (pc := 42) (As := [.int 2]) (rest := []) C ok_Model_meets Lm_Model_129 k_id176 (by decide) ⟨by decide, by decide⟩ rfl rfl (Nat.le_of_ble_eq_true rfl) d_Model_put_42 hf (fun x D1 hc => c_Model_meets Γ hc) (fun x7 D8 hf => ?_)
        exact r_iret (pc := 45) C d_Model_put_45 hf
    · refine r_aload_n (pc := 18) C 0 d_Model_put_18 rfl rfl ?_
      refine r_iconst (pc := 19) C (v := 1) d_Model_put_19 (by decide) ?_
      refine r_callVi (pc := 20) (As := [.int 1]) (rest := []) C ok_Model_meets Lm_Model_129 k_id176 (by decide) ⟨by decide, by decide⟩ rfl rfl (Nat.le_of_ble_eq_true rfl) d_Model_put_20 hf (fun x D1 hc => c_Model_meets Γ hc) (fun x9 D10 hf => ?_)
      exact r_iret (pc := 23) C d_Model_put_23 hf
  · refine r_iconst (pc := 7) C (v := (-1)) d_Model_put_7 (by decide) ?_
    exact r_iret (pc := 8) C d_Model_put_8 hf
theorem c_Model_put (Γ : GmT) {v1 : Int32} {v2 : Int32} {v3 : Int32} {D : Dt} {rr : Int32} {DD : Dt} (hf : f_Model_put v1 v2 v3 D = some (rr, DD)) : Mt Γ y_Model_put b_Model_put 5 (some .int) 3 [.ref (Γ.2.1 176), .int v1, .int v2, .int v3] D (some (.int rr)) DD := Mt_of (by decide) (Nat.le_of_ble_eq_true rfl) (fun G C => te_Model_put C hf)
def f_Model_byteAt (v1 : Int32) (v2 : Int32) (D : Dt) : Option (Int32 × Dt) :=
  (if inb v1 4 = true then (if (D 181 v1.toNatClampNeg) ≤ v2 then some (0, D) else (if inb ((60 * v1) + v2) 240 = true then some (D 182 ((60 * v1) + v2).toNatClampNeg, D) else none)) else none)
set_option maxHeartbeats 4000000 in
theorem te_Model_byteAt {Γ : GmT} {G : Dt → Nat → List (Nat × Value) → List Value → Prop} {rr : Int32} {DD : Dt} (C : Cx Γ "RiverTuesdaysModel" b_Model_byteAt 3 1 (some .int) (some (.int rr)) DD G) {v1 : Int32} {v2 : Int32} {D : Dt} (hf : f_Model_byteAt v1 v2 D = some (rr, DD)) : G D 0 [(0, .ref (Γ.2.1 176)), (1, .int v1), (2, .int v2)] [] := by
  unfold f_Model_byteAt at hf
  refine r_iload_n (pc := 0) C 2 d_Model_byteAt_0 rfl rfl ?_
  refine r_aload_n (pc := 1) C 0 d_Model_byteAt_1 rfl rfl ?_
  refine g_Model_textSizes (pc := 2) C k_id176 Lf_Model_22 d_Model_byteAt_2 ?_
  refine r_iload_n (pc := 5) C 1 d_Model_byteAt_5 rfl rfl ?_
  refine r_iald (pc := 6) C kq_Model_textSizes d_Model_byteAt_6 hf (fun hf => ?_)
  refine r_icmp_ge (pc := 7) C (tgt := 24) d_Model_byteAt_7 (by decide) hf (fun c7 hf => ?_) (fun c7 hf => ?_)
  · refine r_iconst (pc := 24) C (v := 0) d_Model_byteAt_24 (by decide) ?_
    exact r_iret (pc := 25) C d_Model_byteAt_25 hf
  · refine r_aload_n (pc := 10) C 0 d_Model_byteAt_10 rfl rfl ?_
    refine g_Model_bytes (pc := 11) C k_id176 Lf_Model_25 d_Model_byteAt_11 ?_
    refine r_bipush (pc := 14) C (v := 60) d_Model_byteAt_14 (by decide) ?_
    refine r_iload_n (pc := 16) C 1 d_Model_byteAt_16 rfl rfl ?_
    refine r_imul (pc := 17) C d_Model_byteAt_17 ?_
    refine r_iload_n (pc := 18) C 2 d_Model_byteAt_18 rfl rfl ?_
    refine r_iadd (pc := 19) C d_Model_byteAt_19 ?_
    refine r_bald (pc := 20) C kq_Model_bytes d_Model_byteAt_20 hf (fun hf => ?_)
    refine r_goto (pc := 21) C (tgt := 25) d_Model_byteAt_21 (by decide) ?_
    exact r_iret (pc := 25) C d_Model_byteAt_25 hf
theorem c_Model_byteAt (Γ : GmT) {v1 : Int32} {v2 : Int32} {D : Dt} {rr : Int32} {DD : Dt} (hf : f_Model_byteAt v1 v2 D = some (rr, DD)) : Mt Γ y_Model_byteAt b_Model_byteAt 3 (some .int) 1 [.ref (Γ.2.1 176), .int v1, .int v2] D (some (.int rr)) DD := Mt_of (by decide) (Nat.le_of_ble_eq_true rfl) (fun G C => te_Model_byteAt C hf)
def f_Model_kindOf (v0 : Int32) (D : Dt) : Option (Int32 × Dt) :=
  (if v0 = 100 then some (3, D) else (if v0 = 104 then some (0, D) else (if v0 = 108 then some (5, D) else (if v0 = 109 then some (1, D) else (if v0 = 115 then some (2, D) else (if v0 = 119 then some (4, D) else some ((-9), D)))))))
set_option maxHeartbeats 4000000 in
theorem te_Model_kindOf {Γ : GmT} {G : Dt → Nat → List (Nat × Value) → List Value → Prop} {rr : Int32} {DD : Dt} (C : Cx Γ "RiverTuesdaysModel" b_Model_kindOf 1 1 (some .int) (some (.int rr)) DD G) {v0 : Int32} {D : Dt} (hf : f_Model_kindOf v0 D = some (rr, DD)) : G D 0 [(0, .int v0)] [] := by
  unfold f_Model_kindOf at hf
  refine r_iload_n (pc := 0) C 0 d_Model_kindOf_0 rfl rfl ?_
  by_cases q1_0 : v0 = 100
  · rw [if_pos q1_0] at hf
    refine r_tsK (pc := 1) (tgt := 102) C q1_0 d_Model_kindOf_1 (by decide) (by decide) (off := 101) (by decide) (by decide) ?_
    refine r_iconst (pc := 102) C (v := 3) d_Model_kindOf_102 (by decide) ?_
    exact r_iret (pc := 103) C d_Model_kindOf_103 hf
  rw [if_neg q1_0] at hf
  by_cases q1_1 : v0 = 104
  · rw [if_pos q1_1] at hf
    refine r_tsK (pc := 1) (tgt := 96) C q1_1 d_Model_kindOf_1 (by decide) (by decide) (off := 95) (by decide) (by decide) ?_
    refine r_iconst (pc := 96) C (v := 0) d_Model_kindOf_96 (by decide) ?_
    exact r_iret (pc := 97) C d_Model_kindOf_97 hf
  rw [if_neg q1_1] at hf
  by_cases q1_2 : v0 = 108
  · rw [if_pos q1_2] at hf
    refine r_tsK (pc := 1) (tgt := 106) C q1_2 d_Model_kindOf_1 (by decide) (by decide) (off := 105) (by decide) (by decide) ?_
    refine r_iconst (pc := 106) C (v := 5) d_Model_kindOf_106 (by decide) ?_
    exact r_iret (pc := 107) C d_Model_kindOf_107 hf
  rw [if_neg q1_2] at hf
  by_cases q1_3 : v0 = 109
  · rw [if_pos q1_3] at hf
    refine r_tsK (pc := 1) (tgt := 98) C q1_3 d_Model_kindOf_1 (by decide) (by decide) (off := 97) (by decide) (by decide) ?_
    refine r_iconst (pc := 98) C (v := 1) d_Model_kindOf_98 (by decide) ?_
    exact r_iret (pc := 99) C d_Model_kindOf_99 hf
  rw [if_neg q1_3] at hf
  by_cases q1_4 : v0 = 115
  · rw [if_pos q1_4] at hf
    refine r_tsK (pc := 1) (tgt := 100) C q1_4 d_Model_kindOf_1 (by decide) (by decide) (off := 99) (by decide) (by decide) ?_
    refine r_iconst (pc := 100) C (v := 2) d_Model_kindOf_100 (by decide) ?_
    exact r_iret (pc := 101) C d_Model_kindOf_101 hf
  rw [if_neg q1_4] at hf
  by_cases q1_5 : v0 = 119
  · rw [if_pos q1_5] at hf
    refine r_tsK (pc := 1) (tgt := 104) C q1_5 d_Model_kindOf_1 (by decide) (by decide) (off := 103) (by decide) (by decide) ?_
    refine r_iconst (pc := 104) C (v := 4) d_Model_kindOf_104 (by decide) ?_
    exact r_iret (pc := 105) C d_Model_kindOf_105 hf
  rw [if_neg q1_5] at hf
  refine r_tsD (pc := 1) (tgt := 108) C [100, 104, 108, 109, 115, 119] (by simp only [List.mem_cons, List.not_mem_nil, not_or, or_false]; exact ⟨q1_0, q1_1, q1_2, q1_3, q1_4, q1_5⟩) d_Model_kindOf_1 (by decide) (by decide) (by decide) ?_
  refine r_bipush (pc := 108) C (v := (-9)) d_Model_kindOf_108 (by decide) ?_
  exact r_iret (pc := 110) C d_Model_kindOf_110 hf
theorem c_Model_kindOf (Γ : GmT) {v0 : Int32} {D : Dt} {rr : Int32} {DD : Dt} (hf : f_Model_kindOf v0 D = some (rr, DD)) : Mt Γ y_Model_kindOf b_Model_kindOf 1 (some .int) 1 [.int v0] D (some (.int rr)) DD := Mt_of (by decide) (Nat.le_of_ble_eq_true rfl) (fun G C => te_Model_kindOf C hf)
def b_Model_figure_42 (v4 : Int32) (s0 : Int32) (s1 : Int32) (D : Dt) : Option (Int32 × Dt) :=
  nm (wr D 176 16 (s1 + s0)) (fun D6 => (if v4 = 0 ∨ v4 = 1 then some (v4, D6) else none))
set_option maxHeartbeats 4000000 in
theorem tb_Model_figure_42 {Γ : GmT} {G : Dt → Nat → List (Nat × Value) → List Value → Prop} {rr : Int32} {DD : Dt} (C : Cx Γ "RiverTuesdaysModel" b_Model_figure 5 2 (some .boolean) (some (.int rr)) DD G) {v4 : Int32} {s0 : Int32} {s1 : Int32} {D : Dt} (hf : b_Model_figure_42 v4 s0 s1 D = some (rr, DD)) : G D 42 [(4, .int v4)] [.int s0, .int s1, .ref (Γ.2.1 176)] := by
  unfold b_Model_figure_42 at hf
  refine r_iadd (pc := 42) C d_Model_figure_42 ?_
  refine p_Model_readAt (pc := 43) C k_id176 Lf_Model_143 d_Model_figure_43 ?_
  refine r_nmD hf (fun D6 hf => ?_)
  refine r_iload (pc := 46) C 0 d_Model_figure_46 rfl ?_
  exact r_zretc (pc := 48) C d_Model_figure_48 hf
def f_Model_figure (v1 : Int32) (v2 : Int32) (v3 : Int32) (D : Dt) : Option (Int32 × Dt) :=
  bnd (f_Model_byteAt v1 (D 176 16) D) (fun x1 D2 => nm (wr D2 176 17 (x1 - 48)) (fun D3 => bnd (f_Model_in (D3 176 17) v2 v3 D3) (fun x4 D5 => (if x4 = 0 then b_Model_figure_42 x4 0 (D5 176 16) D5 else b_Model_figure_42 x4 1 (D5 176 16) D5))))
set_option maxHeartbeats 4000000 in
theorem te_Model_figure {Γ : GmT} {G : Dt → Nat → List (Nat × Value) → List Value → Prop} {rr : Int32} {DD : Dt} (C : Cx Γ "RiverTuesdaysModel" b_Model_figure 5 2 (some .boolean) (some (.int rr)) DD G) {v1 : Int32} {v2 : Int32} {v3 : Int32} {D : Dt} (hf : f_Model_figure v1 v2 v3 D = some (rr, DD)) : G D 0 [(0, .ref (Γ.2.1 176)), (1, .int v1), (2, .int v2), (3, .int v3)] [] := by
  unfold f_Model_figure at hf
  refine r_aload_n (pc := 0) C 0 d_Model_figure_0 rfl rfl ?_
  refine r_aload_n (pc := 1) C 0 d_Model_figure_1 rfl rfl ?_
  refine r_iload_n (pc := 2) C 1 d_Model_figure_2 rfl rfl ?_
  refine r_aload_n (pc := 3) C 0 d_Model_figure_3 rfl rfl ?_
  refine g_Model_readAt (pc := 4) C k_id176 Lf_Model_143 d_Model_figure_4 ?_
  refine r_callVi (pc := 7) (As := [.int v1, .int (D 176 16)]) (rest := [.ref (Γ.2.1 176)]) C ok_Model_byteAt Lm_Model_146 k_id176 (by decide) ⟨by decide, by decide⟩ rfl rfl (Nat.le_of_ble_eq_true rfl) d_Model_figure_7 hf (fun x D1 hc => c_Model_byteAt Γ hc) (fun x1 D2 hf => ?_)
  refine r_bipush (pc := 10) C (v := 48) d_Model_figure_10 (by decide) ?_
  refine r_isub (pc := 12) C d_Model_figure_12 ?_
  refine p_Model_readNumber (pc := 13) C k_id176 Lf_Model_149 d_Model_figure_13 ?_
  refine r_nmD hf (fun D3 hf => ?_)
  refine r_aload_n (pc := 16) C 0 d_Model_figure_16 rfl rfl ?_
  refine g_Model_readNumber (pc := 17) C k_id176 Lf_Model_149 d_Model_figure_17 ?_
  refine r_iload_n (pc := 20) C 2 d_Model_figure_20 rfl rfl ?_
  refine r_iload_n (pc := 21) C 3 d_Model_figure_21 rfl rfl ?_
  refine r_callSi (pc := 22) (As := [.int (D3 176 17), .int v2, .int v3]) (rest := []) C ok_Model_in Lm_Model_118 ⟨by decide, by decide⟩ rfl rfl (Nat.le_of_ble_eq_true rfl) d_Model_figure_22 hf (fun x D1 hc => c_Model_in Γ hc) (fun x4 D5 hf => ?_)
  refine r_istore (pc := 25) (lv' := [(4, .int x4), (0, .ref (Γ.2.1 176)), (1, .int v1), (2, .int v2), (3, .int v3)]) C d_Model_figure_25 (Nat.le_of_ble_eq_true rfl) rfl ?_
  refine r_aload_n (pc := 27) C 1 d_Model_figure_27 rfl rfl ?_
  refine r_dup (pc := 28) C d_Model_figure_28 rfl ?_
  refine g_Model_readAt (pc := 29) C k_id176 Lf_Model_143 d_Model_figure_29 ?_
  refine r_iload (pc := 32) C 0 d_Model_figure_32 rfl ?_
  refine r_if_eq (pc := 34) C (tgt := 41) d_Model_figure_34 (by decide) hf (fun c34 hf => ?_) (fun c34 hf => ?_)
  · refine r_iconst (pc := 41) C (v := 0) d_Model_figure_41 (by decide) ?_
    exact r_lv (pc := 42) C [0] rfl (tb_Model_figure_42 C hf)
  · refine r_iconst (pc := 37) C (v := 1) d_Model_figure_37 (by decide) ?_
    refine r_goto (pc := 38) C (tgt := 42) d_Model_figure_38 (by decide) ?_
    exact r_lv (pc := 42) C [0] rfl (tb_Model_figure_42 C hf)
theorem c_Model_figure (Γ : GmT) {v1 : Int32} {v2 : Int32} {v3 : Int32} {D : Dt} {rr : Int32} {DD : Dt} (hf : f_Model_figure v1 v2 v3 D = some (rr, DD)) : Mt Γ y_Model_figure b_Model_figure 5 (some .boolean) 2 [.ref (Γ.2.1 176), .int v1, .int v2, .int v3] D (some (.int rr)) DD := Mt_of (by decide) (Nat.le_of_ble_eq_true rfl) (fun G C => te_Model_figure C hf)
def f_Model_readsFlow (v1 : Int32) (D : Dt) : Option (Int32 × Dt) :=
  bnd (f_Model_byteAt v1 (D 176 16) D) (fun x1 D2 => (if x1 = 113 then nm (wr D2 176 16 ((D2 176 16) + 1)) (fun D3 => bnd (f_Model_figure v1 1 9 D3) (fun x4 D5 => (if x4 = 0 then some (0, D5) else bnd (f_Model_figure v1 0 9 D5) (fun x6 D7 => (if x6 = 0 then some (0, D7) else nm (wr D7 176 18 (D5 176 17)) (fun D8 => nm (wr D8 176 19 (D8 176 17)) (fun D9 => some (1, D9)))))))) else some (0, D2)))
set_option maxHeartbeats 4000000 in
theorem te_Model_readsFlow {Γ : GmT} {G : Dt → Nat → List (Nat × Value) → List Value → Prop} {rr : Int32} {DD : Dt} (C : Cx Γ "RiverTuesdaysModel" b_Model_readsFlow 3 3 (some .boolean) (some (.int rr)) DD G) {v1 : Int32} {D : Dt} (hf : f_Model_readsFlow v1 D = some (rr, DD)) : G D 0 [(0, .ref (Γ.2.1 176)), (1, .int v1)] [] := by
  unfold f_Model_readsFlow at hf
  refine r_aload_n (pc := 0) C 0 d_Model_readsFlow_0 rfl rfl ?_
  refine r_iload_n (pc := 1) C 1 d_Model_readsFlow_1 rfl rfl ?_
  refine r_aload_n (pc := 2) C 0 d_Model_readsFlow_2 rfl rfl ?_
  refine g_Model_readAt (pc := 3) C k_id176 Lf_Model_143 d_Model_readsFlow_3 ?_
  refine r_callVi (pc := 6) (As := [.int v1, .int (D 176 16)]) (rest := []) C ok_Model_byteAt Lm_Model_146 k_id176 (by decide) ⟨by decide, by decide⟩ rfl rfl (Nat.le_of_ble_eq_true rfl) d_Model_readsFlow_6 hf (fun x D1 hc => c_Model_byteAt Γ hc) (fun x1 D2 hf => ?_)
  refine r_bipush (pc := 9) C (v := 113) d_Model_readsFlow_9 (by decide) ?_
  refine r_icmp_eq (pc := 11) C (tgt := 16) d_Model_readsFlow_11 (by decide) hf (fun c11 hf => ?_) (fun c11 hf => ?_)
  · refine r_aload_n (pc := 16) C 0 d_Model_readsFlow_16 rfl rfl ?_
    refine r_dup (pc := 17) C d_Model_readsFlow_17 rfl ?_
    refine g_Model_readAt (pc := 18) C k_id176 Lf_Model_143 d_Model_readsFlow_18 ?_
    refine r_iconst (pc := 21) C (v := 1) d_Model_readsFlow_21 (by decide) ?_
    refine r_iadd (pc := 22) C d_Model_readsFlow_22 ?_
    refine p_Model_readAt (pc := 23) C k_id176 Lf_Model_143 d_Model_readsFlow_23 ?_
    refine r_nmD hf (fun D3 hf => ?_)
    refine r_aload_n (pc := 26) C 0 d_Model_readsFlow_26 rfl rfl ?_
    refine r_iload_n (pc := 27) C 1 d_Model_readsFlow_27 rfl rfl ?_
    refine r_iconst (pc := 28) C (v := 1) d_Model_readsFlow_28 (by decide) ?_
    refine r_bipush (pc := 29) C (v := 9) d_Model_readsFlow_29 (by decide) ?_
    refine r_callVi (pc := 31) (As := [.int v1, .int 1, .int 9]) (rest := []) C ok_Model_figure Lm_Model_152 k_id176 (by decide) ⟨by decide, by decide⟩ rfl rfl (Nat.le_of_ble_eq_true rfl) d_Model_readsFlow_31 hf (fun x D1 hc => c_Model_figure Γ hc) (fun x4 D5 hf => ?_)
    refine r_if_ne (pc := 34) C (tgt := 39) d_Model_readsFlow_34 (by decide) hf (fun c34 hf => ?_) (fun c34 hf => ?_)
    · refine r_aload_n (pc := 39) C 0 d_Model_readsFlow_39 rfl rfl ?_
      refine g_Model_readNumber (pc := 40) C k_id176 Lf_Model_149 d_Model_readsFlow_40 ?_
      refine r_istore_n (pc := 43) (lv' := [(2, .int (D5 176 17)), (0, .ref (Γ.2.1 176)), (1, .int v1)]) C d_Model_readsFlow_43 rfl (Nat.le_of_ble_eq_true rfl) rfl ?_
      refine r_aload_n (pc := 44) C 1 d_Model_readsFlow_44 rfl rfl ?_
      refine r_iload_n (pc := 45) C 2 d_Model_readsFlow_45 rfl rfl ?_
      refine r_iconst (pc := 46) C (v := 0) d_Model_readsFlow_46 (by decide) ?_
      refine r_bipush (pc := 47) C (v := 9) d_Model_readsFlow_47 (by decide) ?_
      refine r_callVi (pc := 49) (As := [.int v1, .int 0, .int 9]) (rest := []) C ok_Model_figure Lm_Model_152 k_id176 (by decide) ⟨by decide, by decide⟩ rfl rfl (Nat.le_of_ble_eq_true rfl) d_Model_readsFlow_49 hf (fun x D1 hc => c_Model_figure Γ hc) (fun x6 D7 hf => ?_)
      refine r_if_ne (pc := 52) C (tgt := 57) d_Model_readsFlow_52 (by decide) hf (fun c52 hf => ?_) (fun c52 hf => ?_)
      · refine r_aload_n (pc := 57) C 1 d_Model_readsFlow_57 rfl rfl ?_
        refine r_iload_n (pc := 58) C 0 d_Model_readsFlow_58 rfl rfl ?_
        refine p_Model_readFlow (pc := 59) C k_id176 Lf_Model_155 d_Model_readsFlow_59 ?_
        refine r_nmD hf (fun D8 hf => ?_)
        refine r_aload_n (pc := 62) C 1 d_Model_readsFlow_62 rfl rfl ?_
        refine r_aload_n (pc := 63) C 1 d_Model_readsFlow_63 rfl rfl ?_
        refine g_Model_readNumber (pc := 64) C k_id176 Lf_Model_149 d_Model_readsFlow_64 ?_
        refine p_Model_readSea (pc := 67) C k_id176 Lf_Model_158 d_Model_readsFlow_67 ?_
        refine r_nmD hf (fun D9 hf => ?_)
        refine r_iconst (pc := 70) C (v := 1) d_Model_readsFlow_70 (by decide) ?_
        exact r_zret (pc := 71) C d_Model_readsFlow_71 rfl hf
      · refine r_iconst (pc := 55) C (v := 0) d_Model_readsFlow_55 (by decide) ?_
        exact r_zret (pc := 56) C d_Model_readsFlow_56 rfl hf
    · refine r_iconst (pc := 37) C (v := 0) d_Model_readsFlow_37 (by decide) ?_
      exact r_zret (pc := 38) C d_Model_readsFlow_38 rfl hf
  · refine r_iconst (pc := 14) C (v := 0) d_Model_readsFlow_14 (by decide) ?_
    exact r_zret (pc := 15) C d_Model_readsFlow_15 rfl hf
theorem c_Model_readsFlow (Γ : GmT) {v1 : Int32} {D : Dt} {rr : Int32} {DD : Dt} (hf : f_Model_readsFlow v1 D = some (rr, DD)) : Mt Γ y_Model_readsFlow b_Model_readsFlow 3 (some .boolean) 3 [.ref (Γ.2.1 176), .int v1] D (some (.int rr)) DD := Mt_of (by decide) (Nat.le_of_ble_eq_true rfl) (fun G C => te_Model_readsFlow C hf)
def s_Model_readsHouse_54 (k54 : Int32 → Int32 → Dt → Option (Int32 × Dt)) (v1 : Int32) (v3 : Int32) (D : Dt) : Option (Int32 × Dt) :=
  (if 4 ≤ v3 then nm (wr D 176 20 ((D 176 20) + 1)) (fun D7 => some (1, D7)) else bnd (f_Model_figure v1 0 9 D) (fun x8 D9 => (if x8 = 0 then some (0, D9) else (if inb ((4 * (D9 176 20)) + v3) 32 = true then nm (wr D9 188 ((4 * (D9 176 20)) + v3).toNatClampNeg (D9 176 17)) (fun D10 => k54 v1 (v3 + 1) D10) else none))))
def lp_Model_readsHouse_54 (n : Nat) : Int32 → Int32 → Dt → Option (Int32 × Dt) := itr (fun _ _ _ => none) (s_Model_readsHouse_54) n
set_option maxHeartbeats 4000000 in
theorem ts_Model_readsHouse_54 {Γ : GmT} {G : Dt → Nat → List (Nat × Value) → List Value → Prop} {rr : Int32} {DD : Dt} (C : Cx Γ "RiverTuesdaysModel" b_Model_readsHouse 4 3 (some .boolean) (some (.int rr)) DD G) {k54 : Int32 → Int32 → Dt → Option (Int32 × Dt)} (hk54 : ∀ (v1 : Int32) (v3 : Int32) (D : Dt), k54 v1 v3 D = some (rr, DD) → G D 54 [(0, .ref (Γ.2.1 176)), (1, .int v1), (3, .int v3)] []) {v1 : Int32} {v3 : Int32} {D : Dt} (hf : s_Model_readsHouse_54 k54 v1 v3 D = some (rr, DD)) : G D 54 [(0, .ref (Γ.2.1 176)), (1, .int v1), (3, .int v3)] [] := by
  unfold s_Model_readsHouse_54 at hf
  refine r_iload_n (pc := 54) C 2 d_Model_readsHouse_54 rfl rfl ?_
  refine r_iconst (pc := 55) C (v := 4) d_Model_readsHouse_55 (by decide) ?_
  refine r_icmp_ge (pc := 56) C (tgt := 95) d_Model_readsHouse_56 (by decide) hf (fun c56 hf => ?_) (fun c56 hf => ?_)
  · refine r_aload_n (pc := 95) C 0 d_Model_readsHouse_95 rfl rfl ?_
    refine r_dup (pc := 96) C d_Model_readsHouse_96 rfl ?_
    refine g_Model_readMany (pc := 97) C k_id176 Lf_Model_164 d_Model_readsHouse_97 ?_
    refine r_iconst (pc := 100) C (v := 1) d_Model_readsHouse_100 (by decide) ?_
    refine r_iadd (pc := 101) C d_Model_readsHouse_101 ?_
    refine p_Model_readMany (pc := 102) C k_id176 Lf_Model_164 d_Model_readsHouse_102 ?_
    refine r_nmD hf (fun D7 hf => ?_)
    refine r_iconst (pc := 105) C (v := 1) d_Model_readsHouse_105 (by decide) ?_
    exact r_zret (pc := 106) C d_Model_readsHouse_106 rfl hf
  · refine r_aload_n (pc := 59) C 0 d_Model_readsHouse_59 rfl rfl ?_
    refine r_iload_n (pc := 60) C 1 d_Model_readsHouse_60 rfl rfl ?_
    refine r_iconst (pc := 61) C (v := 0) d_Model_readsHouse_61 (by decide) ?_
    refine r_bipush (pc := 62) C (v := 9) d_Model_readsHouse_62 (by decide) ?_
    refine r_callVi (pc := 64) (As := [.int v1, .int 0, .int 9]) (rest := []) C ok_Model_figure Lm_Model_152 k_id176 (by decide) ⟨by decide, by decide⟩ rfl rfl (Nat.le_of_ble_eq_true rfl) d_Model_readsHouse_64 hf (fun x D1 hc => c_Model_figure Γ hc) (fun x8 D9 hf => ?_)
    refine r_if_ne (pc := 67) C (tgt := 72) d_Model_readsHouse_67 (by decide) hf (fun c67 hf => ?_) (fun c67 hf => ?_)
    · refine r_aload_n (pc := 72) C 0 d_Model_readsHouse_72 rfl rfl ?_
      refine g_Model_readHouses (pc := 73) C k_id176 Lf_Model_44 d_Model_readsHouse_73 ?_
      refine r_iconst (pc := 76) C (v := 4) d_Model_readsHouse_76 (by decide) ?_
      refine r_aload_n (pc := 77) C 0 d_Model_readsHouse_77 rfl rfl ?_
      refine g_Model_readMany (pc := 78) C k_id176 Lf_Model_164 d_Model_readsHouse_78 ?_
      refine r_imul (pc := 81) C d_Model_readsHouse_81 ?_
      refine r_iload_n (pc := 82) C 2 d_Model_readsHouse_82 rfl rfl ?_
      refine r_iadd (pc := 83) C d_Model_readsHouse_83 ?_
      refine r_aload_n (pc := 84) C 0 d_Model_readsHouse_84 rfl rfl ?_
      refine g_Model_readNumber (pc := 85) C k_id176 Lf_Model_149 d_Model_readsHouse_85 ?_
      refine r_iast (pc := 88) C kq_Model_readHouses d_Model_readsHouse_88 hf (fun hf => ?_)
      refine r_nmD hf (fun D10 hf => ?_)
      refine r_iinc (pc := 89) C (v := v3 + 1) (lv' := [(3, .int (v3 + 1)), (0, .ref (Γ.2.1 176)), (1, .int v1)]) 2 d_Model_readsHouse_89 rfl rfl (Nat.le_of_ble_eq_true rfl) rfl ?_
      refine r_goto (pc := 92) C (tgt := 54) d_Model_readsHouse_92 (by decide) ?_
      exact r_lv (pc := 54) C [1, 2, 0] rfl (hk54 v1 (v3 + 1) D10 hf)
    · refine r_iconst (pc := 70) C (v := 0) d_Model_readsHouse_70 (by decide) ?_
      exact r_zret (pc := 71) C d_Model_readsHouse_71 rfl hf
theorem tl_Model_readsHouse_54 {Γ : GmT} {G : Dt → Nat → List (Nat × Value) → List Value → Prop} {rr : Int32} {DD : Dt} (C : Cx Γ "RiverTuesdaysModel" b_Model_readsHouse 4 3 (some .boolean) (some (.int rr)) DD G) : ∀ (n : Nat) (v1 : Int32) (v3 : Int32) (D : Dt), lp_Model_readsHouse_54 n v1 v3 D = some (rr, DD) → G D 54 [(0, .ref (Γ.2.1 176)), (1, .int v1), (3, .int v3)] [] := by
  intro n
  induction n with
  | zero =>
    intro v1 v3 D hf
    exact absurd (show (none : Option (Int32 × Dt)) = some (rr, DD) from hf) (by simp)
  | succ n ih =>
    intro v1 v3 D hf
    exact ts_Model_readsHouse_54 C (k54 := lp_Model_readsHouse_54 n) ih hf
def f_Model_readsHouse (v1 : Int32) (D : Dt) : Option (Int32 × Dt) :=
  bnd (f_Model_byteAt v1 (D 176 16) D) (fun x1 D2 => bnd (f_Model_kindOf x1 D2) (fun x3 D4 => (if x3 = (-9) then some (0, D4) else (if (D4 176 20) = 8 then some (0, D4) else nm (wr D4 176 16 ((D4 176 16) + 1)) (fun D5 => (if inb (4 * (D5 176 20)) 32 = true then nm (wr D5 188 (4 * (D5 176 20)).toNatClampNeg x3) (fun D6 => lp_Model_readsHouse_54 FU v1 1 D6) else none))))))
set_option maxHeartbeats 4000000 in
theorem te_Model_readsHouse {Γ : GmT} {G : Dt → Nat → List (Nat × Value) → List Value → Prop} {rr : Int32} {DD : Dt} (C : Cx Γ "RiverTuesdaysModel" b_Model_readsHouse 4 3 (some .boolean) (some (.int rr)) DD G) {v1 : Int32} {D : Dt} (hf : f_Model_readsHouse v1 D = some (rr, DD)) : G D 0 [(0, .ref (Γ.2.1 176)), (1, .int v1)] [] := by
  unfold f_Model_readsHouse at hf
  refine r_aload_n (pc := 0) C 0 d_Model_readsHouse_0 rfl rfl ?_
  refine r_iload_n (pc := 1) C 1 d_Model_readsHouse_1 rfl rfl ?_
  refine r_aload_n (pc := 2) C 0 d_Model_readsHouse_2 rfl rfl ?_
  refine g_Model_readAt (pc := 3) C k_id176 Lf_Model_143 d_Model_readsHouse_3 ?_
  refine r_callVi (pc := 6) (As := [.int v1, .int (D 176 16)]) (rest := []) C ok_Model_byteAt Lm_Model_146 k_id176 (by decide) ⟨by decide, by decide⟩ rfl rfl (Nat.le_of_ble_eq_true rfl) d_Model_readsHouse_6 hf (fun x D1 hc => c_Model_byteAt Γ hc) (fun x1 D2 hf => ?_)
  refine r_callSi (pc := 9) (As := [.int x1]) (rest := []) C ok_Model_kindOf Lm_Model_161 ⟨by decide, by decide⟩ rfl rfl (Nat.le_of_ble_eq_true rfl) d_Model_readsHouse_9 hf (fun x D1 hc => c_Model_kindOf Γ hc) (fun x3 D4 hf => ?_)
  refine r_istore_n (pc := 12) (lv' := [(2, .int x3), (0, .ref (Γ.2.1 176)), (1, .int v1)]) C d_Model_readsHouse_12 rfl (Nat.le_of_ble_eq_true rfl) rfl ?_
  refine r_iload_n (pc := 13) C 0 d_Model_readsHouse_13 rfl rfl ?_
  refine r_bipush (pc := 14) C (v := (-9)) d_Model_readsHouse_14 (by decide) ?_
  refine r_icmp_eq (pc := 16) C (tgt := 28) d_Model_readsHouse_16 (by decide) hf (fun c16 hf => ?_) (fun c16 hf => ?_)
  · refine r_iconst (pc := 28) C (v := 0) d_Model_readsHouse_28 (by decide) ?_
    exact r_zret (pc := 29) C d_Model_readsHouse_29 rfl hf
  · refine r_aload_n (pc := 19) C 1 d_Model_readsHouse_19 rfl rfl ?_
    refine g_Model_readMany (pc := 20) C k_id176 Lf_Model_164 d_Model_readsHouse_20 ?_
    refine r_bipush (pc := 23) C (v := 8) d_Model_readsHouse_23 (by decide) ?_
    refine r_icmp_ne (pc := 25) C (tgt := 30) d_Model_readsHouse_25 (by decide) hf (fun c25 hf => ?_) (fun c25 hf => ?_)
    · refine r_aload_n (pc := 30) C 1 d_Model_readsHouse_30 rfl rfl ?_
      refine r_dup (pc := 31) C d_Model_readsHouse_31 rfl ?_
      refine g_Model_readAt (pc := 32) C k_id176 Lf_Model_143 d_Model_readsHouse_32 ?_
      refine r_iconst (pc := 35) C (v := 1) d_Model_readsHouse_35 (by decide) ?_
      refine r_iadd (pc := 36) C d_Model_readsHouse_36 ?_
      refine p_Model_readAt (pc := 37) C k_id176 Lf_Model_143 d_Model_readsHouse_37 ?_
      refine r_nmD hf (fun D5 hf => ?_)
      refine r_aload_n (pc := 40) C 1 d_Model_readsHouse_40 rfl rfl ?_
      refine g_Model_readHouses (pc := 41) C k_id176 Lf_Model_44 d_Model_readsHouse_41 ?_
      refine r_iconst (pc := 44) C (v := 4) d_Model_readsHouse_44 (by decide) ?_
      refine r_aload_n (pc := 45) C 1 d_Model_readsHouse_45 rfl rfl ?_
      refine g_Model_readMany (pc := 46) C k_id176 Lf_Model_164 d_Model_readsHouse_46 ?_
      refine r_imul (pc := 49) C d_Model_readsHouse_49 ?_
      refine r_iload_n (pc := 50) C 0 d_Model_readsHouse_50 rfl rfl ?_
      refine r_iast (pc := 51) C kq_Model_readHouses d_Model_readsHouse_51 hf (fun hf => ?_)
      refine r_nmD hf (fun D6 hf => ?_)
      refine r_iconst (pc := 52) C (v := 1) d_Model_readsHouse_52 (by decide) ?_
      refine r_istore_n (pc := 53) (lv' := [(3, .int 1), (2, .int x3), (0, .ref (Γ.2.1 176)), (1, .int v1)]) C d_Model_readsHouse_53 rfl (Nat.le_of_ble_eq_true rfl) rfl ?_
      exact r_lv (pc := 54) C [2, 3, 0] rfl (tl_Model_readsHouse_54 C FU v1 1 D6 hf)
    · refine r_iconst (pc := 28) C (v := 0) d_Model_readsHouse_28 (by decide) ?_
      exact r_zret (pc := 29) C d_Model_readsHouse_29 rfl hf
theorem c_Model_readsHouse (Γ : GmT) {v1 : Int32} {D : Dt} {rr : Int32} {DD : Dt} (hf : f_Model_readsHouse v1 D = some (rr, DD)) : Mt Γ y_Model_readsHouse b_Model_readsHouse 4 (some .boolean) 3 [.ref (Γ.2.1 176), .int v1] D (some (.int rr)) DD := Mt_of (by decide) (Nat.le_of_ble_eq_true rfl) (fun G C => te_Model_readsHouse C hf)
def b_Model_faultOf_81 (D : Dt) : Option (Int32 × Dt) :=
  some (D 176 16, D)
set_option maxHeartbeats 4000000 in
theorem tb_Model_faultOf_81 {Γ : GmT} {G : Dt → Nat → List (Nat × Value) → List Value → Prop} {rr : Int32} {DD : Dt} (C : Cx Γ "RiverTuesdaysModel" b_Model_faultOf 2 4 (some .int) (some (.int rr)) DD G) {D : Dt} (hf : b_Model_faultOf_81 D = some (rr, DD)) : G D 81 [(0, .ref (Γ.2.1 176))] [] := by
  unfold b_Model_faultOf_81 at hf
  refine r_aload_n (pc := 81) C 0 d_Model_faultOf_81 rfl rfl ?_
  refine g_Model_readAt (pc := 82) C k_id176 Lf_Model_143 d_Model_faultOf_82 ?_
  exact r_iret (pc := 85) C d_Model_faultOf_85 hf
def s_Model_faultOf_15 (k15 : Int32 → Dt → Option (Int32 × Dt)) (v1 : Int32) (D : Dt) : Option (Int32 × Dt) :=
  (if inb v1 4 = true then (if (D 181 v1.toNatClampNeg) ≤ (D 176 16) then (if (D 176 18) = 0 then (if inb v1 4 = true then some (D 181 v1.toNatClampNeg, D) else none) else some ((-9), D)) else bnd (f_Model_byteAt v1 (D 176 16) D) (fun x4 D5 => (if x4 = 32 then nm (wr D5 176 16 ((D5 176 16) + 1)) (fun D10 => k15 v1 D10) else (if (D5 176 18) = 0 then bnd (f_Model_readsFlow v1 D5) (fun x8 D9 => (if x8 = 0 then b_Model_faultOf_81 D9 else k15 v1 D9)) else bnd (f_Model_readsHouse v1 D5) (fun x6 D7 => (if x6 = 0 then b_Model_faultOf_81 D7 else k15 v1 D7)))))) else none)
def lp_Model_faultOf_15 (n : Nat) : Int32 → Dt → Option (Int32 × Dt) := itr (fun _ _ => none) (s_Model_faultOf_15) n
set_option maxHeartbeats 4000000 in
theorem ts_Model_faultOf_15 {Γ : GmT} {G : Dt → Nat → List (Nat × Value) → List Value → Prop} {rr : Int32} {DD : Dt} (C : Cx Γ "RiverTuesdaysModel" b_Model_faultOf 2 4 (some .int) (some (.int rr)) DD G) {k15 : Int32 → Dt → Option (Int32 × Dt)} (hk15 : ∀ (v1 : Int32) (D : Dt), k15 v1 D = some (rr, DD) → G D 15 [(0, .ref (Γ.2.1 176)), (1, .int v1)] []) {v1 : Int32} {D : Dt} (hf : s_Model_faultOf_15 k15 v1 D = some (rr, DD)) : G D 15 [(0, .ref (Γ.2.1 176)), (1, .int v1)] [] := by
  unfold s_Model_faultOf_15 at hf
  refine r_aload_n (pc := 15) C 0 d_Model_faultOf_15 rfl rfl ?_
  refine g_Model_readAt (pc := 16) C k_id176 Lf_Model_143 d_Model_faultOf_16 ?_
  refine r_aload_n (pc := 19) C 0 d_Model_faultOf_19 rfl rfl ?_
  refine g_Model_textSizes (pc := 20) C k_id176 Lf_Model_22 d_Model_faultOf_20 ?_
  refine r_iload_n (pc := 23) C 1 d_Model_faultOf_23 rfl rfl ?_
  refine r_iald (pc := 24) C kq_Model_textSizes d_Model_faultOf_24 hf (fun hf => ?_)
  refine r_icmp_ge (pc := 25) C (tgt := 86) d_Model_faultOf_25 (by decide) hf (fun c25 hf => ?_) (fun c25 hf => ?_)
  · refine r_aload_n (pc := 86) C 0 d_Model_faultOf_86 rfl rfl ?_
    refine g_Model_readFlow (pc := 87) C k_id176 Lf_Model_155 d_Model_faultOf_87 ?_
    refine r_if_ne (pc := 90) C (tgt := 102) d_Model_faultOf_90 (by decide) hf (fun c90 hf => ?_) (fun c90 hf => ?_)
    · refine r_bipush (pc := 102) C (v := (-9)) d_Model_faultOf_102 (by decide) ?_
      exact r_iret (pc := 104) C d_Model_faultOf_104 hf
    · refine r_aload_n (pc := 93) C 0 d_Model_faultOf_93 rfl rfl ?_
      refine g_Model_textSizes (pc := 94) C k_id176 Lf_Model_22 d_Model_faultOf_94 ?_
      refine r_iload_n (pc := 97) C 1 d_Model_faultOf_97 rfl rfl ?_
      refine r_iald (pc := 98) C kq_Model_textSizes d_Model_faultOf_98 hf (fun hf => ?_)
      refine r_goto (pc := 99) C (tgt := 104) d_Model_faultOf_99 (by decide) ?_
      exact r_iret (pc := 104) C d_Model_faultOf_104 hf
  · refine r_aload_n (pc := 28) C 0 d_Model_faultOf_28 rfl rfl ?_
    refine r_iload_n (pc := 29) C 1 d_Model_faultOf_29 rfl rfl ?_
    refine r_aload_n (pc := 30) C 0 d_Model_faultOf_30 rfl rfl ?_
    refine g_Model_readAt (pc := 31) C k_id176 Lf_Model_143 d_Model_faultOf_31 ?_
    refine r_callVi (pc := 34) (As := [.int v1, .int (D 176 16)]) (rest := []) C ok_Model_byteAt Lm_Model_146 k_id176 (by decide) ⟨by decide, by decide⟩ rfl rfl (Nat.le_of_ble_eq_true rfl) d_Model_faultOf_34 hf (fun x D1 hc => c_Model_byteAt Γ hc) (fun x4 D5 hf => ?_)
    refine r_bipush (pc := 37) C (v := 32) d_Model_faultOf_37 (by decide) ?_
    refine r_icmp_ne (pc := 39) C (tgt := 55) d_Model_faultOf_39 (by decide) hf (fun c39 hf => ?_) (fun c39 hf => ?_)
    · refine r_aload_n (pc := 55) C 0 d_Model_faultOf_55 rfl rfl ?_
      refine g_Model_readFlow (pc := 56) C k_id176 Lf_Model_155 d_Model_faultOf_56 ?_
      refine r_if_ne (pc := 59) C (tgt := 73) d_Model_faultOf_59 (by decide) hf (fun c59 hf => ?_) (fun c59 hf => ?_)
      · refine r_aload_n (pc := 73) C 0 d_Model_faultOf_73 rfl rfl ?_
        refine r_iload_n (pc := 74) C 1 d_Model_faultOf_74 rfl rfl ?_
        refine r_callVi (pc := 75) (As := [.int v1]) (rest := []) C ok_Model_readsHouse Lm_Model_170 k_id176 (by decide) ⟨by decide, by decide⟩ rfl rfl (Nat.le_of_ble_eq_true rfl) d_Model_faultOf_75 hf (fun x D1 hc => c_Model_readsHouse Γ hc) (fun x6 D7 hf => ?_)
        refine r_if_ne (pc := 78) C (tgt := 15) d_Model_faultOf_78 (by decide) hf (fun c78 hf => ?_) (fun c78 hf => ?_)
        · exact r_lv (pc := 15) C [0, 1] rfl (hk15 v1 D7 hf)
        · exact r_lv (pc := 81) C [0] rfl (tb_Model_faultOf_81 C hf)
      · refine r_aload_n (pc := 62) C 0 d_Model_faultOf_62 rfl rfl ?_
        refine r_iload_n (pc := 63) C 1 d_Model_faultOf_63 rfl rfl ?_
        refine r_callVi (pc := 64) (As := [.int v1]) (rest := []) C ok_Model_readsFlow Lm_Model_167 k_id176 (by decide) ⟨by decide, by decide⟩ rfl rfl (Nat.le_of_ble_eq_true rfl) d_Model_faultOf_64 hf (fun x D1 hc => c_Model_readsFlow Γ hc) (fun x8 D9 hf => ?_)
        refine r_if_eq (pc := 67) C (tgt := 81) d_Model_faultOf_67 (by decide) hf (fun c67 hf => ?_) (fun c67 hf => ?_)
        · exact r_lv (pc := 81) C [0] rfl (tb_Model_faultOf_81 C hf)
        · refine r_goto (pc := 70) C (tgt := 15) d_Model_faultOf_70 (by decide) ?_
          exact r_lv (pc := 15) C [0, 1] rfl (hk15 v1 D9 hf)
    · refine r_aload_n (pc := 42) C 0 d_Model_faultOf_42 rfl rfl ?_
      refine r_dup (pc := 43) C d_Model_faultOf_43 rfl ?_
      refine g_Model_readAt (pc := 44) C k_id176 Lf_Model_143 d_Model_faultOf_44 ?_
      refine r_iconst (pc := 47) C (v := 1) d_Model_faultOf_47 (by decide) ?_
      refine r_iadd (pc := 48) C d_Model_faultOf_48 ?_
      refine p_Model_readAt (pc := 49) C k_id176 Lf_Model_143 d_Model_faultOf_49 ?_
      refine r_nmD hf (fun D10 hf => ?_)
      refine r_goto (pc := 52) C (tgt := 15) d_Model_faultOf_52 (by decide) ?_
      exact r_lv (pc := 15) C [0, 1] rfl (hk15 v1 D10 hf)
theorem tl_Model_faultOf_15 {Γ : GmT} {G : Dt → Nat → List (Nat × Value) → List Value → Prop} {rr : Int32} {DD : Dt} (C : Cx Γ "RiverTuesdaysModel" b_Model_faultOf 2 4 (some .int) (some (.int rr)) DD G) : ∀ (n : Nat) (v1 : Int32) (D : Dt), lp_Model_faultOf_15 n v1 D = some (rr, DD) → G D 15 [(0, .ref (Γ.2.1 176)), (1, .int v1)] [] := by
  intro n
  induction n with
  | zero =>
    intro v1 D hf
    exact absurd (show (none : Option (Int32 × Dt)) = some (rr, DD) from hf) (by simp)
  | succ n ih =>
    intro v1 D hf
    exact ts_Model_faultOf_15 C (k15 := lp_Model_faultOf_15 n) ih hf
def f_Model_faultOf (v1 : Int32) (D : Dt) : Option (Int32 × Dt) :=
  nm (wr D 176 16 0) (fun D1 => nm (wr D1 176 18 0) (fun D2 => nm (wr D2 176 20 0) (fun D3 => lp_Model_faultOf_15 FU v1 D3)))
set_option maxHeartbeats 4000000 in
theorem te_Model_faultOf {Γ : GmT} {G : Dt → Nat → List (Nat × Value) → List Value → Prop} {rr : Int32} {DD : Dt} (C : Cx Γ "RiverTuesdaysModel" b_Model_faultOf 2 4 (some .int) (some (.int rr)) DD G) {v1 : Int32} {D : Dt} (hf : f_Model_faultOf v1 D = some (rr, DD)) : G D 0 [(0, .ref (Γ.2.1 176)), (1, .int v1)] [] := by
  unfold f_Model_faultOf at hf
  refine r_aload_n (pc := 0) C 0 d_Model_faultOf_0 rfl rfl ?_
  refine r_iconst (pc := 1) C (v := 0) d_Model_faultOf_1 (by decide) ?_
  refine p_Model_readAt (pc := 2) C k_id176 Lf_Model_143 d_Model_faultOf_2 ?_
  refine r_nmD hf (fun D1 hf => ?_)
  refine r_aload_n (pc := 5) C 0 d_Model_faultOf_5 rfl rfl ?_
  refine r_iconst (pc := 6) C (v := 0) d_Model_faultOf_6 (by decide) ?_
  refine p_Model_readFlow (pc := 7) C k_id176 Lf_Model_155 d_Model_faultOf_7 ?_
  refine r_nmD hf (fun D2 hf => ?_)
  refine r_aload_n (pc := 10) C 0 d_Model_faultOf_10 rfl rfl ?_
  refine r_iconst (pc := 11) C (v := 0) d_Model_faultOf_11 (by decide) ?_
  refine p_Model_readMany (pc := 12) C k_id176 Lf_Model_164 d_Model_faultOf_12 ?_
  refine r_nmD hf (fun D3 hf => ?_)
  exact r_lv (pc := 15) C [0, 1] rfl (tl_Model_faultOf_15 C FU v1 D3 hf)
theorem c_Model_faultOf (Γ : GmT) {v1 : Int32} {D : Dt} {rr : Int32} {DD : Dt} (hf : f_Model_faultOf v1 D = some (rr, DD)) : Mt Γ y_Model_faultOf b_Model_faultOf 2 (some .int) 4 [.ref (Γ.2.1 176), .int v1] D (some (.int rr)) DD := Mt_of (by decide) (Nat.le_of_ble_eq_true rfl) (fun G C => te_Model_faultOf C hf)
def f_Model_fault (v1 : Int32) (D : Dt) : Option (Int32 × Dt) :=
  bnd (f_Model_isText v1 D) (fun x1 D2 => (if x1 = 0 then some ((-1), D2) else (if inb v1 4 = true then (if 0 ≤ (D2 181 v1.toNatClampNeg) then bnd (f_Model_faultOf v1 D2) (fun x3 D4 => some (x3, D4)) else bnd (f_Model_meets 1 D2) (fun x5 D6 => some (x5, D6))) else none)))
set_option maxHeartbeats 4000000 in
theorem te_Model_fault {Γ : GmT} {G : Dt → Nat → List (Nat × Value) → List Value → Prop} {rr : Int32} {DD : Dt} (C : Cx Γ "RiverTuesdaysModel" b_Model_fault 2 5 (some .int) (some (.int rr)) DD G) {v1 : Int32} {D : Dt} (hf : f_Model_fault v1 D = some (rr, DD)) : G D 0 [(0, .ref (Γ.2.1 176)), (1, .int v1)] [] := by
  unfold f_Model_fault at hf
  refine r_iload_n (pc := 0) C 1 d_Model_fault_0 rfl rfl ?_
  refine r_callSi (pc := 1) (As := [.int v1]) (rest := []) C ok_Model_isText Lm_Model_140 ⟨by decide, by decide⟩ rfl rfl (Nat.le_of_ble_eq_true rfl) d_Model_fault_1 hf (fun x D1 hc => c_Model_isText Γ hc) (fun x1 D2 hf => ?_)
  refine r_if_ne (pc := 4) C (tgt := 9) d_Model_fault_4 (by decide) hf (fun c4 hf => ?_) (fun c4 hf => ?_)
  · refine r_aload_n (pc := 9) C 0 d_Model_fault_9 rfl rfl ?_
    refine g_Model_textSizes (pc := 10) C k_id176 Lf_Model_22 d_Model_fault_10 ?_
    refine r_iload_n (pc := 13) C 1 d_Model_fault_13 rfl rfl ?_
    refine r_iald (pc := 14) C kq_Model_textSizes d_Model_fault_14 hf (fun hf => ?_)
    refine r_if_ge (pc := 15) C (tgt := 26) d_Model_fault_15 (by decide) hf (fun c15 hf => ?_) (fun c15 hf => ?_)
    · refine r_aload_n (pc := 26) C 0 d_Model_fault_26 rfl rfl ?_
      refine r_iload_n (pc := 27) C 1 d_Model_fault_27 rfl rfl ?_
      refine r_callVi (pc := 28) (As := [.int v1]) (rest := []) C ok_Model_faultOf Lm_Model_173 k_id176 (by decide) ⟨by decide, by decide⟩ rfl rfl (Nat.le_of_ble_eq_true rfl) d_Model_fault_28 hf (fun x D1 hc => c_Model_faultOf Γ hc) (fun x3 D4 hf => ?_)
      exact r_iret (pc := 31) C d_Model_fault_31 hf
    · refine r_aload_n (pc := 18) C 0 d_Model_fault_18 rfl rfl ?_
      refine r_iconst (pc := 19) C (v := 1) d_Model_fault_19 (by decide) ?_
      refine r_callVi (pc := 20) (As := [.int 1]) (rest := []) C ok_Model_meets Lm_Model_129 k_id176 (by decide) ⟨by decide, by decide⟩ rfl rfl (Nat.le_of_ble_eq_true rfl) d_Model_fault_20 hf (fun x D1 hc => c_Model_meets Γ hc) (fun x5 D6 hf => ?_)
      refine r_goto (pc := 23) C (tgt := 31) d_Model_fault_23 (by decide) ?_
      exact r_iret (pc := 31) C d_Model_fault_31 hf
  · refine r_iconst (pc := 7) C (v := (-1)) d_Model_fault_7 (by decide) ?_
    exact r_iret (pc := 8) C d_Model_fault_8 hf
theorem c_Model_fault (Γ : GmT) {v1 : Int32} {D : Dt} {rr : Int32} {DD : Dt} (hf : f_Model_fault v1 D = some (rr, DD)) : Mt Γ y_Model_fault b_Model_fault 2 (some .int) 5 [.ref (Γ.2.1 176), .int v1] D (some (.int rr)) DD := Mt_of (by decide) (Nat.le_of_ble_eq_true rfl) (fun G C => te_Model_fault C hf)
def f_Model_place (v1 : Int32) (v2 : Int32) (v3 : Int32) (D : Dt) : Option (Unit × Dt) :=
  (if inb ((26 * v1) + v2) 52 = true then nm (wr D 189 ((26 * v1) + v2).toNatClampNeg v3) (fun D1 => some ((), D1)) else none)
set_option maxHeartbeats 4000000 in
theorem te_Model_place {Γ : GmT} {G : Dt → Nat → List (Nat × Value) → List Value → Prop} {rr : Unit} {DD : Dt} (C : Cx Γ "RiverTuesdaysModel" b_Model_place 4 1 none none DD G) {v1 : Int32} {v2 : Int32} {v3 : Int32} {D : Dt} (hf : f_Model_place v1 v2 v3 D = some (rr, DD)) : G D 0 [(0, .ref (Γ.2.1 176)), (1, .int v1), (2, .int v2), (3, .int v3)] [] := by
  unfold f_Model_place at hf
  refine r_aload_n (pc := 0) C 0 d_Model_place_0 rfl rfl ?_
  refine g_Model_streets (pc := 1) C k_id176 Lf_Model_47 d_Model_place_1 ?_
  refine r_bipush (pc := 4) C (v := 26) d_Model_place_4 (by decide) ?_
  refine r_iload_n (pc := 6) C 1 d_Model_place_6 rfl rfl ?_
  refine r_imul (pc := 7) C d_Model_place_7 ?_
  refine r_iload_n (pc := 8) C 2 d_Model_place_8 rfl rfl ?_
  refine r_iadd (pc := 9) C d_Model_place_9 ?_
  refine r_iload_n (pc := 10) C 3 d_Model_place_10 rfl rfl ?_
  refine r_iast (pc := 11) C kq_Model_streets d_Model_place_11 hf (fun hf => ?_)
  refine r_nmD hf (fun D1 hf => ?_)
  exact r_vret (pc := 12) C d_Model_place_12 hf
theorem c_Model_place (Γ : GmT) {v1 : Int32} {v2 : Int32} {v3 : Int32} {D : Dt} {rr : Unit} {DD : Dt} (hf : f_Model_place v1 v2 v3 D = some (rr, DD)) : Mt Γ y_Model_place b_Model_place 4 none 1 [.ref (Γ.2.1 176), .int v1, .int v2, .int v3] D none DD := Mt_of (by decide) (Nat.le_of_ble_eq_true rfl) (fun G C => te_Model_place C hf)
def s_Model_street_196 (k196 : Int32 → Dt → Option (Int32 × Dt)) (v2 : Int32) (D : Dt) : Option (Int32 × Dt) :=
  (if 3 ≤ v2 then some (D 176 10, D) else (if inb v2 3 = true then nm (wr D 193 v2.toNatClampNeg (-1)) (fun D9 => k196 (v2 + 1) D9) else none))
def lp_Model_street_196 (n : Nat) : Int32 → Dt → Option (Int32 × Dt) := itr (fun _ _ => none) (s_Model_street_196) n
set_option maxHeartbeats 4000000 in
theorem ts_Model_street_196 {Γ : GmT} {G : Dt → Nat → List (Nat × Value) → List Value → Prop} {rr : Int32} {DD : Dt} (C : Cx Γ "RiverTuesdaysModel" b_Model_street 3 5 (some .int) (some (.int rr)) DD G) {k196 : Int32 → Dt → Option (Int32 × Dt)} (hk196 : ∀ (v2 : Int32) (D : Dt), k196 v2 D = some (rr, DD) → G D 196 [(0, .ref (Γ.2.1 176)), (2, .int v2)] []) {v2 : Int32} {D : Dt} (hf : s_Model_street_196 k196 v2 D = some (rr, DD)) : G D 196 [(0, .ref (Γ.2.1 176)), (2, .int v2)] [] := by
  unfold s_Model_street_196 at hf
  refine r_iload_n (pc := 196) C 1 d_Model_street_196 rfl rfl ?_
  refine r_iconst (pc := 197) C (v := 3) d_Model_street_197 (by decide) ?_
  refine r_icmp_ge (pc := 198) C (tgt := 214) d_Model_street_198 (by decide) hf (fun c198 hf => ?_) (fun c198 hf => ?_)
  · refine r_aload_n (pc := 214) C 0 d_Model_street_214 rfl rfl ?_
    refine g_Model_n (pc := 215) C k_id176 Lf_Model_176 d_Model_street_215 ?_
    exact r_iret (pc := 218) C d_Model_street_218 hf
  · refine r_aload_n (pc := 201) C 0 d_Model_street_201 rfl rfl ?_
    refine g_Model_keptHours (pc := 202) C k_id176 Lf_Model_59 d_Model_street_202 ?_
    refine r_iload_n (pc := 205) C 1 d_Model_street_205 rfl rfl ?_
    refine r_iconst (pc := 206) C (v := (-1)) d_Model_street_206 (by decide) ?_
    refine r_iast (pc := 207) C kq_Model_keptHours d_Model_street_207 hf (fun hf => ?_)
    refine r_nmD hf (fun D9 hf => ?_)
    refine r_iinc (pc := 208) C (v := v2 + 1) (lv' := [(2, .int (v2 + 1)), (0, .ref (Γ.2.1 176))]) 1 d_Model_street_208 rfl rfl (Nat.le_of_ble_eq_true rfl) rfl ?_
    refine r_goto (pc := 211) C (tgt := 196) d_Model_street_211 (by decide) ?_
    exact r_lv (pc := 196) C [1, 0] rfl (hk196 (v2 + 1) D9 hf)
theorem tl_Model_street_196 {Γ : GmT} {G : Dt → Nat → List (Nat × Value) → List Value → Prop} {rr : Int32} {DD : Dt} (C : Cx Γ "RiverTuesdaysModel" b_Model_street 3 5 (some .int) (some (.int rr)) DD G) : ∀ (n : Nat) (v2 : Int32) (D : Dt), lp_Model_street_196 n v2 D = some (rr, DD) → G D 196 [(0, .ref (Γ.2.1 176)), (2, .int v2)] [] := by
  intro n
  induction n with
  | zero =>
    intro v2 D hf
    exact absurd (show (none : Option (Int32 × Dt)) = some (rr, DD) from hf) (by simp)
  | succ n ih =>
    intro v2 D hf
    exact ts_Model_street_196 C (k196 := lp_Model_street_196 n) ih hf
def s_Model_street_170 (k170 : Int32 → Dt → Option (Int32 × Dt)) (v2 : Int32) (D : Dt) : Option (Int32 × Dt) :=
  (if 26 ≤ v2 then nm (wr D 176 26 0) (fun D8 => lp_Model_street_196 FU 0 D8) else bnd (f_Model_place 0 v2 0 D) (fun x10 D11 => k170 (v2 + 1) D11))
def lp_Model_street_170 (n : Nat) : Int32 → Dt → Option (Int32 × Dt) := itr (fun _ _ => none) (s_Model_street_170) n
set_option maxHeartbeats 4000000 in
theorem ts_Model_street_170 {Γ : GmT} {G : Dt → Nat → List (Nat × Value) → List Value → Prop} {rr : Int32} {DD : Dt} (C : Cx Γ "RiverTuesdaysModel" b_Model_street 3 5 (some .int) (some (.int rr)) DD G) {k170 : Int32 → Dt → Option (Int32 × Dt)} (hk170 : ∀ (v2 : Int32) (D : Dt), k170 v2 D = some (rr, DD) → G D 170 [(0, .ref (Γ.2.1 176)), (2, .int v2)] []) {v2 : Int32} {D : Dt} (hf : s_Model_street_170 k170 v2 D = some (rr, DD)) : G D 170 [(0, .ref (Γ.2.1 176)), (2, .int v2)] [] := by
  unfold s_Model_street_170 at hf
  refine r_iload_n (pc := 170) C 1 d_Model_street_170 rfl rfl ?_
  refine r_bipush (pc := 171) C (v := 26) d_Model_street_171 (by decide) ?_
  refine r_icmp_ge (pc := 173) C (tgt := 189) d_Model_street_173 (by decide) hf (fun c173 hf => ?_) (fun c173 hf => ?_)
  · refine r_aload_n (pc := 189) C 0 d_Model_street_189 rfl rfl ?_
    refine r_iconst (pc := 190) C (v := 0) d_Model_street_190 (by decide) ?_
    refine p_Model_hourMany (pc := 191) C k_id176 Lf_Model_189 d_Model_street_191 ?_
    refine r_nmD hf (fun D8 hf => ?_)
    refine r_iconst (pc := 194) C (v := 0) d_Model_street_194 (by decide) ?_
    refine r_istore_n (pc := 195) (lv' := [(2, .int 0), (0, .ref (Γ.2.1 176))]) C d_Model_street_195 rfl (Nat.le_of_ble_eq_true rfl) rfl ?_
    exact r_lv (pc := 196) C [1, 0] rfl (tl_Model_street_196 C FU 0 D8 hf)
  · refine r_aload_n (pc := 176) C 0 d_Model_street_176 rfl rfl ?_
    refine r_iconst (pc := 177) C (v := 0) d_Model_street_177 (by decide) ?_
    refine r_iload_n (pc := 178) C 1 d_Model_street_178 rfl rfl ?_
    refine r_iconst (pc := 179) C (v := 0) d_Model_street_179 (by decide) ?_
    refine r_callVv (pc := 180) (As := [.int 0, .int v2, .int 0]) (rest := []) C ok_Model_place Lm_Model_185 k_id176 (by decide) ⟨by decide, by decide⟩ rfl rfl (Nat.le_of_ble_eq_true rfl) d_Model_street_180 hf (fun x D1 hc => c_Model_place Γ hc) (fun x10 D11 hf => ?_)
    refine r_iinc (pc := 183) C (v := v2 + 1) (lv' := [(2, .int (v2 + 1)), (0, .ref (Γ.2.1 176))]) 1 d_Model_street_183 rfl rfl (Nat.le_of_ble_eq_true rfl) rfl ?_
    refine r_goto (pc := 186) C (tgt := 170) d_Model_street_186 (by decide) ?_
    exact r_lv (pc := 170) C [1, 0] rfl (hk170 (v2 + 1) D11 hf)
theorem tl_Model_street_170 {Γ : GmT} {G : Dt → Nat → List (Nat × Value) → List Value → Prop} {rr : Int32} {DD : Dt} (C : Cx Γ "RiverTuesdaysModel" b_Model_street 3 5 (some .int) (some (.int rr)) DD G) : ∀ (n : Nat) (v2 : Int32) (D : Dt), lp_Model_street_170 n v2 D = some (rr, DD) → G D 170 [(0, .ref (Γ.2.1 176)), (2, .int v2)] [] := by
  intro n
  induction n with
  | zero =>
    intro v2 D hf
    exact absurd (show (none : Option (Int32 × Dt)) = some (rr, DD) from hf) (by simp)
  | succ n ih =>
    intro v2 D hf
    exact ts_Model_street_170 C (k170 := lp_Model_street_170 n) ih hf
def s_Model_street_85 (k85 : Int32 → Dt → Option (Int32 × Dt)) (v2 : Int32) (D : Dt) : Option (Int32 × Dt) :=
  (if (D 176 10) ≤ v2 then lp_Model_street_170 FU 0 D else (if inb (4 * v2) 32 = true then (if inb v2 8 = true then nm (wr D 183 v2.toNatClampNeg (D 188 (4 * v2).toNatClampNeg)) (fun D12 => (if inb ((4 * v2) + 1) 32 = true then (if inb v2 8 = true then nm (wr D12 184 v2.toNatClampNeg (D12 188 ((4 * v2) + 1).toNatClampNeg)) (fun D13 => (if inb ((4 * v2) + 2) 32 = true then (if inb v2 8 = true then nm (wr D13 185 v2.toNatClampNeg (D13 188 ((4 * v2) + 2).toNatClampNeg)) (fun D14 => (if inb ((4 * v2) + 3) 32 = true then (if inb v2 8 = true then nm (wr D14 186 v2.toNatClampNeg (D14 188 ((4 * v2) + 3).toNatClampNeg)) (fun D15 => (if inb v2 8 = true then nm (wr D15 187 v2.toNatClampNeg 0) (fun D16 => k85 (v2 + 1) D16) else none)) else none) else none)) else none) else none)) else none) else none)) else none) else none))
def lp_Model_street_85 (n : Nat) : Int32 → Dt → Option (Int32 × Dt) := itr (fun _ _ => none) (s_Model_street_85) n
set_option maxHeartbeats 4000000 in
theorem ts_Model_street_85 {Γ : GmT} {G : Dt → Nat → List (Nat × Value) → List Value → Prop} {rr : Int32} {DD : Dt} (C : Cx Γ "RiverTuesdaysModel" b_Model_street 3 5 (some .int) (some (.int rr)) DD G) {k85 : Int32 → Dt → Option (Int32 × Dt)} (hk85 : ∀ (v2 : Int32) (D : Dt), k85 v2 D = some (rr, DD) → G D 85 [(0, .ref (Γ.2.1 176)), (2, .int v2)] []) {v2 : Int32} {D : Dt} (hf : s_Model_street_85 k85 v2 D = some (rr, DD)) : G D 85 [(0, .ref (Γ.2.1 176)), (2, .int v2)] [] := by
  unfold s_Model_street_85 at hf
  refine r_iload_n (pc := 85) C 1 d_Model_street_85 rfl rfl ?_
  refine r_aload_n (pc := 86) C 0 d_Model_street_86 rfl rfl ?_
  refine g_Model_n (pc := 87) C k_id176 Lf_Model_176 d_Model_street_87 ?_
  refine r_icmp_ge (pc := 90) C (tgt := 168) d_Model_street_90 (by decide) hf (fun c90 hf => ?_) (fun c90 hf => ?_)
  · refine r_iconst (pc := 168) C (v := 0) d_Model_street_168 (by decide) ?_
    refine r_istore_n (pc := 169) (lv' := [(2, .int 0), (0, .ref (Γ.2.1 176))]) C d_Model_street_169 rfl (Nat.le_of_ble_eq_true rfl) rfl ?_
    exact r_lv (pc := 170) C [1, 0] rfl (tl_Model_street_170 C FU 0 D hf)
  · refine r_aload_n (pc := 93) C 0 d_Model_street_93 rfl rfl ?_
    refine g_Model_kinds (pc := 94) C k_id176 Lf_Model_29 d_Model_street_94 ?_
    refine r_iload_n (pc := 97) C 1 d_Model_street_97 rfl rfl ?_
    refine r_aload_n (pc := 98) C 0 d_Model_street_98 rfl rfl ?_
    refine g_Model_readHouses (pc := 99) C k_id176 Lf_Model_44 d_Model_street_99 ?_
    refine r_iconst (pc := 102) C (v := 4) d_Model_street_102 (by decide) ?_
    refine r_iload_n (pc := 103) C 1 d_Model_street_103 rfl rfl ?_
    refine r_imul (pc := 104) C d_Model_street_104 ?_
    refine r_iald (pc := 105) C kq_Model_readHouses d_Model_street_105 hf (fun hf => ?_)
    refine r_iast (pc := 106) C kq_Model_kinds d_Model_street_106 hf (fun hf => ?_)
    refine r_nmD hf (fun D12 hf => ?_)
    refine r_aload_n (pc := 107) C 0 d_Model_street_107 rfl rfl ?_
    refine g_Model_floors (pc := 108) C k_id176 Lf_Model_32 d_Model_street_108 ?_
    refine r_iload_n (pc := 111) C 1 d_Model_street_111 rfl rfl ?_
    refine r_aload_n (pc := 112) C 0 d_Model_street_112 rfl rfl ?_
    refine g_Model_readHouses (pc := 113) C k_id176 Lf_Model_44 d_Model_street_113 ?_
    refine r_iconst (pc := 116) C (v := 4) d_Model_street_116 (by decide) ?_
    refine r_iload_n (pc := 117) C 1 d_Model_street_117 rfl rfl ?_
    refine r_imul (pc := 118) C d_Model_street_118 ?_
    refine r_iconst (pc := 119) C (v := 1) d_Model_street_119 (by decide) ?_
    refine r_iadd (pc := 120) C d_Model_street_120 ?_
    refine r_iald (pc := 121) C kq_Model_readHouses d_Model_street_121 hf (fun hf => ?_)
    refine r_iast (pc := 122) C kq_Model_floors d_Model_street_122 hf (fun hf => ?_)
    refine r_nmD hf (fun D13 hf => ?_)
    refine r_aload_n (pc := 123) C 0 d_Model_street_123 rfl rfl ?_
    refine g_Model_sills (pc := 124) C k_id176 Lf_Model_35 d_Model_street_124 ?_
    refine r_iload_n (pc := 127) C 1 d_Model_street_127 rfl rfl ?_
    refine r_aload_n (pc := 128) C 0 d_Model_street_128 rfl rfl ?_
    refine g_Model_readHouses (pc := 129) C k_id176 Lf_Model_44 d_Model_street_129 ?_
    refine r_iconst (pc := 132) C (v := 4) d_Model_street_132 (by decide) ?_
    refine r_iload_n (pc := 133) C 1 d_Model_street_133 rfl rfl ?_
    refine r_imul (pc := 134) C d_Model_street_134 ?_
    refine r_iconst (pc := 135) C (v := 2) d_Model_street_135 (by decide) ?_
    refine r_iadd (pc := 136) C d_Model_street_136 ?_
    refine r_iald (pc := 137) C kq_Model_readHouses d_Model_street_137 hf (fun hf => ?_)
    refine r_iast (pc := 138) C kq_Model_sills d_Model_street_138 hf (fun hf => ?_)
    refine r_nmD hf (fun D14 hf => ?_)
    refine r_aload_n (pc := 139) C 0 d_Model_street_139 rfl rfl ?_
    refine g_Model_rooms (pc := 140) C k_id176 Lf_Model_38 d_Model_street_140 ?_
    refine r_iload_n (pc := 143) C 1 d_Model_street_143 rfl rfl ?_
    refine r_aload_n (pc := 144) C 0 d_Model_street_144 rfl rfl ?_
    refine g_Model_readHouses (pc := 145) C k_id176 Lf_Model_44 d_Model_street_145 ?_
    refine r_iconst (pc := 148) C (v := 4) d_Model_street_148 (by decide) ?_
    refine r_iload_n (pc := 149) C 1 d_Model_street_149 rfl rfl ?_
    refine r_imul (pc := 150) C d_Model_street_150 ?_
    refine r_iconst (pc := 151) C (v := 3) d_Model_street_151 (by decide) ?_
    refine r_iadd (pc := 152) C d_Model_street_152 ?_
    refine r_iald (pc := 153) C kq_Model_readHouses d_Model_street_153 hf (fun hf => ?_)
    refine r_iast (pc := 154) C kq_Model_rooms d_Model_street_154 hf (fun hf => ?_)
    refine r_nmD hf (fun D15 hf => ?_)
    refine r_aload_n (pc := 155) C 0 d_Model_street_155 rfl rfl ?_
    refine g_Model_shutNow (pc := 156) C k_id176 Lf_Model_41 d_Model_street_156 ?_
    refine r_iload_n (pc := 159) C 1 d_Model_street_159 rfl rfl ?_
    refine r_iconst (pc := 160) C (v := 0) d_Model_street_160 (by decide) ?_
    refine r_iast (pc := 161) C kq_Model_shutNow d_Model_street_161 hf (fun hf => ?_)
    refine r_nmD hf (fun D16 hf => ?_)
    refine r_iinc (pc := 162) C (v := v2 + 1) (lv' := [(2, .int (v2 + 1)), (0, .ref (Γ.2.1 176))]) 1 d_Model_street_162 rfl rfl (Nat.le_of_ble_eq_true rfl) rfl ?_
    refine r_goto (pc := 165) C (tgt := 85) d_Model_street_165 (by decide) ?_
    exact r_lv (pc := 85) C [1, 0] rfl (hk85 (v2 + 1) D16 hf)
theorem tl_Model_street_85 {Γ : GmT} {G : Dt → Nat → List (Nat × Value) → List Value → Prop} {rr : Int32} {DD : Dt} (C : Cx Γ "RiverTuesdaysModel" b_Model_street 3 5 (some .int) (some (.int rr)) DD G) : ∀ (n : Nat) (v2 : Int32) (D : Dt), lp_Model_street_85 n v2 D = some (rr, DD) → G D 85 [(0, .ref (Γ.2.1 176)), (2, .int v2)] [] := by
  intro n
  induction n with
  | zero =>
    intro v2 D hf
    exact absurd (show (none : Option (Int32 × Dt)) = some (rr, DD) from hf) (by simp)
  | succ n ih =>
    intro v2 D hf
    exact ts_Model_street_85 C (k85 := lp_Model_street_85 n) ih hf
def b_Model_street_80 (s0 : Int32) (D : Dt) : Option (Int32 × Dt) :=
  nm (wr D 176 9 s0) (fun D7 => lp_Model_street_85 FU 0 D7)
set_option maxHeartbeats 4000000 in
theorem tb_Model_street_80 {Γ : GmT} {G : Dt → Nat → List (Nat × Value) → List Value → Prop} {rr : Int32} {DD : Dt} (C : Cx Γ "RiverTuesdaysModel" b_Model_street 3 5 (some .int) (some (.int rr)) DD G) {s0 : Int32} {D : Dt} (hf : b_Model_street_80 s0 D = some (rr, DD)) : G D 80 [(0, .ref (Γ.2.1 176))] [.int s0, .ref (Γ.2.1 176)] := by
  unfold b_Model_street_80 at hf
  refine p_Model_sea (pc := 80) C k_id176 Lf_Model_182 d_Model_street_80 ?_
  refine r_nmD hf (fun D7 hf => ?_)
  refine r_iconst (pc := 83) C (v := 0) d_Model_street_83 (by decide) ?_
  refine r_istore_n (pc := 84) (lv' := [(2, .int 0), (0, .ref (Γ.2.1 176))]) C d_Model_street_84 rfl (Nat.le_of_ble_eq_true rfl) rfl ?_
  exact r_lv (pc := 85) C [1, 0] rfl (tl_Model_street_85 C FU 0 D7 hf)
def b_Model_street_61 (s0 : Int32) (D : Dt) : Option (Int32 × Dt) :=
  nm (wr D 176 8 s0) (fun D6 => (if (D6 176 10) = 0 then b_Model_street_80 0 D6 else b_Model_street_80 (D6 176 19) D6))
set_option maxHeartbeats 4000000 in
theorem tb_Model_street_61 {Γ : GmT} {G : Dt → Nat → List (Nat × Value) → List Value → Prop} {rr : Int32} {DD : Dt} (C : Cx Γ "RiverTuesdaysModel" b_Model_street 3 5 (some .int) (some (.int rr)) DD G) {s0 : Int32} {D : Dt} (hf : b_Model_street_61 s0 D = some (rr, DD)) : G D 61 [(0, .ref (Γ.2.1 176))] [.int s0, .ref (Γ.2.1 176)] := by
  unfold b_Model_street_61 at hf
  refine p_Model_flowNow (pc := 61) C k_id176 Lf_Model_179 d_Model_street_61 ?_
  refine r_nmD hf (fun D6 hf => ?_)
  refine r_aload_n (pc := 64) C 0 d_Model_street_64 rfl rfl ?_
  refine r_aload_n (pc := 65) C 0 d_Model_street_65 rfl rfl ?_
  refine g_Model_n (pc := 66) C k_id176 Lf_Model_176 d_Model_street_66 ?_
  refine r_if_ne (pc := 69) C (tgt := 76) d_Model_street_69 (by decide) hf (fun c69 hf => ?_) (fun c69 hf => ?_)
  · refine r_aload_n (pc := 76) C 0 d_Model_street_76 rfl rfl ?_
    refine g_Model_readSea (pc := 77) C k_id176 Lf_Model_158 d_Model_street_77 ?_
    exact r_lv (pc := 80) C [0] rfl (tb_Model_street_80 C hf)
  · refine r_iconst (pc := 72) C (v := 0) d_Model_street_72 (by decide) ?_
    refine r_goto (pc := 73) C (tgt := 80) d_Model_street_73 (by decide) ?_
    exact r_lv (pc := 80) C [0] rfl (tb_Model_street_80 C hf)
def f_Model_street (v1 : Int32) (D : Dt) : Option (Int32 × Dt) :=
  bnd (f_Model_isText v1 D) (fun x1 D2 => (if x1 = 0 then some ((-1), D2) else (if inb v1 4 = true then (if 0 ≤ (D2 181 v1.toNatClampNeg) then bnd (f_Model_faultOf v1 D2) (fun x3 D4 => (if x3 = (-9) then nm (wr D4 176 10 (D4 176 20)) (fun D5 => (if (D5 176 10) = 0 then b_Model_street_61 0 D5 else b_Model_street_61 (D5 176 18) D5)) else some ((-4), D4))) else bnd (f_Model_meets 1 D2) (fun x17 D18 => some (x17, D18))) else none)))
set_option maxHeartbeats 4000000 in
theorem te_Model_street {Γ : GmT} {G : Dt → Nat → List (Nat × Value) → List Value → Prop} {rr : Int32} {DD : Dt} (C : Cx Γ "RiverTuesdaysModel" b_Model_street 3 5 (some .int) (some (.int rr)) DD G) {v1 : Int32} {D : Dt} (hf : f_Model_street v1 D = some (rr, DD)) : G D 0 [(0, .ref (Γ.2.1 176)), (1, .int v1)] [] := by
  unfold f_Model_street at hf
  refine r_iload_n (pc := 0) C 1 d_Model_street_0 rfl rfl ?_
  refine r_callSi (pc := 1) (As := [.int v1]) (rest := []) C ok_Model_isText Lm_Model_140 ⟨by decide, by decide⟩ rfl rfl (Nat.le_of_ble_eq_true rfl) d_Model_street_1 hf (fun x D1 hc => c_Model_isText Γ hc) (fun x1 D2 hf => ?_)
  refine r_if_ne (pc := 4) C (tgt := 9) d_Model_street_4 (by decide) hf (fun c4 hf => ?_) (fun c4 hf => ?_)
  · refine r_aload_n (pc := 9) C 0 d_Model_street_9 rfl rfl ?_
    refine g_Model_textSizes (pc := 10) C k_id176 Lf_Model_22 d_Model_street_10 ?_
    refine r_iload_n (pc := 13) C 1 d_Model_street_13 rfl rfl ?_
    refine r_iald (pc := 14) C kq_Model_textSizes d_Model_street_14 hf (fun hf => ?_)
    refine r_if_ge (pc := 15) C (tgt := 24) d_Model_street_15 (by decide) hf (fun c15 hf => ?_) (fun c15 hf => ?_)
    · refine r_aload_n (pc := 24) C 0 d_Model_street_24 rfl rfl ?_
      refine r_iload_n (pc := 25) C 1 d_Model_street_25 rfl rfl ?_
      refine r_callVi (pc := 26) (As := [.int v1]) (rest := []) C ok_Model_faultOf Lm_Model_173 k_id176 (by decide) ⟨by decide, by decide⟩ rfl rfl (Nat.le_of_ble_eq_true rfl) d_Model_street_26 hf (fun x D1 hc => c_Model_faultOf Γ hc) (fun x3 D4 hf => ?_)
      refine r_bipush (pc := 29) C (v := (-9)) d_Model_street_29 (by decide) ?_
      refine r_icmp_eq (pc := 31) C (tgt := 37) d_Model_street_31 (by decide) hf (fun c31 hf => ?_) (fun c31 hf => ?_)
      · refine r_aload_n (pc := 37) C 0 d_Model_street_37 rfl rfl ?_
        refine r_aload_n (pc := 38) C 0 d_Model_street_38 rfl rfl ?_
        refine g_Model_readMany (pc := 39) C k_id176 Lf_Model_164 d_Model_street_39 ?_
        refine p_Model_n (pc := 42) C k_id176 Lf_Model_176 d_Model_street_42 ?_
        refine r_nmD hf (fun D5 hf => ?_)
        refine r_aload_n (pc := 45) C 0 d_Model_street_45 rfl rfl ?_
        refine r_aload_n (pc := 46) C 0 d_Model_street_46 rfl rfl ?_
        refine g_Model_n (pc := 47) C k_id176 Lf_Model_176 d_Model_street_47 ?_
        refine r_if_ne (pc := 50) C (tgt := 57) d_Model_street_50 (by decide) hf (fun c50 hf => ?_) (fun c50 hf => ?_)
        · refine r_aload_n (pc := 57) C 0 d_Model_street_57 rfl rfl ?_
          refine g_Model_readFlow (pc := 58) C k_id176 Lf_Model_155 d_Model_street_58 ?_
          exact r_lv (pc := 61) C [0] rfl (tb_Model_street_61 C hf)
        · refine r_iconst (pc := 53) C (v := 0) d_Model_street_53 (by decide) ?_
          refine r_goto (pc := 54) C (tgt := 61) d_Model_street_54 (by decide) ?_
          exact r_lv (pc := 61) C [0] rfl (tb_Model_street_61 C hf)
      · refine r_bipush (pc := 34) C (v := (-4)) d_Model_street_34 (by decide) ?_
        exact r_iret (pc := 36) C d_Model_street_36 hf
    · refine r_aload_n (pc := 18) C 0 d_Model_street_18 rfl rfl ?_
      refine r_iconst (pc := 19) C (v := 1) d_Model_street_19 (by decide) ?_
      refine r_callVi (pc := 20) (As := [.int 1]) (rest := []) C ok_Model_meets Lm_Model_129 k_id176 (by decide) ⟨by decide, by decide⟩ rfl rfl (Nat.le_of_ble_eq_true rfl) d_Model_street_20 hf (fun x D1 hc => c_Model_meets Γ hc) (fun x17 D18 hf => ?_)
      exact r_iret (pc := 23) C d_Model_street_23 hf
  · refine r_iconst (pc := 7) C (v := (-1)) d_Model_street_7 (by decide) ?_
    exact r_iret (pc := 8) C d_Model_street_8 hf
theorem c_Model_street (Γ : GmT) {v1 : Int32} {D : Dt} {rr : Int32} {DD : Dt} (hf : f_Model_street v1 D = some (rr, DD)) : Mt Γ y_Model_street b_Model_street 3 (some .int) 5 [.ref (Γ.2.1 176), .int v1] D (some (.int rr)) DD := Mt_of (by decide) (Nat.le_of_ble_eq_true rfl) (fun G C => te_Model_street C hf)
def f_Model_isHouse (v1 : Int32) (D : Dt) : Option (Int32 × Dt) :=
  bnd (f_Model_in v1 0 ((D 176 10) - 1) D) (fun x1 D2 => (if x1 = 0 ∨ x1 = 1 then some (x1, D2) else none))
set_option maxHeartbeats 4000000 in
theorem te_Model_isHouse {Γ : GmT} {G : Dt → Nat → List (Nat × Value) → List Value → Prop} {rr : Int32} {DD : Dt} (C : Cx Γ "RiverTuesdaysModel" b_Model_isHouse 2 2 (some .boolean) (some (.int rr)) DD G) {v1 : Int32} {D : Dt} (hf : f_Model_isHouse v1 D = some (rr, DD)) : G D 0 [(0, .ref (Γ.2.1 176)), (1, .int v1)] [] := by
  unfold f_Model_isHouse at hf
  refine r_iload_n (pc := 0) C 1 d_Model_isHouse_0 rfl rfl ?_
  refine r_iconst (pc := 1) C (v := 0) d_Model_isHouse_1 (by decide) ?_
  refine r_aload_n (pc := 2) C 0 d_Model_isHouse_2 rfl rfl ?_
  refine g_Model_n (pc := 3) C k_id176 Lf_Model_176 d_Model_isHouse_3 ?_
  refine r_iconst (pc := 6) C (v := 1) d_Model_isHouse_6 (by decide) ?_
  refine r_isub (pc := 7) C d_Model_isHouse_7 ?_
  refine r_callSi (pc := 8) (As := [.int v1, .int 0, .int ((D 176 10) - 1)]) (rest := []) C ok_Model_in Lm_Model_118 ⟨by decide, by decide⟩ rfl rfl (Nat.le_of_ble_eq_true rfl) d_Model_isHouse_8 hf (fun x D1 hc => c_Model_in Γ hc) (fun x1 D2 hf => ?_)
  exact r_zretc (pc := 11) C d_Model_isHouse_11 hf
theorem c_Model_isHouse (Γ : GmT) {v1 : Int32} {D : Dt} {rr : Int32} {DD : Dt} (hf : f_Model_isHouse v1 D = some (rr, DD)) : Mt Γ y_Model_isHouse b_Model_isHouse 2 (some .boolean) 2 [.ref (Γ.2.1 176), .int v1] D (some (.int rr)) DD := Mt_of (by decide) (Nat.le_of_ble_eq_true rfl) (fun G C => te_Model_isHouse C hf)
def f_Model_v (v1 : Int32) (v2 : Int32) (D : Dt) : Option (Int32 × Dt) :=
  (if inb ((26 * v1) + v2) 52 = true then some (D 189 ((26 * v1) + v2).toNatClampNeg, D) else none)
set_option maxHeartbeats 4000000 in
theorem te_Model_v {Γ : GmT} {G : Dt → Nat → List (Nat × Value) → List Value → Prop} {rr : Int32} {DD : Dt} (C : Cx Γ "RiverTuesdaysModel" b_Model_v 3 1 (some .int) (some (.int rr)) DD G) {v1 : Int32} {v2 : Int32} {D : Dt} (hf : f_Model_v v1 v2 D = some (rr, DD)) : G D 0 [(0, .ref (Γ.2.1 176)), (1, .int v1), (2, .int v2)] [] := by
  unfold f_Model_v at hf
  refine r_aload_n (pc := 0) C 0 d_Model_v_0 rfl rfl ?_
  refine g_Model_streets (pc := 1) C k_id176 Lf_Model_47 d_Model_v_1 ?_
  refine r_bipush (pc := 4) C (v := 26) d_Model_v_4 (by decide) ?_
  refine r_iload_n (pc := 6) C 1 d_Model_v_6 rfl rfl ?_
  refine r_imul (pc := 7) C d_Model_v_7 ?_
  refine r_iload_n (pc := 8) C 2 d_Model_v_8 rfl rfl ?_
  refine r_iadd (pc := 9) C d_Model_v_9 ?_
  refine r_iald (pc := 10) C kq_Model_streets d_Model_v_10 hf (fun hf => ?_)
  exact r_iret (pc := 11) C d_Model_v_11 hf
theorem c_Model_v (Γ : GmT) {v1 : Int32} {v2 : Int32} {D : Dt} {rr : Int32} {DD : Dt} (hf : f_Model_v v1 v2 D = some (rr, DD)) : Mt Γ y_Model_v b_Model_v 3 (some .int) 1 [.ref (Γ.2.1 176), .int v1, .int v2] D (some (.int rr)) DD := Mt_of (by decide) (Nat.le_of_ble_eq_true rfl) (fun G C => te_Model_v C hf)
def f_Model_add (v1 : Int32) (v2 : Int32) (v3 : Int32) (D : Dt) : Option (Unit × Dt) :=
  (if inb ((26 * v1) + v2) 52 = true then (if inb ((26 * v1) + v2) 52 = true then nm (wr D 189 ((26 * v1) + v2).toNatClampNeg ((D 189 ((26 * v1) + v2).toNatClampNeg) + v3)) (fun D1 => some ((), D1)) else none) else none)
set_option maxHeartbeats 4000000 in
theorem te_Model_add {Γ : GmT} {G : Dt → Nat → List (Nat × Value) → List Value → Prop} {rr : Unit} {DD : Dt} (C : Cx Γ "RiverTuesdaysModel" b_Model_add 4 1 none none DD G) {v1 : Int32} {v2 : Int32} {v3 : Int32} {D : Dt} (hf : f_Model_add v1 v2 v3 D = some (rr, DD)) : G D 0 [(0, .ref (Γ.2.1 176)), (1, .int v1), (2, .int v2), (3, .int v3)] [] := by
  unfold f_Model_add at hf
  refine r_aload_n (pc := 0) C 0 d_Model_add_0 rfl rfl ?_
  refine g_Model_streets (pc := 1) C k_id176 Lf_Model_47 d_Model_add_1 ?_
  refine r_bipush (pc := 4) C (v := 26) d_Model_add_4 (by decide) ?_
  refine r_iload_n (pc := 6) C 1 d_Model_add_6 rfl rfl ?_
  refine r_imul (pc := 7) C d_Model_add_7 ?_
  refine r_iload_n (pc := 8) C 2 d_Model_add_8 rfl rfl ?_
  refine r_iadd (pc := 9) C d_Model_add_9 ?_
  refine r_dup2 (pc := 10) C d_Model_add_10 rfl rfl ?_
  refine r_iald (pc := 11) C kq_Model_streets d_Model_add_11 hf (fun hf => ?_)
  refine r_iload_n (pc := 12) C 3 d_Model_add_12 rfl rfl ?_
  refine r_iadd (pc := 13) C d_Model_add_13 ?_
  refine r_iast (pc := 14) C kq_Model_streets d_Model_add_14 hf (fun hf => ?_)
  refine r_nmD hf (fun D1 hf => ?_)
  exact r_vret (pc := 15) C d_Model_add_15 hf
theorem c_Model_add (Γ : GmT) {v1 : Int32} {v2 : Int32} {v3 : Int32} {D : Dt} {rr : Unit} {DD : Dt} (hf : f_Model_add v1 v2 v3 D = some (rr, DD)) : Mt Γ y_Model_add b_Model_add 4 none 1 [.ref (Γ.2.1 176), .int v1, .int v2, .int v3] D none DD := Mt_of (by decide) (Nat.le_of_ble_eq_true rfl) (fun G C => te_Model_add C hf)
def b_Model_higher_36 (v1 : Int32) (v2 : Int32) (s0 : Int32) (D : Dt) : Option (Int32 × Dt) :=
  (if inb v2 8 = true then bnd (f_Model_v v1 (0 + v2) D) (fun x3 D4 => some (((D 184 v2.toNatClampNeg) + x3) - s0, D4)) else none)
set_option maxHeartbeats 4000000 in
theorem tb_Model_higher_36 {Γ : GmT} {G : Dt → Nat → List (Nat × Value) → List Value → Prop} {rr : Int32} {DD : Dt} (C : Cx Γ "RiverTuesdaysModel" b_Model_higher 4 2 (some .int) (some (.int rr)) DD G) {v1 : Int32} {v2 : Int32} {s0 : Int32} {D : Dt} (hf : b_Model_higher_36 v1 v2 s0 D = some (rr, DD)) : G D 36 [(0, .ref (Γ.2.1 176)), (1, .int v1), (2, .int v2)] [.int s0] := by
  unfold b_Model_higher_36 at hf
  refine r_istore_n (pc := 36) (lv' := [(3, .int s0), (0, .ref (Γ.2.1 176)), (1, .int v1), (2, .int v2)]) C d_Model_higher_36 rfl (Nat.le_of_ble_eq_true rfl) rfl ?_
  refine r_aload_n (pc := 37) C 1 d_Model_higher_37 rfl rfl ?_
  refine g_Model_floors (pc := 38) C k_id176 Lf_Model_32 d_Model_higher_38 ?_
  refine r_iload_n (pc := 41) C 3 d_Model_higher_41 rfl rfl ?_
  refine r_iald (pc := 42) C kq_Model_floors d_Model_higher_42 hf (fun hf => ?_)
  refine r_aload_n (pc := 43) C 1 d_Model_higher_43 rfl rfl ?_
  refine r_iload_n (pc := 44) C 2 d_Model_higher_44 rfl rfl ?_
  refine r_iconst (pc := 45) C (v := 0) d_Model_higher_45 (by decide) ?_
  refine r_iload_n (pc := 46) C 3 d_Model_higher_46 rfl rfl ?_
  refine r_iadd (pc := 47) C d_Model_higher_47 ?_
  refine r_callVi (pc := 48) (As := [.int v1, .int (0 + v2)]) (rest := [.int (D 184 v2.toNatClampNeg)]) C ok_Model_v Lm_Model_192 k_id176 (by decide) ⟨by decide, by decide⟩ rfl rfl (Nat.le_of_ble_eq_true rfl) d_Model_higher_48 hf (fun x D1 hc => c_Model_v Γ hc) (fun x3 D4 hf => ?_)
  refine r_iadd (pc := 51) C d_Model_higher_51 ?_
  refine r_iload_n (pc := 52) C 0 d_Model_higher_52 rfl rfl ?_
  refine r_isub (pc := 53) C d_Model_higher_53 ?_
  exact r_iret (pc := 54) C d_Model_higher_54 hf
def f_Model_higher (v1 : Int32) (v2 : Int32) (D : Dt) : Option (Int32 × Dt) :=
  (if v2 = ((D 176 10) - 1) then b_Model_higher_36 v1 v2 (D 176 9) D else (if inb (v2 + 1) 8 = true then bnd (f_Model_v v1 ((0 + v2) + 1) D) (fun x1 D2 => b_Model_higher_36 v1 v2 ((D 184 (v2 + 1).toNatClampNeg) + x1) D2) else none))
set_option maxHeartbeats 4000000 in
theorem te_Model_higher {Γ : GmT} {G : Dt → Nat → List (Nat × Value) → List Value → Prop} {rr : Int32} {DD : Dt} (C : Cx Γ "RiverTuesdaysModel" b_Model_higher 4 2 (some .int) (some (.int rr)) DD G) {v1 : Int32} {v2 : Int32} {D : Dt} (hf : f_Model_higher v1 v2 D = some (rr, DD)) : G D 0 [(0, .ref (Γ.2.1 176)), (1, .int v1), (2, .int v2)] [] := by
  unfold f_Model_higher at hf
  refine r_iload_n (pc := 0) C 2 d_Model_higher_0 rfl rfl ?_
  refine r_aload_n (pc := 1) C 0 d_Model_higher_1 rfl rfl ?_
  refine g_Model_n (pc := 2) C k_id176 Lf_Model_176 d_Model_higher_2 ?_
  refine r_iconst (pc := 5) C (v := 1) d_Model_higher_5 (by decide) ?_
  refine r_isub (pc := 6) C d_Model_higher_6 ?_
  refine r_icmp_ne (pc := 7) C (tgt := 17) d_Model_higher_7 (by decide) hf (fun c7 hf => ?_) (fun c7 hf => ?_)
  · refine r_aload_n (pc := 17) C 0 d_Model_higher_17 rfl rfl ?_
    refine g_Model_floors (pc := 18) C k_id176 Lf_Model_32 d_Model_higher_18 ?_
    refine r_iload_n (pc := 21) C 2 d_Model_higher_21 rfl rfl ?_
    refine r_iconst (pc := 22) C (v := 1) d_Model_higher_22 (by decide) ?_
    refine r_iadd (pc := 23) C d_Model_higher_23 ?_
    refine r_iald (pc := 24) C kq_Model_floors d_Model_higher_24 hf (fun hf => ?_)
    refine r_aload_n (pc := 25) C 0 d_Model_higher_25 rfl rfl ?_
    refine r_iload_n (pc := 26) C 1 d_Model_higher_26 rfl rfl ?_
    refine r_iconst (pc := 27) C (v := 0) d_Model_higher_27 (by decide) ?_
    refine r_iload_n (pc := 28) C 2 d_Model_higher_28 rfl rfl ?_
    refine r_iadd (pc := 29) C d_Model_higher_29 ?_
    refine r_iconst (pc := 30) C (v := 1) d_Model_higher_30 (by decide) ?_
    refine r_iadd (pc := 31) C d_Model_higher_31 ?_
    refine r_callVi (pc := 32) (As := [.int v1, .int ((0 + v2) + 1)]) (rest := [.int (D 184 (v2 + 1).toNatClampNeg)]) C ok_Model_v Lm_Model_192 k_id176 (by decide) ⟨by decide, by decide⟩ rfl rfl (Nat.le_of_ble_eq_true rfl) d_Model_higher_32 hf (fun x D1 hc => c_Model_v Γ hc) (fun x1 D2 hf => ?_)
    refine r_iadd (pc := 35) C d_Model_higher_35 ?_
    exact r_lv (pc := 36) C [0, 1, 2] rfl (tb_Model_higher_36 C hf)
  · refine r_aload_n (pc := 10) C 0 d_Model_higher_10 rfl rfl ?_
    refine g_Model_sea (pc := 11) C k_id176 Lf_Model_182 d_Model_higher_11 ?_
    refine r_goto (pc := 14) C (tgt := 36) d_Model_higher_14 (by decide) ?_
    exact r_lv (pc := 36) C [0, 1, 2] rfl (tb_Model_higher_36 C hf)
theorem c_Model_higher (Γ : GmT) {v1 : Int32} {v2 : Int32} {D : Dt} {rr : Int32} {DD : Dt} (hf : f_Model_higher v1 v2 D = some (rr, DD)) : Mt Γ y_Model_higher b_Model_higher 4 (some .int) 2 [.ref (Γ.2.1 176), .int v1, .int v2] D (some (.int rr)) DD := Mt_of (by decide) (Nat.le_of_ble_eq_true rfl) (fun G C => te_Model_higher C hf)
def b_Model_runOf_67 (v4 : Int32) (D : Dt) : Option (Int32 × Dt) :=
  bnd (f_Model_lesser v4 2 D) (fun x7 D8 => some (x7, D8))
set_option maxHeartbeats 4000000 in
theorem tb_Model_runOf_67 {Γ : GmT} {G : Dt → Nat → List (Nat × Value) → List Value → Prop} {rr : Int32} {DD : Dt} (C : Cx Γ "RiverTuesdaysModel" b_Model_runOf 6 3 (some .int) (some (.int rr)) DD G) {v4 : Int32} {D : Dt} (hf : b_Model_runOf_67 v4 D = some (rr, DD)) : G D 67 [(4, .int v4)] [] := by
  unfold b_Model_runOf_67 at hf
  refine r_iload (pc := 67) C 0 d_Model_runOf_67 rfl ?_
  refine r_iconst (pc := 69) C (v := 2) d_Model_runOf_69 (by decide) ?_
  refine r_callSi (pc := 70) (As := [.int v4, .int 2]) (rest := []) C ok_Model_lesser Lm_Model_198 ⟨by decide, by decide⟩ rfl rfl (Nat.le_of_ble_eq_true rfl) d_Model_runOf_70 hf (fun x D1 hc => c_Model_lesser Γ hc) (fun x7 D8 hf => ?_)
  refine r_goto (pc := 73) C (tgt := 78) d_Model_runOf_73 (by decide) ?_
  exact r_iret (pc := 78) C d_Model_runOf_78 hf
def b_Model_runOf_31 (v2 : Int32) (s0 : Int32) (D : Dt) : Option (Int32 × Dt) :=
  (if inb v2 8 = true then (if inb v2 8 = true then (if (D 187 v2.toNatClampNeg) = 1 then some (0, D) else (if (D 183 v2.toNatClampNeg) = 3 then b_Model_runOf_67 s0 D else (if (D 183 v2.toNatClampNeg) = 5 then b_Model_runOf_67 s0 D else some (s0, D)))) else none) else none)
set_option maxHeartbeats 4000000 in
theorem tb_Model_runOf_31 {Γ : GmT} {G : Dt → Nat → List (Nat × Value) → List Value → Prop} {rr : Int32} {DD : Dt} (C : Cx Γ "RiverTuesdaysModel" b_Model_runOf 6 3 (some .int) (some (.int rr)) DD G) {v2 : Int32} {s0 : Int32} {D : Dt} (hf : b_Model_runOf_31 v2 s0 D = some (rr, DD)) : G D 31 [(0, .ref (Γ.2.1 176)), (2, .int v2)] [.int s0] := by
  unfold b_Model_runOf_31 at hf
  refine r_istore (pc := 31) (lv' := [(4, .int s0), (0, .ref (Γ.2.1 176)), (2, .int v2)]) C d_Model_runOf_31 (Nat.le_of_ble_eq_true rfl) rfl ?_
  refine r_aload_n (pc := 33) C 1 d_Model_runOf_33 rfl rfl ?_
  refine g_Model_kinds (pc := 34) C k_id176 Lf_Model_29 d_Model_runOf_34 ?_
  refine r_iload_n (pc := 37) C 2 d_Model_runOf_37 rfl rfl ?_
  refine r_iald (pc := 38) C kq_Model_kinds d_Model_runOf_38 hf (fun hf => ?_)
  refine r_istore (pc := 39) (lv' := [(5, .int (D 183 v2.toNatClampNeg)), (4, .int s0), (0, .ref (Γ.2.1 176)), (2, .int v2)]) C d_Model_runOf_39 (Nat.le_of_ble_eq_true rfl) rfl ?_
  refine r_aload_n (pc := 41) C 2 d_Model_runOf_41 rfl rfl ?_
  refine g_Model_shutNow (pc := 42) C k_id176 Lf_Model_41 d_Model_runOf_42 ?_
  refine r_iload_n (pc := 45) C 3 d_Model_runOf_45 rfl rfl ?_
  refine r_iald (pc := 46) C kq_Model_shutNow d_Model_runOf_46 hf (fun hf => ?_)
  refine r_iconst (pc := 47) C (v := 1) d_Model_runOf_47 (by decide) ?_
  refine r_icmp_ne (pc := 48) C (tgt := 55) d_Model_runOf_48 (by decide) hf (fun c48 hf => ?_) (fun c48 hf => ?_)
  · refine r_iload (pc := 55) C 0 d_Model_runOf_55 rfl ?_
    refine r_iconst (pc := 57) C (v := 3) d_Model_runOf_57 (by decide) ?_
    refine r_icmp_eq (pc := 58) C (tgt := 67) d_Model_runOf_58 (by decide) hf (fun c58 hf => ?_) (fun c58 hf => ?_)
    · exact r_lv (pc := 67) C [1] rfl (tb_Model_runOf_67 C hf)
    · refine r_iload (pc := 61) C 0 d_Model_runOf_61 rfl ?_
      refine r_iconst (pc := 63) C (v := 5) d_Model_runOf_63 (by decide) ?_
      refine r_icmp_ne (pc := 64) C (tgt := 76) d_Model_runOf_64 (by decide) hf (fun c64 hf => ?_) (fun c64 hf => ?_)
      · refine r_iload (pc := 76) C 1 d_Model_runOf_76 rfl ?_
        exact r_iret (pc := 78) C d_Model_runOf_78 hf
      · exact r_lv (pc := 67) C [1] rfl (tb_Model_runOf_67 C hf)
  · refine r_iconst (pc := 51) C (v := 0) d_Model_runOf_51 (by decide) ?_
    refine r_goto (pc := 52) C (tgt := 78) d_Model_runOf_52 (by decide) ?_
    exact r_iret (pc := 78) C d_Model_runOf_78 hf
def f_Model_runOf (v1 : Int32) (v2 : Int32) (D : Dt) : Option (Int32 × Dt) :=
  bnd (f_Model_higher v1 v2 D) (fun x1 D2 => (if 0 < x1 then (if (2 : Int32) = 0 then none else bnd (f_Model_v v1 (0 + v2) D2) (fun x3 D4 => bnd (f_Model_lesser ((x1 + 1) / 2) x3 D4) (fun x5 D6 => b_Model_runOf_31 v2 x5 D6))) else b_Model_runOf_31 v2 0 D2))
set_option maxHeartbeats 4000000 in
theorem te_Model_runOf {Γ : GmT} {G : Dt → Nat → List (Nat × Value) → List Value → Prop} {rr : Int32} {DD : Dt} (C : Cx Γ "RiverTuesdaysModel" b_Model_runOf 6 3 (some .int) (some (.int rr)) DD G) {v1 : Int32} {v2 : Int32} {D : Dt} (hf : f_Model_runOf v1 v2 D = some (rr, DD)) : G D 0 [(0, .ref (Γ.2.1 176)), (1, .int v1), (2, .int v2)] [] := by
  unfold f_Model_runOf at hf
  refine r_aload_n (pc := 0) C 0 d_Model_runOf_0 rfl rfl ?_
  refine r_iload_n (pc := 1) C 1 d_Model_runOf_1 rfl rfl ?_
  refine r_iload_n (pc := 2) C 2 d_Model_runOf_2 rfl rfl ?_
  refine r_callVi (pc := 3) (As := [.int v1, .int v2]) (rest := []) C ok_Model_higher Lm_Model_195 k_id176 (by decide) ⟨by decide, by decide⟩ rfl rfl (Nat.le_of_ble_eq_true rfl) d_Model_runOf_3 hf (fun x D1 hc => c_Model_higher Γ hc) (fun x1 D2 hf => ?_)
  refine r_istore_n (pc := 6) (lv' := [(3, .int x1), (0, .ref (Γ.2.1 176)), (1, .int v1), (2, .int v2)]) C d_Model_runOf_6 rfl (Nat.le_of_ble_eq_true rfl) rfl ?_
  refine r_iload_n (pc := 7) C 0 d_Model_runOf_7 rfl rfl ?_
  refine r_if_gt (pc := 8) C (tgt := 15) d_Model_runOf_8 (by decide) hf (fun c8 hf => ?_) (fun c8 hf => ?_)
  · refine r_iload_n (pc := 15) C 0 d_Model_runOf_15 rfl rfl ?_
    refine r_iconst (pc := 16) C (v := 1) d_Model_runOf_16 (by decide) ?_
    refine r_iadd (pc := 17) C d_Model_runOf_17 ?_
    refine r_iconst (pc := 18) C (v := 2) d_Model_runOf_18 (by decide) ?_
    refine r_idiv (pc := 19) C d_Model_runOf_19 hf (fun hf => ?_)
    refine r_aload_n (pc := 20) C 1 d_Model_runOf_20 rfl rfl ?_
    refine r_iload_n (pc := 21) C 2 d_Model_runOf_21 rfl rfl ?_
    refine r_iconst (pc := 22) C (v := 0) d_Model_runOf_22 (by decide) ?_
    refine r_iload_n (pc := 23) C 3 d_Model_runOf_23 rfl rfl ?_
    refine r_iadd (pc := 24) C d_Model_runOf_24 ?_
    refine r_callVi (pc := 25) (As := [.int v1, .int (0 + v2)]) (rest := [.int ((x1 + 1) / 2)]) C ok_Model_v Lm_Model_192 k_id176 (by decide) ⟨by decide, by decide⟩ rfl rfl (Nat.le_of_ble_eq_true rfl) d_Model_runOf_25 hf (fun x D1 hc => c_Model_v Γ hc) (fun x3 D4 hf => ?_)
    refine r_callSi (pc := 28) (As := [.int ((x1 + 1) / 2), .int x3]) (rest := []) C ok_Model_lesser Lm_Model_198 ⟨by decide, by decide⟩ rfl rfl (Nat.le_of_ble_eq_true rfl) d_Model_runOf_28 hf (fun x D1 hc => c_Model_lesser Γ hc) (fun x5 D6 hf => ?_)
    exact r_lv (pc := 31) C [1, 3] rfl (tb_Model_runOf_31 C hf)
  · refine r_iconst (pc := 11) C (v := 0) d_Model_runOf_11 (by decide) ?_
    refine r_goto (pc := 12) C (tgt := 31) d_Model_runOf_12 (by decide) ?_
    exact r_lv (pc := 31) C [1, 3] rfl (tb_Model_runOf_31 C hf)
theorem c_Model_runOf (Γ : GmT) {v1 : Int32} {v2 : Int32} {D : Dt} {rr : Int32} {DD : Dt} (hf : f_Model_runOf v1 v2 D = some (rr, DD)) : Mt Γ y_Model_runOf b_Model_runOf 6 (some .int) 3 [.ref (Γ.2.1 176), .int v1, .int v2] D (some (.int rr)) DD := Mt_of (by decide) (Nat.le_of_ble_eq_true rfl) (fun G C => te_Model_runOf C hf)
def b_Model_groundBy_14 (v0 : Int32) (v1 : Int32) (D : Dt) : Option (Int32 × Dt) :=
  (if v0 = 4 then (if (2 : Int32) = 0 then none else some (v1 / 2, D)) else some (0, D))
set_option maxHeartbeats 4000000 in
theorem tb_Model_groundBy_14 {Γ : GmT} {G : Dt → Nat → List (Nat × Value) → List Value → Prop} {rr : Int32} {DD : Dt} (C : Cx Γ "RiverTuesdaysModel" b_Model_groundBy 2 1 (some .int) (some (.int rr)) DD G) {v0 : Int32} {v1 : Int32} {D : Dt} (hf : b_Model_groundBy_14 v0 v1 D = some (rr, DD)) : G D 14 [(0, .int v0), (1, .int v1)] [] := by
  unfold b_Model_groundBy_14 at hf
  refine r_iload_n (pc := 14) C 0 d_Model_groundBy_14 rfl rfl ?_
  refine r_iconst (pc := 15) C (v := 4) d_Model_groundBy_15 (by decide) ?_
  refine r_icmp_ne (pc := 16) C (tgt := 25) d_Model_groundBy_16 (by decide) hf (fun c16 hf => ?_) (fun c16 hf => ?_)
  · refine r_iconst (pc := 25) C (v := 0) d_Model_groundBy_25 (by decide) ?_
    exact r_iret (pc := 26) C d_Model_groundBy_26 hf
  · refine r_iload_n (pc := 19) C 1 d_Model_groundBy_19 rfl rfl ?_
    refine r_iconst (pc := 20) C (v := 2) d_Model_groundBy_20 (by decide) ?_
    refine r_idiv (pc := 21) C d_Model_groundBy_21 hf (fun hf => ?_)
    refine r_goto (pc := 22) C (tgt := 26) d_Model_groundBy_22 (by decide) ?_
    exact r_iret (pc := 26) C d_Model_groundBy_26 hf
def f_Model_groundBy (v0 : Int32) (v1 : Int32) (D : Dt) : Option (Int32 × Dt) :=
  (if v0 = 1 then (if v1 < 2 then b_Model_groundBy_14 v0 v1 D else some (1, D)) else b_Model_groundBy_14 v0 v1 D)
set_option maxHeartbeats 4000000 in
theorem te_Model_groundBy {Γ : GmT} {G : Dt → Nat → List (Nat × Value) → List Value → Prop} {rr : Int32} {DD : Dt} (C : Cx Γ "RiverTuesdaysModel" b_Model_groundBy 2 1 (some .int) (some (.int rr)) DD G) {v0 : Int32} {v1 : Int32} {D : Dt} (hf : f_Model_groundBy v0 v1 D = some (rr, DD)) : G D 0 [(0, .int v0), (1, .int v1)] [] := by
  unfold f_Model_groundBy at hf
  refine r_iload_n (pc := 0) C 0 d_Model_groundBy_0 rfl rfl ?_
  refine r_iconst (pc := 1) C (v := 1) d_Model_groundBy_1 (by decide) ?_
  refine r_icmp_ne (pc := 2) C (tgt := 14) d_Model_groundBy_2 (by decide) hf (fun c2 hf => ?_) (fun c2 hf => ?_)
  · exact r_lv (pc := 14) C [0, 1] rfl (tb_Model_groundBy_14 C hf)
  · refine r_iload_n (pc := 5) C 1 d_Model_groundBy_5 rfl rfl ?_
    refine r_iconst (pc := 6) C (v := 2) d_Model_groundBy_6 (by decide) ?_
    refine r_icmp_lt (pc := 7) C (tgt := 14) d_Model_groundBy_7 (by decide) hf (fun c7 hf => ?_) (fun c7 hf => ?_)
    · exact r_lv (pc := 14) C [0, 1] rfl (tb_Model_groundBy_14 C hf)
    · refine r_iconst (pc := 10) C (v := 1) d_Model_groundBy_10 (by decide) ?_
      refine r_goto (pc := 11) C (tgt := 26) d_Model_groundBy_11 (by decide) ?_
      exact r_iret (pc := 26) C d_Model_groundBy_26 hf
theorem c_Model_groundBy (Γ : GmT) {v0 : Int32} {v1 : Int32} {D : Dt} {rr : Int32} {DD : Dt} (hf : f_Model_groundBy v0 v1 D = some (rr, DD)) : Mt Γ y_Model_groundBy b_Model_groundBy 2 (some .int) 1 [.int v0, .int v1] D (some (.int rr)) DD := Mt_of (by decide) (Nat.le_of_ble_eq_true rfl) (fun G C => te_Model_groundBy C hf)
def s_Model_goes_135 (k135 : Int32 → Int32 → Dt → Option (Unit × Dt)) (v1 : Int32) (v3 : Int32) (D : Dt) : Option (Unit × Dt) :=
  (if (D 176 10) ≤ v3 then some ((), D) else bnd (f_Model_v v1 (0 + v3) D) (fun x2 D3 => (if inb v3 8 = true then bnd (f_Model_greater 0 (x2 - (D3 185 v3.toNatClampNeg)) D3) (fun x4 D5 => (if inb v3 8 = true then bnd (f_Model_v v1 (8 + v3) D5) (fun x6 D7 => bnd (f_Model_lesser x4 ((D5 186 v3.toNatClampNeg) - x6) D7) (fun x8 D9 => (if inb v3 8 = true then nm (wr D9 191 v3.toNatClampNeg x8) (fun D10 => (if inb v3 8 = true then bnd (f_Model_add v1 (0 + v3) (-(D10 191 v3.toNatClampNeg)) D10) (fun x11 D12 => (if inb v3 8 = true then bnd (f_Model_add v1 (8 + v3) (D12 191 v3.toNatClampNeg) D12) (fun x13 D14 => k135 v1 (v3 + 1) D14) else none)) else none)) else none))) else none)) else none)))
def lp_Model_goes_135 (n : Nat) : Int32 → Int32 → Dt → Option (Unit × Dt) := itr (fun _ _ _ => none) (s_Model_goes_135) n
set_option maxHeartbeats 4000000 in
theorem ts_Model_goes_135 {Γ : GmT} {G : Dt → Nat → List (Nat × Value) → List Value → Prop} {rr : Unit} {DD : Dt} (C : Cx Γ "RiverTuesdaysModel" b_Model_goes 5 4 none none DD G) {k135 : Int32 → Int32 → Dt → Option (Unit × Dt)} (hk135 : ∀ (v1 : Int32) (v3 : Int32) (D : Dt), k135 v1 v3 D = some (rr, DD) → G D 135 [(0, .ref (Γ.2.1 176)), (1, .int v1), (3, .int v3)] []) {v1 : Int32} {v3 : Int32} {D : Dt} (hf : s_Model_goes_135 k135 v1 v3 D = some (rr, DD)) : G D 135 [(0, .ref (Γ.2.1 176)), (1, .int v1), (3, .int v3)] [] := by
  unfold s_Model_goes_135 at hf
  refine r_iload_n (pc := 135) C 2 d_Model_goes_135 rfl rfl ?_
  refine r_aload_n (pc := 136) C 0 d_Model_goes_136 rfl rfl ?_
  refine g_Model_n (pc := 137) C k_id176 Lf_Model_176 d_Model_goes_137 ?_
  refine r_icmp_ge (pc := 140) C (tgt := 227) d_Model_goes_140 (by decide) hf (fun c140 hf => ?_) (fun c140 hf => ?_)
  · exact r_vret (pc := 227) C d_Model_goes_227 hf
  · refine r_iconst (pc := 143) C (v := 0) d_Model_goes_143 (by decide) ?_
    refine r_aload_n (pc := 144) C 0 d_Model_goes_144 rfl rfl ?_
    refine r_iload_n (pc := 145) C 1 d_Model_goes_145 rfl rfl ?_
    refine r_iconst (pc := 146) C (v := 0) d_Model_goes_146 (by decide) ?_
    refine r_iload_n (pc := 147) C 2 d_Model_goes_147 rfl rfl ?_
    refine r_iadd (pc := 148) C d_Model_goes_148 ?_
    refine r_callVi (pc := 149) (As := [.int v1, .int (0 + v3)]) (rest := [.int 0]) C ok_Model_v Lm_Model_192 k_id176 (by decide) ⟨by decide, by decide⟩ rfl rfl (Nat.le_of_ble_eq_true rfl) d_Model_goes_149 hf (fun x D1 hc => c_Model_v Γ hc) (fun x2 D3 hf => ?_)
    refine r_aload_n (pc := 152) C 0 d_Model_goes_152 rfl rfl ?_
    refine g_Model_sills (pc := 153) C k_id176 Lf_Model_35 d_Model_goes_153 ?_
    refine r_iload_n (pc := 156) C 2 d_Model_goes_156 rfl rfl ?_
    refine r_iald (pc := 157) C kq_Model_sills d_Model_goes_157 hf (fun hf => ?_)
    refine r_isub (pc := 158) C d_Model_goes_158 ?_
    refine r_callSi (pc := 159) (As := [.int 0, .int (x2 - (D3 185 v3.toNatClampNeg))]) (rest := []) C ok_Model_greater Lm_Model_213 ⟨by decide, by decide⟩ rfl rfl (Nat.le_of_ble_eq_true rfl) d_Model_goes_159 hf (fun x D1 hc => c_Model_greater Γ hc) (fun x4 D5 hf => ?_)
    refine r_istore (pc := 162) (lv' := [(4, .int x4), (0, .ref (Γ.2.1 176)), (1, .int v1), (3, .int v3)]) C d_Model_goes_162 (Nat.le_of_ble_eq_true rfl) rfl ?_
    refine r_aload_n (pc := 164) C 1 d_Model_goes_164 rfl rfl ?_
    refine g_Model_got (pc := 165) C k_id176 Lf_Model_53 d_Model_goes_165 ?_
    refine r_iload_n (pc := 168) C 3 d_Model_goes_168 rfl rfl ?_
    refine r_iload (pc := 169) C 0 d_Model_goes_169 rfl ?_
    refine r_aload_n (pc := 171) C 1 d_Model_goes_171 rfl rfl ?_
    refine g_Model_rooms (pc := 172) C k_id176 Lf_Model_38 d_Model_goes_172 ?_
    refine r_iload_n (pc := 175) C 3 d_Model_goes_175 rfl rfl ?_
    refine r_iald (pc := 176) C kq_Model_rooms d_Model_goes_176 hf (fun hf => ?_)
    refine r_aload_n (pc := 177) C 1 d_Model_goes_177 rfl rfl ?_
    refine r_iload_n (pc := 178) C 2 d_Model_goes_178 rfl rfl ?_
    refine r_bipush (pc := 179) C (v := 8) d_Model_goes_179 (by decide) ?_
    refine r_iload_n (pc := 181) C 3 d_Model_goes_181 rfl rfl ?_
    refine r_iadd (pc := 182) C d_Model_goes_182 ?_
    refine r_callVi (pc := 183) (As := [.int v1, .int (8 + v3)]) (rest := [.int (D5 186 v3.toNatClampNeg), .int x4, .int v3, .ref (Γ.2.1 191)]) C ok_Model_v Lm_Model_192 k_id176 (by decide) ⟨by decide, by decide⟩ rfl rfl (Nat.le_of_ble_eq_true rfl) d_Model_goes_183 hf (fun x D1 hc => c_Model_v Γ hc) (fun x6 D7 hf => ?_)
    refine r_isub (pc := 186) C d_Model_goes_186 ?_
    refine r_callSi (pc := 187) (As := [.int x4, .int ((D5 186 v3.toNatClampNeg) - x6)]) (rest := [.int v3, .ref (Γ.2.1 191)]) C ok_Model_lesser Lm_Model_198 ⟨by decide, by decide⟩ rfl rfl (Nat.le_of_ble_eq_true rfl) d_Model_goes_187 hf (fun x D1 hc => c_Model_lesser Γ hc) (fun x8 D9 hf => ?_)
    refine r_iast (pc := 190) C kq_Model_got d_Model_goes_190 hf (fun hf => ?_)
    refine r_nmD hf (fun D10 hf => ?_)
    refine r_aload_n (pc := 191) C 1 d_Model_goes_191 rfl rfl ?_
    refine r_iload_n (pc := 192) C 2 d_Model_goes_192 rfl rfl ?_
    refine r_iconst (pc := 193) C (v := 0) d_Model_goes_193 (by decide) ?_
    refine r_iload_n (pc := 194) C 3 d_Model_goes_194 rfl rfl ?_
    refine r_iadd (pc := 195) C d_Model_goes_195 ?_
    refine r_aload_n (pc := 196) C 1 d_Model_goes_196 rfl rfl ?_
    refine g_Model_got (pc := 197) C k_id176 Lf_Model_53 d_Model_goes_197 ?_
    refine r_iload_n (pc := 200) C 3 d_Model_goes_200 rfl rfl ?_
    refine r_iald (pc := 201) C kq_Model_got d_Model_goes_201 hf (fun hf => ?_)
    refine r_ineg (pc := 202) C d_Model_goes_202 ?_
    refine r_callVv (pc := 203) (As := [.int v1, .int (0 + v3), .int (-(D10 191 v3.toNatClampNeg))]) (rest := []) C ok_Model_add Lm_Model_201 k_id176 (by decide) ⟨by decide, by decide⟩ rfl rfl (Nat.le_of_ble_eq_true rfl) d_Model_goes_203 hf (fun x D1 hc => c_Model_add Γ hc) (fun x11 D12 hf => ?_)
    refine r_aload_n (pc := 206) C 1 d_Model_goes_206 rfl rfl ?_
    refine r_iload_n (pc := 207) C 2 d_Model_goes_207 rfl rfl ?_
    refine r_bipush (pc := 208) C (v := 8) d_Model_goes_208 (by decide) ?_
    refine r_iload_n (pc := 210) C 3 d_Model_goes_210 rfl rfl ?_
    refine r_iadd (pc := 211) C d_Model_goes_211 ?_
    refine r_aload_n (pc := 212) C 1 d_Model_goes_212 rfl rfl ?_
    refine g_Model_got (pc := 213) C k_id176 Lf_Model_53 d_Model_goes_213 ?_
    refine r_iload_n (pc := 216) C 3 d_Model_goes_216 rfl rfl ?_
    refine r_iald (pc := 217) C kq_Model_got d_Model_goes_217 hf (fun hf => ?_)
    refine r_callVv (pc := 218) (As := [.int v1, .int (8 + v3), .int (D12 191 v3.toNatClampNeg)]) (rest := []) C ok_Model_add Lm_Model_201 k_id176 (by decide) ⟨by decide, by decide⟩ rfl rfl (Nat.le_of_ble_eq_true rfl) d_Model_goes_218 hf (fun x D1 hc => c_Model_add Γ hc) (fun x13 D14 hf => ?_)
    refine r_iinc (pc := 221) C (v := v3 + 1) (lv' := [(3, .int (v3 + 1)), (4, .int x4), (0, .ref (Γ.2.1 176)), (1, .int v1)]) 3 d_Model_goes_221 rfl rfl (Nat.le_of_ble_eq_true rfl) rfl ?_
    refine r_goto (pc := 224) C (tgt := 135) d_Model_goes_224 (by decide) ?_
    exact r_lv (pc := 135) C [2, 3, 0] rfl (hk135 v1 (v3 + 1) D14 hf)
theorem tl_Model_goes_135 {Γ : GmT} {G : Dt → Nat → List (Nat × Value) → List Value → Prop} {rr : Unit} {DD : Dt} (C : Cx Γ "RiverTuesdaysModel" b_Model_goes 5 4 none none DD G) : ∀ (n : Nat) (v1 : Int32) (v3 : Int32) (D : Dt), lp_Model_goes_135 n v1 v3 D = some (rr, DD) → G D 135 [(0, .ref (Γ.2.1 176)), (1, .int v1), (3, .int v3)] [] := by
  intro n
  induction n with
  | zero =>
    intro v1 v3 D hf
    exact absurd (show (none : Option (Unit × Dt)) = some (rr, DD) from hf) (by simp)
  | succ n ih =>
    intro v1 v3 D hf
    exact ts_Model_goes_135 C (k135 := lp_Model_goes_135 n) ih hf
def b_Model_goes_127 (k32 : Int32 → Int32 → Dt → Option (Unit × Dt)) (v1 : Int32) (v3 : Int32) (D : Dt) : Option (Unit × Dt) :=
  k32 v1 (v3 + 1) D
set_option maxHeartbeats 4000000 in
theorem tb_Model_goes_127 {Γ : GmT} {G : Dt → Nat → List (Nat × Value) → List Value → Prop} {rr : Unit} {DD : Dt} (C : Cx Γ "RiverTuesdaysModel" b_Model_goes 5 4 none none DD G) {k32 : Int32 → Int32 → Dt → Option (Unit × Dt)} (hk32 : ∀ (v1 : Int32) (v3 : Int32) (D : Dt), k32 v1 v3 D = some (rr, DD) → G D 32 [(0, .ref (Γ.2.1 176)), (1, .int v1), (3, .int v3)] []) {v1 : Int32} {v3 : Int32} {D : Dt} (hf : b_Model_goes_127 k32 v1 v3 D = some (rr, DD)) : G D 127 [(0, .ref (Γ.2.1 176)), (1, .int v1), (3, .int v3)] [] := by
  unfold b_Model_goes_127 at hf
  refine r_iinc (pc := 127) C (v := v3 + 1) (lv' := [(3, .int (v3 + 1)), (0, .ref (Γ.2.1 176)), (1, .int v1)]) 2 d_Model_goes_127 rfl rfl (Nat.le_of_ble_eq_true rfl) rfl ?_
  refine r_goto (pc := 130) C (tgt := 32) d_Model_goes_130 (by decide) ?_
  exact r_lv (pc := 32) C [1, 2, 0] rfl (hk32 v1 (v3 + 1) D hf)
def s_Model_goes_32 (k32 : Int32 → Int32 → Dt → Option (Unit × Dt)) (v1 : Int32) (v3 : Int32) (D : Dt) : Option (Unit × Dt) :=
  (if (D 176 10) ≤ v3 then lp_Model_goes_135 FU v1 0 D else bnd (f_Model_runOf v1 v3 D) (fun x15 D16 => (if inb v3 8 = true then nm (wr D16 190 v3.toNatClampNeg x15) (fun D17 => bnd (f_Model_add v1 (0 + v3) (-x15) D17) (fun x18 D19 => (if inb v3 8 = true then bnd (f_Model_groundBy (D19 183 v3.toNatClampNeg) x15 D19) (fun x20 D21 => bnd (f_Model_add v1 (16 + v3) x20 D21) (fun x22 D23 => (if ((D23 176 10) - 1) ≤ v3 then bnd (f_Model_add v1 25 x15 D23) (fun x24 D25 => nm (wr D25 176 25 x15) (fun D26 => b_Model_goes_127 k32 v1 v3 D26)) else bnd (f_Model_add v1 ((0 + v3) + 1) x15 D23) (fun x27 D28 => b_Model_goes_127 k32 v1 v3 D28)))) else none))) else none)))
def lp_Model_goes_32 (n : Nat) : Int32 → Int32 → Dt → Option (Unit × Dt) := itr (fun _ _ _ => none) (s_Model_goes_32) n
set_option maxHeartbeats 4000000 in
theorem ts_Model_goes_32 {Γ : GmT} {G : Dt → Nat → List (Nat × Value) → List Value → Prop} {rr : Unit} {DD : Dt} (C : Cx Γ "RiverTuesdaysModel" b_Model_goes 5 4 none none DD G) {k32 : Int32 → Int32 → Dt → Option (Unit × Dt)} (hk32 : ∀ (v1 : Int32) (v3 : Int32) (D : Dt), k32 v1 v3 D = some (rr, DD) → G D 32 [(0, .ref (Γ.2.1 176)), (1, .int v1), (3, .int v3)] []) {v1 : Int32} {v3 : Int32} {D : Dt} (hf : s_Model_goes_32 k32 v1 v3 D = some (rr, DD)) : G D 32 [(0, .ref (Γ.2.1 176)), (1, .int v1), (3, .int v3)] [] := by
  unfold s_Model_goes_32 at hf
  refine r_iload_n (pc := 32) C 2 d_Model_goes_32 rfl rfl ?_
  refine r_aload_n (pc := 33) C 0 d_Model_goes_33 rfl rfl ?_
  refine g_Model_n (pc := 34) C k_id176 Lf_Model_176 d_Model_goes_34 ?_
  refine r_icmp_ge (pc := 37) C (tgt := 133) d_Model_goes_37 (by decide) hf (fun c37 hf => ?_) (fun c37 hf => ?_)
  · refine r_iconst (pc := 133) C (v := 0) d_Model_goes_133 (by decide) ?_
    refine r_istore_n (pc := 134) (lv' := [(3, .int 0), (0, .ref (Γ.2.1 176)), (1, .int v1)]) C d_Model_goes_134 rfl (Nat.le_of_ble_eq_true rfl) rfl ?_
    exact r_lv (pc := 135) C [1, 2, 0] rfl (tl_Model_goes_135 C FU v1 0 D hf)
  · refine r_aload_n (pc := 40) C 0 d_Model_goes_40 rfl rfl ?_
    refine r_iload_n (pc := 41) C 1 d_Model_goes_41 rfl rfl ?_
    refine r_iload_n (pc := 42) C 2 d_Model_goes_42 rfl rfl ?_
    refine r_callVi (pc := 43) (As := [.int v1, .int v3]) (rest := []) C ok_Model_runOf Lm_Model_207 k_id176 (by decide) ⟨by decide, by decide⟩ rfl rfl (Nat.le_of_ble_eq_true rfl) d_Model_goes_43 hf (fun x D1 hc => c_Model_runOf Γ hc) (fun x15 D16 hf => ?_)
    refine r_istore (pc := 46) (lv' := [(4, .int x15), (0, .ref (Γ.2.1 176)), (1, .int v1), (3, .int v3)]) C d_Model_goes_46 (Nat.le_of_ble_eq_true rfl) rfl ?_
    refine r_aload_n (pc := 48) C 1 d_Model_goes_48 rfl rfl ?_
    refine g_Model_ran (pc := 49) C k_id176 Lf_Model_50 d_Model_goes_49 ?_
    refine r_iload_n (pc := 52) C 3 d_Model_goes_52 rfl rfl ?_
    refine r_iload (pc := 53) C 0 d_Model_goes_53 rfl ?_
    refine r_iast (pc := 55) C kq_Model_ran d_Model_goes_55 hf (fun hf => ?_)
    refine r_nmD hf (fun D17 hf => ?_)
    refine r_aload_n (pc := 56) C 1 d_Model_goes_56 rfl rfl ?_
    refine r_iload_n (pc := 57) C 2 d_Model_goes_57 rfl rfl ?_
    refine r_iconst (pc := 58) C (v := 0) d_Model_goes_58 (by decide) ?_
    refine r_iload_n (pc := 59) C 3 d_Model_goes_59 rfl rfl ?_
    refine r_iadd (pc := 60) C d_Model_goes_60 ?_
    refine r_iload (pc := 61) C 0 d_Model_goes_61 rfl ?_
    refine r_ineg (pc := 63) C d_Model_goes_63 ?_
    refine r_callVv (pc := 64) (As := [.int v1, .int (0 + v3), .int (-x15)]) (rest := []) C ok_Model_add Lm_Model_201 k_id176 (by decide) ⟨by decide, by decide⟩ rfl rfl (Nat.le_of_ble_eq_true rfl) d_Model_goes_64 hf (fun x D1 hc => c_Model_add Γ hc) (fun x18 D19 hf => ?_)
    refine r_aload_n (pc := 67) C 1 d_Model_goes_67 rfl rfl ?_
    refine r_iload_n (pc := 68) C 2 d_Model_goes_68 rfl rfl ?_
    refine r_bipush (pc := 69) C (v := 16) d_Model_goes_69 (by decide) ?_
    refine r_iload_n (pc := 71) C 3 d_Model_goes_71 rfl rfl ?_
    refine r_iadd (pc := 72) C d_Model_goes_72 ?_
    refine r_aload_n (pc := 73) C 1 d_Model_goes_73 rfl rfl ?_
    refine g_Model_kinds (pc := 74) C k_id176 Lf_Model_29 d_Model_goes_74 ?_
    refine r_iload_n (pc := 77) C 3 d_Model_goes_77 rfl rfl ?_
    refine r_iald (pc := 78) C kq_Model_kinds d_Model_goes_78 hf (fun hf => ?_)
    refine r_iload (pc := 79) C 0 d_Model_goes_79 rfl ?_
    refine r_callSi (pc := 81) (As := [.int (D19 183 v3.toNatClampNeg), .int x15]) (rest := [.int (16 + v3), .int v1, .ref (Γ.2.1 176)]) C ok_Model_groundBy Lm_Model_210 ⟨by decide, by decide⟩ rfl rfl (Nat.le_of_ble_eq_true rfl) d_Model_goes_81 hf (fun x D1 hc => c_Model_groundBy Γ hc) (fun x20 D21 hf => ?_)
    refine r_callVv (pc := 84) (As := [.int v1, .int (16 + v3), .int x20]) (rest := []) C ok_Model_add Lm_Model_201 k_id176 (by decide) ⟨by decide, by decide⟩ rfl rfl (Nat.le_of_ble_eq_true rfl) d_Model_goes_84 hf (fun x D1 hc => c_Model_add Γ hc) (fun x22 D23 hf => ?_)
    refine r_iload_n (pc := 87) C 3 d_Model_goes_87 rfl rfl ?_
    refine r_aload_n (pc := 88) C 1 d_Model_goes_88 rfl rfl ?_
    refine g_Model_n (pc := 89) C k_id176 Lf_Model_176 d_Model_goes_89 ?_
    refine r_iconst (pc := 92) C (v := 1) d_Model_goes_92 (by decide) ?_
    refine r_isub (pc := 93) C d_Model_goes_93 ?_
    refine r_icmp_ge (pc := 94) C (tgt := 112) d_Model_goes_94 (by decide) hf (fun c94 hf => ?_) (fun c94 hf => ?_)
    · refine r_aload_n (pc := 112) C 1 d_Model_goes_112 rfl rfl ?_
      refine r_iload_n (pc := 113) C 2 d_Model_goes_113 rfl rfl ?_
      refine r_bipush (pc := 114) C (v := 25) d_Model_goes_114 (by decide) ?_
      refine r_iload (pc := 116) C 0 d_Model_goes_116 rfl ?_
      refine r_callVv (pc := 118) (As := [.int v1, .int 25, .int x15]) (rest := []) C ok_Model_add Lm_Model_201 k_id176 (by decide) ⟨by decide, by decide⟩ rfl rfl (Nat.le_of_ble_eq_true rfl) d_Model_goes_118 hf (fun x D1 hc => c_Model_add Γ hc) (fun x24 D25 hf => ?_)
      refine r_aload_n (pc := 121) C 1 d_Model_goes_121 rfl rfl ?_
      refine r_iload (pc := 122) C 0 d_Model_goes_122 rfl ?_
      refine p_Model_ranOut (pc := 124) C k_id176 Lf_Model_204 d_Model_goes_124 ?_
      refine r_nmD hf (fun D26 hf => ?_)
      exact r_lv (pc := 127) C [1, 2, 3] rfl (tb_Model_goes_127 C hk32 hf)
    · refine r_aload_n (pc := 97) C 1 d_Model_goes_97 rfl rfl ?_
      refine r_iload_n (pc := 98) C 2 d_Model_goes_98 rfl rfl ?_
      refine r_iconst (pc := 99) C (v := 0) d_Model_goes_99 (by decide) ?_
      refine r_iload_n (pc := 100) C 3 d_Model_goes_100 rfl rfl ?_
      refine r_iadd (pc := 101) C d_Model_goes_101 ?_
      refine r_iconst (pc := 102) C (v := 1) d_Model_goes_102 (by decide) ?_
      refine r_iadd (pc := 103) C d_Model_goes_103 ?_
      refine r_iload (pc := 104) C 0 d_Model_goes_104 rfl ?_
      refine r_callVv (pc := 106) (As := [.int v1, .int ((0 + v3) + 1), .int x15]) (rest := []) C ok_Model_add Lm_Model_201 k_id176 (by decide) ⟨by decide, by decide⟩ rfl rfl (Nat.le_of_ble_eq_true rfl) d_Model_goes_106 hf (fun x D1 hc => c_Model_add Γ hc) (fun x27 D28 hf => ?_)
      refine r_goto (pc := 109) C (tgt := 127) d_Model_goes_109 (by decide) ?_
      exact r_lv (pc := 127) C [1, 2, 3] rfl (tb_Model_goes_127 C hk32 hf)
theorem tl_Model_goes_32 {Γ : GmT} {G : Dt → Nat → List (Nat × Value) → List Value → Prop} {rr : Unit} {DD : Dt} (C : Cx Γ "RiverTuesdaysModel" b_Model_goes 5 4 none none DD G) : ∀ (n : Nat) (v1 : Int32) (v3 : Int32) (D : Dt), lp_Model_goes_32 n v1 v3 D = some (rr, DD) → G D 32 [(0, .ref (Γ.2.1 176)), (1, .int v1), (3, .int v3)] [] := by
  intro n
  induction n with
  | zero =>
    intro v1 v3 D hf
    exact absurd (show (none : Option (Unit × Dt)) = some (rr, DD) from hf) (by simp)
  | succ n ih =>
    intro v1 v3 D hf
    exact ts_Model_goes_32 C (k32 := lp_Model_goes_32 n) ih hf
def b_Model_goes_25 (v1 : Int32) (D : Dt) : Option (Unit × Dt) :=
  nm (wr D 176 25 0) (fun D1 => lp_Model_goes_32 FU v1 0 D1)
set_option maxHeartbeats 4000000 in
theorem tb_Model_goes_25 {Γ : GmT} {G : Dt → Nat → List (Nat × Value) → List Value → Prop} {rr : Unit} {DD : Dt} (C : Cx Γ "RiverTuesdaysModel" b_Model_goes 5 4 none none DD G) {v1 : Int32} {D : Dt} (hf : b_Model_goes_25 v1 D = some (rr, DD)) : G D 25 [(0, .ref (Γ.2.1 176)), (1, .int v1)] [] := by
  unfold b_Model_goes_25 at hf
  refine r_aload_n (pc := 25) C 0 d_Model_goes_25 rfl rfl ?_
  refine r_iconst (pc := 26) C (v := 0) d_Model_goes_26 (by decide) ?_
  refine p_Model_ranOut (pc := 27) C k_id176 Lf_Model_204 d_Model_goes_27 ?_
  refine r_nmD hf (fun D1 hf => ?_)
  refine r_iconst (pc := 30) C (v := 0) d_Model_goes_30 (by decide) ?_
  refine r_istore_n (pc := 31) (lv' := [(3, .int 0), (0, .ref (Γ.2.1 176)), (1, .int v1)]) C d_Model_goes_31 rfl (Nat.le_of_ble_eq_true rfl) rfl ?_
  exact r_lv (pc := 32) C [1, 2, 0] rfl (tl_Model_goes_32 C FU v1 0 D1 hf)
def f_Model_goes (v1 : Int32) (v2 : Int32) (D : Dt) : Option (Unit × Dt) :=
  (if v2 = 0 then b_Model_goes_25 v1 D else bnd (f_Model_add v1 0 (D 176 8) D) (fun x29 D30 => bnd (f_Model_add v1 24 (D30 176 8) D30) (fun x31 D32 => b_Model_goes_25 v1 D32)))
set_option maxHeartbeats 4000000 in
theorem te_Model_goes {Γ : GmT} {G : Dt → Nat → List (Nat × Value) → List Value → Prop} {rr : Unit} {DD : Dt} (C : Cx Γ "RiverTuesdaysModel" b_Model_goes 5 4 none none DD G) {v1 : Int32} {v2 : Int32} {D : Dt} (hf : f_Model_goes v1 v2 D = some (rr, DD)) : G D 0 [(0, .ref (Γ.2.1 176)), (1, .int v1), (2, .int v2)] [] := by
  unfold f_Model_goes at hf
  refine r_iload_n (pc := 0) C 2 d_Model_goes_0 rfl rfl ?_
  refine r_if_eq (pc := 1) C (tgt := 25) d_Model_goes_1 (by decide) hf (fun c1 hf => ?_) (fun c1 hf => ?_)
  · exact r_lv (pc := 25) C [0, 1] rfl (tb_Model_goes_25 C hf)
  · refine r_aload_n (pc := 4) C 0 d_Model_goes_4 rfl rfl ?_
    refine r_iload_n (pc := 5) C 1 d_Model_goes_5 rfl rfl ?_
    refine r_iconst (pc := 6) C (v := 0) d_Model_goes_6 (by decide) ?_
    refine r_aload_n (pc := 7) C 0 d_Model_goes_7 rfl rfl ?_
    refine g_Model_flowNow (pc := 8) C k_id176 Lf_Model_179 d_Model_goes_8 ?_
    refine r_callVv (pc := 11) (As := [.int v1, .int 0, .int (D 176 8)]) (rest := []) C ok_Model_add Lm_Model_201 k_id176 (by decide) ⟨by decide, by decide⟩ rfl rfl (Nat.le_of_ble_eq_true rfl) d_Model_goes_11 hf (fun x D1 hc => c_Model_add Γ hc) (fun x29 D30 hf => ?_)
    refine r_aload_n (pc := 14) C 0 d_Model_goes_14 rfl rfl ?_
    refine r_iload_n (pc := 15) C 1 d_Model_goes_15 rfl rfl ?_
    refine r_bipush (pc := 16) C (v := 24) d_Model_goes_16 (by decide) ?_
    refine r_aload_n (pc := 18) C 0 d_Model_goes_18 rfl rfl ?_
    refine g_Model_flowNow (pc := 19) C k_id176 Lf_Model_179 d_Model_goes_19 ?_
    refine r_callVv (pc := 22) (As := [.int v1, .int 24, .int (D30 176 8)]) (rest := []) C ok_Model_add Lm_Model_201 k_id176 (by decide) ⟨by decide, by decide⟩ rfl rfl (Nat.le_of_ble_eq_true rfl) d_Model_goes_22 hf (fun x D1 hc => c_Model_add Γ hc) (fun x31 D32 hf => ?_)
    exact r_lv (pc := 25) C [0, 1] rfl (tb_Model_goes_25 C hf)
theorem c_Model_goes (Γ : GmT) {v1 : Int32} {v2 : Int32} {D : Dt} {rr : Unit} {DD : Dt} (hf : f_Model_goes v1 v2 D = some (rr, DD)) : Mt Γ y_Model_goes b_Model_goes 5 none 4 [.ref (Γ.2.1 176), .int v1, .int v2] D none DD := Mt_of (by decide) (Nat.le_of_ble_eq_true rfl) (fun G C => te_Model_goes C hf)
