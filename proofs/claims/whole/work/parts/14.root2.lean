/-! 14.root2: printed by wip/whole/gen/gmeth.py out of the bytecode -/
abbrev b_Root_upper : ByteArray := prog_1_method_45_code
abbrev y_Root_upper : MethodName := ⟨"RiverTuesdays", "upper", "()J"⟩
theorem ok_Root_upper : okV y_Root_upper b_Root_upper 1 (some .long) 0 8 := ⟨mGW (List.mem_of_getElem? (i := 965) (by decide +kernel)) rfl, mGW (List.mem_of_getElem? (i := 966) (by decide +kernel)) rfl, mGW (List.mem_of_getElem? (i := 74) (by decide +kernel)) rfl, mGW (List.mem_of_getElem? (i := 967) (by decide +kernel)) rfl, ⟨by decide, by decide, by decide +kernel⟩, rfl⟩
theorem d_Root_upper_0 : decode b_Root_upper 0 = .ok (.aload_n 0, 1) := by decide +kernel
theorem d_Root_upper_1 : decode b_Root_upper 1 = .ok (.getfield 24, 3) := by decide +kernel
theorem d_Root_upper_4 : decode b_Root_upper 4 = .ok (.getfield 168, 3) := by decide +kernel
theorem d_Root_upper_7 : decode b_Root_upper 7 = .ok (.getfield 218, 3) := by decide +kernel
theorem d_Root_upper_10 : decode b_Root_upper 10 = .ok (.ifCond .ne 7, 3) := by decide +kernel
theorem d_Root_upper_13 : decode b_Root_upper 13 = .ok (.lconst 0, 1) := by decide +kernel
theorem d_Root_upper_14 : decode b_Root_upper 14 = .ok (.goto 19, 3) := by decide +kernel
theorem d_Root_upper_17 : decode b_Root_upper 17 = .ok (.aload_n 0, 1) := by decide +kernel
theorem d_Root_upper_18 : decode b_Root_upper 18 = .ok (.getfield 24, 3) := by decide +kernel
theorem d_Root_upper_21 : decode b_Root_upper 21 = .ok (.getfield 168, 3) := by decide +kernel
theorem d_Root_upper_24 : decode b_Root_upper 24 = .ok (.invokevirtual 388, 3) := by decide +kernel
theorem d_Root_upper_27 : decode b_Root_upper 27 = .ok (.aload_n 0, 1) := by decide +kernel
theorem d_Root_upper_28 : decode b_Root_upper 28 = .ok (.invokevirtual 391, 3) := by decide +kernel
theorem d_Root_upper_31 : decode b_Root_upper 31 = .ok (.idiv, 1) := by decide +kernel
theorem d_Root_upper_32 : decode b_Root_upper 32 = .ok (.i2l, 1) := by decide +kernel
theorem d_Root_upper_33 : decode b_Root_upper 33 = .ok (.lreturn, 1) := by decide +kernel
abbrev b_Root_lower : ByteArray := prog_1_method_46_code
abbrev y_Root_lower : MethodName := ⟨"RiverTuesdays", "lower", "()J"⟩
theorem ok_Root_lower : okV y_Root_lower b_Root_lower 1 (some .long) 0 8 := ⟨mGW (List.mem_of_getElem? (i := 977) (by decide +kernel)) rfl, mGW (List.mem_of_getElem? (i := 978) (by decide +kernel)) rfl, mGW (List.mem_of_getElem? (i := 74) (by decide +kernel)) rfl, mGW (List.mem_of_getElem? (i := 979) (by decide +kernel)) rfl, ⟨by decide, by decide, by decide +kernel⟩, rfl⟩
theorem d_Root_lower_0 : decode b_Root_lower 0 = .ok (.aload_n 0, 1) := by decide +kernel
theorem d_Root_lower_1 : decode b_Root_lower 1 = .ok (.getfield 24, 3) := by decide +kernel
theorem d_Root_lower_4 : decode b_Root_lower 4 = .ok (.getfield 168, 3) := by decide +kernel
theorem d_Root_lower_7 : decode b_Root_lower 7 = .ok (.getfield 218, 3) := by decide +kernel
theorem d_Root_lower_10 : decode b_Root_lower 10 = .ok (.ifCond .ne 7, 3) := by decide +kernel
theorem d_Root_lower_13 : decode b_Root_lower 13 = .ok (.lconst 1, 1) := by decide +kernel
theorem d_Root_lower_14 : decode b_Root_lower 14 = .ok (.goto 19, 3) := by decide +kernel
theorem d_Root_lower_17 : decode b_Root_lower 17 = .ok (.aload_n 0, 1) := by decide +kernel
theorem d_Root_lower_18 : decode b_Root_lower 18 = .ok (.getfield 24, 3) := by decide +kernel
theorem d_Root_lower_21 : decode b_Root_lower 21 = .ok (.getfield 168, 3) := by decide +kernel
theorem d_Root_lower_24 : decode b_Root_lower 24 = .ok (.getfield 218, 3) := by decide +kernel
theorem d_Root_lower_27 : decode b_Root_lower 27 = .ok (.aload_n 0, 1) := by decide +kernel
theorem d_Root_lower_28 : decode b_Root_lower 28 = .ok (.invokevirtual 391, 3) := by decide +kernel
theorem d_Root_lower_31 : decode b_Root_lower 31 = .ok (.idiv, 1) := by decide +kernel
theorem d_Root_lower_32 : decode b_Root_lower 32 = .ok (.i2l, 1) := by decide +kernel
theorem d_Root_lower_33 : decode b_Root_lower 33 = .ok (.lreturn, 1) := by decide +kernel
abbrev b_Root_keptStreets : ByteArray := prog_1_method_79_code
abbrev y_Root_keptStreets : MethodName := ⟨"RiverTuesdays", "keptStreets", "()I"⟩
theorem ok_Root_keptStreets : okV y_Root_keptStreets b_Root_keptStreets 3 (some .int) 0 8 := ⟨mGW (List.mem_of_getElem? (i := 995) (by decide +kernel)) rfl, mGW (List.mem_of_getElem? (i := 31) (by decide +kernel)) rfl, mGW (List.mem_of_getElem? (i := 74) (by decide +kernel)) rfl, mGW (List.mem_of_getElem? (i := 996) (by decide +kernel)) rfl, ⟨by decide, by decide, by decide +kernel⟩, rfl⟩
theorem d_Root_keptStreets_0 : decode b_Root_keptStreets 0 = .ok (.iconst 0, 1) := by decide +kernel
theorem d_Root_keptStreets_1 : decode b_Root_keptStreets 1 = .ok (.istore_n 1, 1) := by decide +kernel
theorem d_Root_keptStreets_2 : decode b_Root_keptStreets 2 = .ok (.iconst 0, 1) := by decide +kernel
theorem d_Root_keptStreets_3 : decode b_Root_keptStreets 3 = .ok (.istore_n 2, 1) := by decide +kernel
theorem d_Root_keptStreets_4 : decode b_Root_keptStreets 4 = .ok (.iload_n 2, 1) := by decide +kernel
theorem d_Root_keptStreets_5 : decode b_Root_keptStreets 5 = .ok (.iconst 3, 1) := by decide +kernel
theorem d_Root_keptStreets_6 : decode b_Root_keptStreets 6 = .ok (.if_icmp .ge 26, 3) := by decide +kernel
theorem d_Root_keptStreets_9 : decode b_Root_keptStreets 9 = .ok (.iload_n 1, 1) := by decide +kernel
theorem d_Root_keptStreets_10 : decode b_Root_keptStreets 10 = .ok (.aload_n 0, 1) := by decide +kernel
theorem d_Root_keptStreets_11 : decode b_Root_keptStreets 11 = .ok (.getfield 32, 3) := by decide +kernel
theorem d_Root_keptStreets_14 : decode b_Root_keptStreets 14 = .ok (.iload_n 2, 1) := by decide +kernel
theorem d_Root_keptStreets_15 : decode b_Root_keptStreets 15 = .ok (.baload, 1) := by decide +kernel
theorem d_Root_keptStreets_16 : decode b_Root_keptStreets 16 = .ok (.ifCond .eq 7, 3) := by decide +kernel
theorem d_Root_keptStreets_19 : decode b_Root_keptStreets 19 = .ok (.iconst 1, 1) := by decide +kernel
theorem d_Root_keptStreets_20 : decode b_Root_keptStreets 20 = .ok (.goto 4, 3) := by decide +kernel
theorem d_Root_keptStreets_23 : decode b_Root_keptStreets 23 = .ok (.iconst 0, 1) := by decide +kernel
theorem d_Root_keptStreets_24 : decode b_Root_keptStreets 24 = .ok (.iadd, 1) := by decide +kernel
theorem d_Root_keptStreets_25 : decode b_Root_keptStreets 25 = .ok (.istore_n 1, 1) := by decide +kernel
theorem d_Root_keptStreets_26 : decode b_Root_keptStreets 26 = .ok (.iinc 2 1, 3) := by decide +kernel
theorem d_Root_keptStreets_29 : decode b_Root_keptStreets 29 = .ok (.goto (-25), 3) := by decide +kernel
theorem d_Root_keptStreets_32 : decode b_Root_keptStreets 32 = .ok (.iload_n 1, 1) := by decide +kernel
theorem d_Root_keptStreets_33 : decode b_Root_keptStreets 33 = .ok (.ireturn, 1) := by decide +kernel
abbrev b_Root_rowsThere : ByteArray := prog_1_method_80_code
abbrev y_Root_rowsThere : MethodName := ⟨"RiverTuesdays", "rowsThere", "()I"⟩
theorem ok_Root_rowsThere : okV y_Root_rowsThere b_Root_rowsThere 3 (some .int) 0 8 := ⟨mGW (List.mem_of_getElem? (i := 999) (by decide +kernel)) rfl, mGW (List.mem_of_getElem? (i := 32) (by decide +kernel)) rfl, mGW (List.mem_of_getElem? (i := 74) (by decide +kernel)) rfl, mGW (List.mem_of_getElem? (i := 1000) (by decide +kernel)) rfl, ⟨by decide, by decide, by decide +kernel⟩, rfl⟩
theorem d_Root_rowsThere_0 : decode b_Root_rowsThere 0 = .ok (.iconst 0, 1) := by decide +kernel
theorem d_Root_rowsThere_1 : decode b_Root_rowsThere 1 = .ok (.istore_n 1, 1) := by decide +kernel
theorem d_Root_rowsThere_2 : decode b_Root_rowsThere 2 = .ok (.iconst 0, 1) := by decide +kernel
theorem d_Root_rowsThere_3 : decode b_Root_rowsThere 3 = .ok (.istore_n 2, 1) := by decide +kernel
theorem d_Root_rowsThere_4 : decode b_Root_rowsThere 4 = .ok (.iload_n 2, 1) := by decide +kernel
theorem d_Root_rowsThere_5 : decode b_Root_rowsThere 5 = .ok (.bipush 6, 2) := by decide +kernel
theorem d_Root_rowsThere_7 : decode b_Root_rowsThere 7 = .ok (.if_icmp .ge 29, 3) := by decide +kernel
theorem d_Root_rowsThere_10 : decode b_Root_rowsThere 10 = .ok (.iload_n 1, 1) := by decide +kernel
theorem d_Root_rowsThere_11 : decode b_Root_rowsThere 11 = .ok (.aload_n 0, 1) := by decide +kernel
theorem d_Root_rowsThere_12 : decode b_Root_rowsThere 12 = .ok (.getfield 11, 3) := by decide +kernel
theorem d_Root_rowsThere_15 : decode b_Root_rowsThere 15 = .ok (.iload_n 2, 1) := by decide +kernel
theorem d_Root_rowsThere_16 : decode b_Root_rowsThere 16 = .ok (.aaload, 1) := by decide +kernel
theorem d_Root_rowsThere_17 : decode b_Root_rowsThere 17 = .ok (.invokevirtual 109, 3) := by decide +kernel
theorem d_Root_rowsThere_20 : decode b_Root_rowsThere 20 = .ok (.ifCond .eq 7, 3) := by decide +kernel
theorem d_Root_rowsThere_23 : decode b_Root_rowsThere 23 = .ok (.iconst 1, 1) := by decide +kernel
theorem d_Root_rowsThere_24 : decode b_Root_rowsThere 24 = .ok (.goto 4, 3) := by decide +kernel
theorem d_Root_rowsThere_27 : decode b_Root_rowsThere 27 = .ok (.iconst 0, 1) := by decide +kernel
theorem d_Root_rowsThere_28 : decode b_Root_rowsThere 28 = .ok (.iadd, 1) := by decide +kernel
theorem d_Root_rowsThere_29 : decode b_Root_rowsThere 29 = .ok (.istore_n 1, 1) := by decide +kernel
theorem d_Root_rowsThere_30 : decode b_Root_rowsThere 30 = .ok (.iinc 2 1, 3) := by decide +kernel
theorem d_Root_rowsThere_33 : decode b_Root_rowsThere 33 = .ok (.goto (-29), 3) := by decide +kernel
theorem d_Root_rowsThere_36 : decode b_Root_rowsThere 36 = .ok (.iload_n 1, 1) := by decide +kernel
theorem d_Root_rowsThere_37 : decode b_Root_rowsThere 37 = .ok (.ireturn, 1) := by decide +kernel
abbrev b_Root_textsThere : ByteArray := prog_1_method_81_code
abbrev y_Root_textsThere : MethodName := ⟨"RiverTuesdays", "textsThere", "()I"⟩
theorem ok_Root_textsThere : okV y_Root_textsThere b_Root_textsThere 3 (some .int) 0 8 := ⟨mGW (List.mem_of_getElem? (i := 1003) (by decide +kernel)) rfl, mGW (List.mem_of_getElem? (i := 33) (by decide +kernel)) rfl, mGW (List.mem_of_getElem? (i := 74) (by decide +kernel)) rfl, mGW (List.mem_of_getElem? (i := 1004) (by decide +kernel)) rfl, ⟨by decide, by decide, by decide +kernel⟩, rfl⟩
theorem d_Root_textsThere_0 : decode b_Root_textsThere 0 = .ok (.iconst 0, 1) := by decide +kernel
theorem d_Root_textsThere_1 : decode b_Root_textsThere 1 = .ok (.istore_n 1, 1) := by decide +kernel
theorem d_Root_textsThere_2 : decode b_Root_textsThere 2 = .ok (.iconst 0, 1) := by decide +kernel
theorem d_Root_textsThere_3 : decode b_Root_textsThere 3 = .ok (.istore_n 2, 1) := by decide +kernel
theorem d_Root_textsThere_4 : decode b_Root_textsThere 4 = .ok (.iload_n 2, 1) := by decide +kernel
theorem d_Root_textsThere_5 : decode b_Root_textsThere 5 = .ok (.iconst 4, 1) := by decide +kernel
theorem d_Root_textsThere_6 : decode b_Root_textsThere 6 = .ok (.if_icmp .ge 29, 3) := by decide +kernel
theorem d_Root_textsThere_9 : decode b_Root_textsThere 9 = .ok (.iload_n 1, 1) := by decide +kernel
theorem d_Root_textsThere_10 : decode b_Root_textsThere 10 = .ok (.aload_n 0, 1) := by decide +kernel
theorem d_Root_textsThere_11 : decode b_Root_textsThere 11 = .ok (.getfield 17, 3) := by decide +kernel
theorem d_Root_textsThere_14 : decode b_Root_textsThere 14 = .ok (.iload_n 2, 1) := by decide +kernel
theorem d_Root_textsThere_15 : decode b_Root_textsThere 15 = .ok (.aaload, 1) := by decide +kernel
theorem d_Root_textsThere_16 : decode b_Root_textsThere 16 = .ok (.invokevirtual 425, 3) := by decide +kernel
theorem d_Root_textsThere_19 : decode b_Root_textsThere 19 = .ok (.ifCond .eq 7, 3) := by decide +kernel
theorem d_Root_textsThere_22 : decode b_Root_textsThere 22 = .ok (.iconst 1, 1) := by decide +kernel
theorem d_Root_textsThere_23 : decode b_Root_textsThere 23 = .ok (.goto 4, 3) := by decide +kernel
theorem d_Root_textsThere_26 : decode b_Root_textsThere 26 = .ok (.iconst 0, 1) := by decide +kernel
theorem d_Root_textsThere_27 : decode b_Root_textsThere 27 = .ok (.iadd, 1) := by decide +kernel
theorem d_Root_textsThere_28 : decode b_Root_textsThere 28 = .ok (.istore_n 1, 1) := by decide +kernel
theorem d_Root_textsThere_29 : decode b_Root_textsThere 29 = .ok (.iinc 2 1, 3) := by decide +kernel
theorem d_Root_textsThere_32 : decode b_Root_textsThere 32 = .ok (.goto (-28), 3) := by decide +kernel
theorem d_Root_textsThere_35 : decode b_Root_textsThere 35 = .ok (.iload_n 1, 1) := by decide +kernel
theorem d_Root_textsThere_36 : decode b_Root_textsThere 36 = .ok (.ireturn, 1) := by decide +kernel
abbrev b_Root_count : ByteArray := prog_1_method_47_code
abbrev y_Root_count : MethodName := ⟨"RiverTuesdays", "count", "(I)I"⟩
theorem ok_Root_count : okV y_Root_count b_Root_count 2 (some .int) 1 8 := ⟨mGW (List.mem_of_getElem? (i := 981) (by decide +kernel)) rfl, mGW (List.mem_of_getElem? (i := 982) (by decide +kernel)) rfl, mGW (List.mem_of_getElem? (i := 74) (by decide +kernel)) rfl, mGW (List.mem_of_getElem? (i := 983) (by decide +kernel)) rfl, ⟨by decide, by decide, by decide +kernel⟩, rfl⟩
theorem d_Root_count_0 : decode b_Root_count 0 = .ok (.iload_n 1, 1) := by decide +kernel
theorem d_Root_count_1 : decode b_Root_count 1 = .ok (.tableswitch 116 0 7 #[47, 58, 66, 78, 90, 101, 106, 111], 47) := by decide +kernel
theorem d_Root_count_48 : decode b_Root_count 48 = .ok (.aload_n 0, 1) := by decide +kernel
theorem d_Root_count_49 : decode b_Root_count 49 = .ok (.getfield 24, 3) := by decide +kernel
theorem d_Root_count_52 : decode b_Root_count 52 = .ok (.getfield 146, 3) := by decide +kernel
theorem d_Root_count_55 : decode b_Root_count 55 = .ok (.getfield 149, 3) := by decide +kernel
theorem d_Root_count_58 : decode b_Root_count 58 = .ok (.ireturn, 1) := by decide +kernel
theorem d_Root_count_59 : decode b_Root_count 59 = .ok (.aload_n 0, 1) := by decide +kernel
theorem d_Root_count_60 : decode b_Root_count 60 = .ok (.getfield 24, 3) := by decide +kernel
theorem d_Root_count_63 : decode b_Root_count 63 = .ok (.getfield 212, 3) := by decide +kernel
theorem d_Root_count_66 : decode b_Root_count 66 = .ok (.ireturn, 1) := by decide +kernel
theorem d_Root_count_67 : decode b_Root_count 67 = .ok (.aload_n 0, 1) := by decide +kernel
theorem d_Root_count_68 : decode b_Root_count 68 = .ok (.getfield 24, 3) := by decide +kernel
theorem d_Root_count_71 : decode b_Root_count 71 = .ok (.getfield 146, 3) := by decide +kernel
theorem d_Root_count_74 : decode b_Root_count 74 = .ok (.iconst 1, 1) := by decide +kernel
theorem d_Root_count_75 : decode b_Root_count 75 = .ok (.invokevirtual 394, 3) := by decide +kernel
theorem d_Root_count_78 : decode b_Root_count 78 = .ok (.ireturn, 1) := by decide +kernel
theorem d_Root_count_79 : decode b_Root_count 79 = .ok (.aload_n 0, 1) := by decide +kernel
theorem d_Root_count_80 : decode b_Root_count 80 = .ok (.getfield 24, 3) := by decide +kernel
theorem d_Root_count_83 : decode b_Root_count 83 = .ok (.getfield 146, 3) := by decide +kernel
theorem d_Root_count_86 : decode b_Root_count 86 = .ok (.iconst 3, 1) := by decide +kernel
theorem d_Root_count_87 : decode b_Root_count 87 = .ok (.invokevirtual 394, 3) := by decide +kernel
theorem d_Root_count_90 : decode b_Root_count 90 = .ok (.ireturn, 1) := by decide +kernel
theorem d_Root_count_91 : decode b_Root_count 91 = .ok (.aload_n 0, 1) := by decide +kernel
theorem d_Root_count_92 : decode b_Root_count 92 = .ok (.getfield 24, 3) := by decide +kernel
theorem d_Root_count_95 : decode b_Root_count 95 = .ok (.getfield 146, 3) := by decide +kernel
theorem d_Root_count_98 : decode b_Root_count 98 = .ok (.invokevirtual 397, 3) := by decide +kernel
theorem d_Root_count_101 : decode b_Root_count 101 = .ok (.ireturn, 1) := by decide +kernel
theorem d_Root_count_102 : decode b_Root_count 102 = .ok (.aload_n 0, 1) := by decide +kernel
theorem d_Root_count_103 : decode b_Root_count 103 = .ok (.invokevirtual 400, 3) := by decide +kernel
theorem d_Root_count_106 : decode b_Root_count 106 = .ok (.ireturn, 1) := by decide +kernel
theorem d_Root_count_107 : decode b_Root_count 107 = .ok (.aload_n 0, 1) := by decide +kernel
theorem d_Root_count_108 : decode b_Root_count 108 = .ok (.invokevirtual 403, 3) := by decide +kernel
theorem d_Root_count_111 : decode b_Root_count 111 = .ok (.ireturn, 1) := by decide +kernel
theorem d_Root_count_112 : decode b_Root_count 112 = .ok (.aload_n 0, 1) := by decide +kernel
theorem d_Root_count_113 : decode b_Root_count 113 = .ok (.invokevirtual 406, 3) := by decide +kernel
theorem d_Root_count_116 : decode b_Root_count 116 = .ok (.ireturn, 1) := by decide +kernel
theorem d_Root_count_117 : decode b_Root_count 117 = .ok (.iconst (-1), 1) := by decide +kernel
theorem d_Root_count_118 : decode b_Root_count 118 = .ok (.ireturn, 1) := by decide +kernel
abbrev b_Root_finding : ByteArray := prog_1_method_48_code
abbrev y_Root_finding : MethodName := ⟨"RiverTuesdays", "finding", "()I"⟩
theorem ok_Root_finding : okV y_Root_finding b_Root_finding 1 (some .int) 0 8 := ⟨mGW (List.mem_of_getElem? (i := 1006) (by decide +kernel)) rfl, mGW (List.mem_of_getElem? (i := 1007) (by decide +kernel)) rfl, mGW (List.mem_of_getElem? (i := 74) (by decide +kernel)) rfl, mGW (List.mem_of_getElem? (i := 1008) (by decide +kernel)) rfl, ⟨by decide, by decide, by decide +kernel⟩, rfl⟩
theorem d_Root_finding_0 : decode b_Root_finding 0 = .ok (.aload_n 0, 1) := by decide +kernel
theorem d_Root_finding_1 : decode b_Root_finding 1 = .ok (.getfield 409, 3) := by decide +kernel
theorem d_Root_finding_4 : decode b_Root_finding 4 = .ok (.ireturn, 1) := by decide +kernel
abbrev b_Root_findings : ByteArray := prog_1_method_49_code
abbrev y_Root_findings : MethodName := ⟨"RiverTuesdays", "findings", "(I)I"⟩
theorem ok_Root_findings : okV y_Root_findings b_Root_findings 2 (some .int) 1 8 := ⟨mGW (List.mem_of_getElem? (i := 1010) (by decide +kernel)) rfl, mGW (List.mem_of_getElem? (i := 1011) (by decide +kernel)) rfl, mGW (List.mem_of_getElem? (i := 74) (by decide +kernel)) rfl, mGW (List.mem_of_getElem? (i := 1012) (by decide +kernel)) rfl, ⟨by decide, by decide, by decide +kernel⟩, rfl⟩
theorem d_Root_findings_0 : decode b_Root_findings 0 = .ok (.iload_n 1, 1) := by decide +kernel
theorem d_Root_findings_1 : decode b_Root_findings 1 = .ok (.iconst 1, 1) := by decide +kernel
theorem d_Root_findings_2 : decode b_Root_findings 2 = .ok (.iconst 5, 1) := by decide +kernel
theorem d_Root_findings_3 : decode b_Root_findings 3 = .ok (.invokestatic 155, 3) := by decide +kernel
theorem d_Root_findings_6 : decode b_Root_findings 6 = .ok (.ifCond .eq 12, 3) := by decide +kernel
theorem d_Root_findings_9 : decode b_Root_findings 9 = .ok (.aload_n 0, 1) := by decide +kernel
theorem d_Root_findings_10 : decode b_Root_findings 10 = .ok (.getfield 75, 3) := by decide +kernel
theorem d_Root_findings_13 : decode b_Root_findings 13 = .ok (.iload_n 1, 1) := by decide +kernel
theorem d_Root_findings_14 : decode b_Root_findings 14 = .ok (.iaload, 1) := by decide +kernel
theorem d_Root_findings_15 : decode b_Root_findings 15 = .ok (.goto 4, 3) := by decide +kernel
theorem d_Root_findings_18 : decode b_Root_findings 18 = .ok (.iconst (-1), 1) := by decide +kernel
theorem d_Root_findings_19 : decode b_Root_findings 19 = .ok (.ireturn, 1) := by decide +kernel
abbrev b_Root_digest : ByteArray := prog_1_method_50_code
abbrev y_Root_digest : MethodName := ⟨"RiverTuesdays", "digest", "()J"⟩
theorem ok_Root_digest : okV y_Root_digest b_Root_digest 4 (some .long) 0 8 := ⟨mGW (List.mem_of_getElem? (i := 1014) (by decide +kernel)) rfl, mGW (List.mem_of_getElem? (i := 1015) (by decide +kernel)) rfl, mGW (List.mem_of_getElem? (i := 74) (by decide +kernel)) rfl, mGW (List.mem_of_getElem? (i := 1016) (by decide +kernel)) rfl, ⟨by decide, by decide, by decide +kernel⟩, rfl⟩
theorem d_Root_digest_0 : decode b_Root_digest 0 = .ok (.ldc2_w 412, 3) := by decide +kernel
theorem d_Root_digest_3 : decode b_Root_digest 3 = .ok (.lstore_n 1, 1) := by decide +kernel
theorem d_Root_digest_4 : decode b_Root_digest 4 = .ok (.iconst 0, 1) := by decide +kernel
theorem d_Root_digest_5 : decode b_Root_digest 5 = .ok (.istore_n 3, 1) := by decide +kernel
theorem d_Root_digest_6 : decode b_Root_digest 6 = .ok (.iload_n 3, 1) := by decide +kernel
theorem d_Root_digest_7 : decode b_Root_digest 7 = .ok (.bipush 8, 2) := by decide +kernel
theorem d_Root_digest_9 : decode b_Root_digest 9 = .ok (.if_icmp .ge 22, 3) := by decide +kernel
theorem d_Root_digest_12 : decode b_Root_digest 12 = .ok (.ldc2_w 414, 3) := by decide +kernel
theorem d_Root_digest_15 : decode b_Root_digest 15 = .ok (.lload_n 1, 1) := by decide +kernel
theorem d_Root_digest_16 : decode b_Root_digest 16 = .ok (.lmul, 1) := by decide +kernel
theorem d_Root_digest_17 : decode b_Root_digest 17 = .ok (.aload_n 0, 1) := by decide +kernel
theorem d_Root_digest_18 : decode b_Root_digest 18 = .ok (.iload_n 3, 1) := by decide +kernel
theorem d_Root_digest_19 : decode b_Root_digest 19 = .ok (.invokevirtual 416, 3) := by decide +kernel
theorem d_Root_digest_22 : decode b_Root_digest 22 = .ok (.i2l, 1) := by decide +kernel
theorem d_Root_digest_23 : decode b_Root_digest 23 = .ok (.ladd, 1) := by decide +kernel
theorem d_Root_digest_24 : decode b_Root_digest 24 = .ok (.lstore_n 1, 1) := by decide +kernel
theorem d_Root_digest_25 : decode b_Root_digest 25 = .ok (.iinc 3 1, 3) := by decide +kernel
theorem d_Root_digest_28 : decode b_Root_digest 28 = .ok (.goto (-22), 3) := by decide +kernel
theorem d_Root_digest_31 : decode b_Root_digest 31 = .ok (.aload_n 0, 1) := by decide +kernel
theorem d_Root_digest_32 : decode b_Root_digest 32 = .ok (.getfield 24, 3) := by decide +kernel
theorem d_Root_digest_35 : decode b_Root_digest 35 = .ok (.lload_n 1, 1) := by decide +kernel
theorem d_Root_digest_36 : decode b_Root_digest 36 = .ok (.invokevirtual 419, 3) := by decide +kernel
theorem d_Root_digest_39 : decode b_Root_digest 39 = .ok (.lstore_n 1, 1) := by decide +kernel
theorem d_Root_digest_40 : decode b_Root_digest 40 = .ok (.iconst 0, 1) := by decide +kernel
theorem d_Root_digest_41 : decode b_Root_digest 41 = .ok (.istore_n 3, 1) := by decide +kernel
theorem d_Root_digest_42 : decode b_Root_digest 42 = .ok (.iload_n 3, 1) := by decide +kernel
theorem d_Root_digest_43 : decode b_Root_digest 43 = .ok (.iconst 3, 1) := by decide +kernel
theorem d_Root_digest_44 : decode b_Root_digest 44 = .ok (.if_icmp .ge 39, 3) := by decide +kernel
theorem d_Root_digest_47 : decode b_Root_digest 47 = .ok (.ldc2_w 414, 3) := by decide +kernel
theorem d_Root_digest_50 : decode b_Root_digest 50 = .ok (.lload_n 1, 1) := by decide +kernel
theorem d_Root_digest_51 : decode b_Root_digest 51 = .ok (.lmul, 1) := by decide +kernel
theorem d_Root_digest_52 : decode b_Root_digest 52 = .ok (.aload_n 0, 1) := by decide +kernel
theorem d_Root_digest_53 : decode b_Root_digest 53 = .ok (.getfield 32, 3) := by decide +kernel
theorem d_Root_digest_56 : decode b_Root_digest 56 = .ok (.iload_n 3, 1) := by decide +kernel
theorem d_Root_digest_57 : decode b_Root_digest 57 = .ok (.baload, 1) := by decide +kernel
theorem d_Root_digest_58 : decode b_Root_digest 58 = .ok (.ifCond .eq 15, 3) := by decide +kernel
theorem d_Root_digest_61 : decode b_Root_digest 61 = .ok (.aload_n 0, 1) := by decide +kernel
theorem d_Root_digest_62 : decode b_Root_digest 62 = .ok (.getfield 28, 3) := by decide +kernel
theorem d_Root_digest_65 : decode b_Root_digest 65 = .ok (.iload_n 3, 1) := by decide +kernel
theorem d_Root_digest_66 : decode b_Root_digest 66 = .ok (.aaload, 1) := by decide +kernel
theorem d_Root_digest_67 : decode b_Root_digest 67 = .ok (.getfield 212, 3) := by decide +kernel
theorem d_Root_digest_70 : decode b_Root_digest 70 = .ok (.goto 4, 3) := by decide +kernel
theorem d_Root_digest_73 : decode b_Root_digest 73 = .ok (.iconst (-1), 1) := by decide +kernel
theorem d_Root_digest_74 : decode b_Root_digest 74 = .ok (.i2l, 1) := by decide +kernel
theorem d_Root_digest_75 : decode b_Root_digest 75 = .ok (.ladd, 1) := by decide +kernel
theorem d_Root_digest_76 : decode b_Root_digest 76 = .ok (.lstore_n 1, 1) := by decide +kernel
theorem d_Root_digest_77 : decode b_Root_digest 77 = .ok (.iinc 3 1, 3) := by decide +kernel
theorem d_Root_digest_80 : decode b_Root_digest 80 = .ok (.goto (-38), 3) := by decide +kernel
theorem d_Root_digest_83 : decode b_Root_digest 83 = .ok (.iconst 0, 1) := by decide +kernel
theorem d_Root_digest_84 : decode b_Root_digest 84 = .ok (.istore_n 3, 1) := by decide +kernel
theorem d_Root_digest_85 : decode b_Root_digest 85 = .ok (.iload_n 3, 1) := by decide +kernel
theorem d_Root_digest_86 : decode b_Root_digest 86 = .ok (.bipush 6, 2) := by decide +kernel
theorem d_Root_digest_88 : decode b_Root_digest 88 = .ok (.if_icmp .ge 20, 3) := by decide +kernel
theorem d_Root_digest_91 : decode b_Root_digest 91 = .ok (.aload_n 0, 1) := by decide +kernel
theorem d_Root_digest_92 : decode b_Root_digest 92 = .ok (.getfield 11, 3) := by decide +kernel
theorem d_Root_digest_95 : decode b_Root_digest 95 = .ok (.iload_n 3, 1) := by decide +kernel
theorem d_Root_digest_96 : decode b_Root_digest 96 = .ok (.aaload, 1) := by decide +kernel
theorem d_Root_digest_97 : decode b_Root_digest 97 = .ok (.lload_n 1, 1) := by decide +kernel
theorem d_Root_digest_98 : decode b_Root_digest 98 = .ok (.invokevirtual 423, 3) := by decide +kernel
theorem d_Root_digest_101 : decode b_Root_digest 101 = .ok (.lstore_n 1, 1) := by decide +kernel
theorem d_Root_digest_102 : decode b_Root_digest 102 = .ok (.iinc 3 1, 3) := by decide +kernel
theorem d_Root_digest_105 : decode b_Root_digest 105 = .ok (.goto (-20), 3) := by decide +kernel
theorem d_Root_digest_108 : decode b_Root_digest 108 = .ok (.iconst 0, 1) := by decide +kernel
theorem d_Root_digest_109 : decode b_Root_digest 109 = .ok (.istore_n 3, 1) := by decide +kernel
theorem d_Root_digest_110 : decode b_Root_digest 110 = .ok (.iload_n 3, 1) := by decide +kernel
theorem d_Root_digest_111 : decode b_Root_digest 111 = .ok (.iconst 4, 1) := by decide +kernel
theorem d_Root_digest_112 : decode b_Root_digest 112 = .ok (.if_icmp .ge 20, 3) := by decide +kernel
theorem d_Root_digest_115 : decode b_Root_digest 115 = .ok (.aload_n 0, 1) := by decide +kernel
theorem d_Root_digest_116 : decode b_Root_digest 116 = .ok (.getfield 17, 3) := by decide +kernel
theorem d_Root_digest_119 : decode b_Root_digest 119 = .ok (.iload_n 3, 1) := by decide +kernel
theorem d_Root_digest_120 : decode b_Root_digest 120 = .ok (.aaload, 1) := by decide +kernel
theorem d_Root_digest_121 : decode b_Root_digest 121 = .ok (.lload_n 1, 1) := by decide +kernel
theorem d_Root_digest_122 : decode b_Root_digest 122 = .ok (.invokevirtual 424, 3) := by decide +kernel
theorem d_Root_digest_125 : decode b_Root_digest 125 = .ok (.lstore_n 1, 1) := by decide +kernel
theorem d_Root_digest_126 : decode b_Root_digest 126 = .ok (.iinc 3 1, 3) := by decide +kernel
theorem d_Root_digest_129 : decode b_Root_digest 129 = .ok (.goto (-19), 3) := by decide +kernel
theorem d_Root_digest_132 : decode b_Root_digest 132 = .ok (.lload_n 1, 1) := by decide +kernel
theorem d_Root_digest_133 : decode b_Root_digest 133 = .ok (.lreturn, 1) := by decide +kernel
def f_Root_upper (D : Dt) : Option (Int64 × Dt) :=
  (if (D (3 + 7) 5) = 0 then some (0, D) else bnd (f_Waters_standing (3 + 7) D) (fun x1 D2 => bnd (f_Root_standingDivisor D2) (fun x3 D4 => (if x3 = 0 then none else some ((x1 / x3).toInt64, D4)))))
set_option maxHeartbeats 4000000 in
theorem te_Root_upper {Γ : GmT} {G : Dt → Nat → List (Nat × Value) → List Value → Prop} {rr : Int64} {DD : Dt} (C : Cx Γ "RiverTuesdays" b_Root_upper 1 4 (some .long) (some (.long rr)) DD G) {D : Dt} (hf : f_Root_upper D = some (rr, DD)) : G D 0 [(0, .ref (Γ.2.1 0))] [] := by
  unfold f_Root_upper at hf
  refine r_aload_n (pc := 0) C 0 d_Root_upper_0 rfl rfl ?_
  refine g_Root_present (pc := 1) C k_id0 Lf_Root_24 d_Root_upper_1 ?_
  refine g_Street_now (pc := 4) C kq_Root_present Lf_Root_168 d_Root_upper_4 ?_
  refine g_Waters_in (pc := 7) C (kq_Street_now kq_Root_present) Lf_Root_218 d_Root_upper_7 ?_
  refine r_if_ne (pc := 10) C (tgt := 17) d_Root_upper_10 (by decide) hf (fun c10 hf => ?_) (fun c10 hf => ?_)
  · refine r_aload_n (pc := 17) C 0 d_Root_upper_17 rfl rfl ?_
    refine g_Root_present (pc := 18) C k_id0 Lf_Root_24 d_Root_upper_18 ?_
    refine g_Street_now (pc := 21) C kq_Root_present Lf_Root_168 d_Root_upper_21 ?_
    refine r_callVi (pc := 24) (As := []) (rest := []) C ok_Waters_standing Lm_Root_388 (kq_Street_now kq_Root_present) (by decide) ⟨by decide, by decide⟩ rfl rfl (Nat.le_of_ble_eq_true rfl) d_Root_upper_24 hf (fun x D1 hc => c_Waters_standing Γ (kq_Street_now kq_Root_present) hc) (fun x1 D2 hf => ?_)
    refine r_aload_n (pc := 27) C 0 d_Root_upper_27 rfl rfl ?_
    refine r_callVi (pc := 28) (As := []) (rest := [.int x1]) C ok_Root_standingDivisor Lm_Root_391 k_id0 (by decide) ⟨by decide, by decide⟩ rfl rfl (Nat.le_of_ble_eq_true rfl) d_Root_upper_28 hf (fun x D1 hc => c_Root_standingDivisor Γ hc) (fun x3 D4 hf => ?_)
    refine r_idiv (pc := 31) C d_Root_upper_31 hf (fun hf => ?_)
    refine r_i2l (pc := 32) C d_Root_upper_32 ?_
    exact r_lret (pc := 33) C d_Root_upper_33 hf
  · refine r_lconst (pc := 13) C (v := 0) d_Root_upper_13 (by decide) ?_
    refine r_goto (pc := 14) C (tgt := 33) d_Root_upper_14 (by decide) ?_
    exact r_lret (pc := 33) C d_Root_upper_33 hf
theorem c_Root_upper (Γ : GmT) {D : Dt} {rr : Int64} {DD : Dt} (hf : f_Root_upper D = some (rr, DD)) : Mt Γ y_Root_upper b_Root_upper 1 (some .long) 4 [.ref (Γ.2.1 0)] D (some (.long rr)) DD := Mt_of (by decide) (Nat.le_of_ble_eq_true rfl) (fun G C => te_Root_upper C hf)
def f_Root_lower (D : Dt) : Option (Int64 × Dt) :=
  (if (D (3 + 7) 5) = 0 then some (1, D) else bnd (f_Root_standingDivisor D) (fun x1 D2 => (if x1 = 0 then none else some (((D (3 + 7) 5) / x1).toInt64, D2))))
set_option maxHeartbeats 4000000 in
theorem te_Root_lower {Γ : GmT} {G : Dt → Nat → List (Nat × Value) → List Value → Prop} {rr : Int64} {DD : Dt} (C : Cx Γ "RiverTuesdays" b_Root_lower 1 4 (some .long) (some (.long rr)) DD G) {D : Dt} (hf : f_Root_lower D = some (rr, DD)) : G D 0 [(0, .ref (Γ.2.1 0))] [] := by
  unfold f_Root_lower at hf
  refine r_aload_n (pc := 0) C 0 d_Root_lower_0 rfl rfl ?_
  refine g_Root_present (pc := 1) C k_id0 Lf_Root_24 d_Root_lower_1 ?_
  refine g_Street_now (pc := 4) C kq_Root_present Lf_Root_168 d_Root_lower_4 ?_
  refine g_Waters_in (pc := 7) C (kq_Street_now kq_Root_present) Lf_Root_218 d_Root_lower_7 ?_
  refine r_if_ne (pc := 10) C (tgt := 17) d_Root_lower_10 (by decide) hf (fun c10 hf => ?_) (fun c10 hf => ?_)
  · refine r_aload_n (pc := 17) C 0 d_Root_lower_17 rfl rfl ?_
    refine g_Root_present (pc := 18) C k_id0 Lf_Root_24 d_Root_lower_18 ?_
    refine g_Street_now (pc := 21) C kq_Root_present Lf_Root_168 d_Root_lower_21 ?_
    refine g_Waters_in (pc := 24) C (kq_Street_now kq_Root_present) Lf_Root_218 d_Root_lower_24 ?_
    refine r_aload_n (pc := 27) C 0 d_Root_lower_27 rfl rfl ?_
    refine r_callVi (pc := 28) (As := []) (rest := [.int (D (3 + 7) 5)]) C ok_Root_standingDivisor Lm_Root_391 k_id0 (by decide) ⟨by decide, by decide⟩ rfl rfl (Nat.le_of_ble_eq_true rfl) d_Root_lower_28 hf (fun x D1 hc => c_Root_standingDivisor Γ hc) (fun x1 D2 hf => ?_)
    refine r_idiv (pc := 31) C d_Root_lower_31 hf (fun hf => ?_)
    refine r_i2l (pc := 32) C d_Root_lower_32 ?_
    exact r_lret (pc := 33) C d_Root_lower_33 hf
  · refine r_lconst (pc := 13) C (v := 1) d_Root_lower_13 (by decide) ?_
    refine r_goto (pc := 14) C (tgt := 33) d_Root_lower_14 (by decide) ?_
    exact r_lret (pc := 33) C d_Root_lower_33 hf
theorem c_Root_lower (Γ : GmT) {D : Dt} {rr : Int64} {DD : Dt} (hf : f_Root_lower D = some (rr, DD)) : Mt Γ y_Root_lower b_Root_lower 1 (some .long) 4 [.ref (Γ.2.1 0)] D (some (.long rr)) DD := Mt_of (by decide) (Nat.le_of_ble_eq_true rfl) (fun G C => te_Root_lower C hf)
def b_Root_keptStreets_24 (k4 : Int32 → Int32 → Dt → Option (Int32 × Dt)) (v2 : Int32) (s0 : Int32) (s1 : Int32) (D : Dt) : Option (Int32 × Dt) :=
  k4 (s1 + s0) (v2 + 1) D
set_option maxHeartbeats 4000000 in
theorem tb_Root_keptStreets_24 {Γ : GmT} {G : Dt → Nat → List (Nat × Value) → List Value → Prop} {rr : Int32} {DD : Dt} (C : Cx Γ "RiverTuesdays" b_Root_keptStreets 3 1 (some .int) (some (.int rr)) DD G) {k4 : Int32 → Int32 → Dt → Option (Int32 × Dt)} (hk4 : ∀ (v1 : Int32) (v2 : Int32) (D : Dt), k4 v1 v2 D = some (rr, DD) → G D 4 [(0, .ref (Γ.2.1 0)), (1, .int v1), (2, .int v2)] []) {v2 : Int32} {s0 : Int32} {s1 : Int32} {D : Dt} (hf : b_Root_keptStreets_24 k4 v2 s0 s1 D = some (rr, DD)) : G D 24 [(0, .ref (Γ.2.1 0)), (2, .int v2)] [.int s0, .int s1] := by
  unfold b_Root_keptStreets_24 at hf
  refine r_iadd (pc := 24) C d_Root_keptStreets_24 ?_
  refine r_istore_n (pc := 25) (lv' := [(1, .int (s1 + s0)), (0, .ref (Γ.2.1 0)), (2, .int v2)]) C d_Root_keptStreets_25 rfl (Nat.le_of_ble_eq_true rfl) rfl ?_
  refine r_iinc (pc := 26) C (v := v2 + 1) (lv' := [(2, .int (v2 + 1)), (1, .int (s1 + s0)), (0, .ref (Γ.2.1 0))]) 2 d_Root_keptStreets_26 rfl rfl (Nat.le_of_ble_eq_true rfl) rfl ?_
  refine r_goto (pc := 29) C (tgt := 4) d_Root_keptStreets_29 (by decide) ?_
  exact r_lv (pc := 4) C [2, 1, 0] rfl (hk4 (s1 + s0) (v2 + 1) D hf)
def s_Root_keptStreets_4 (k4 : Int32 → Int32 → Dt → Option (Int32 × Dt)) (v1 : Int32) (v2 : Int32) (D : Dt) : Option (Int32 × Dt) :=
  (if 3 ≤ v2 then some (v1, D) else (if inb v2 3 = true then (if (D 19 v2.toNatClampNeg) = 0 then b_Root_keptStreets_24 k4 v2 0 v1 D else b_Root_keptStreets_24 k4 v2 1 v1 D) else none))
def lp_Root_keptStreets_4 (n : Nat) : Int32 → Int32 → Dt → Option (Int32 × Dt) := itr (fun _ _ _ => none) (s_Root_keptStreets_4) n
set_option maxHeartbeats 4000000 in
theorem ts_Root_keptStreets_4 {Γ : GmT} {G : Dt → Nat → List (Nat × Value) → List Value → Prop} {rr : Int32} {DD : Dt} (C : Cx Γ "RiverTuesdays" b_Root_keptStreets 3 1 (some .int) (some (.int rr)) DD G) {k4 : Int32 → Int32 → Dt → Option (Int32 × Dt)} (hk4 : ∀ (v1 : Int32) (v2 : Int32) (D : Dt), k4 v1 v2 D = some (rr, DD) → G D 4 [(0, .ref (Γ.2.1 0)), (1, .int v1), (2, .int v2)] []) {v1 : Int32} {v2 : Int32} {D : Dt} (hf : s_Root_keptStreets_4 k4 v1 v2 D = some (rr, DD)) : G D 4 [(0, .ref (Γ.2.1 0)), (1, .int v1), (2, .int v2)] [] := by
  unfold s_Root_keptStreets_4 at hf
  refine r_iload_n (pc := 4) C 2 d_Root_keptStreets_4 rfl rfl ?_
  refine r_iconst (pc := 5) C (v := 3) d_Root_keptStreets_5 (by decide) ?_
  refine r_icmp_ge (pc := 6) C (tgt := 32) d_Root_keptStreets_6 (by decide) hf (fun c6 hf => ?_) (fun c6 hf => ?_)
  · refine r_iload_n (pc := 32) C 1 d_Root_keptStreets_32 rfl rfl ?_
    exact r_iret (pc := 33) C d_Root_keptStreets_33 hf
  · refine r_iload_n (pc := 9) C 1 d_Root_keptStreets_9 rfl rfl ?_
    refine r_aload_n (pc := 10) C 0 d_Root_keptStreets_10 rfl rfl ?_
    refine g_Root_isKept (pc := 11) C k_id0 Lf_Root_32 d_Root_keptStreets_11 ?_
    refine r_iload_n (pc := 14) C 2 d_Root_keptStreets_14 rfl rfl ?_
    refine r_zald (pc := 15) C kq_Root_isKept d_Root_keptStreets_15 hf (fun hf => ?_)
    refine r_if_eq (pc := 16) C (tgt := 23) d_Root_keptStreets_16 (by decide) hf (fun c16 hf => ?_) (fun c16 hf => ?_)
    · refine r_iconst (pc := 23) C (v := 0) d_Root_keptStreets_23 (by decide) ?_
      exact r_lv (pc := 24) C [0, 2] rfl (tb_Root_keptStreets_24 C hk4 hf)
    · refine r_iconst (pc := 19) C (v := 1) d_Root_keptStreets_19 (by decide) ?_
      refine r_goto (pc := 20) C (tgt := 24) d_Root_keptStreets_20 (by decide) ?_
      exact r_lv (pc := 24) C [0, 2] rfl (tb_Root_keptStreets_24 C hk4 hf)
theorem tl_Root_keptStreets_4 {Γ : GmT} {G : Dt → Nat → List (Nat × Value) → List Value → Prop} {rr : Int32} {DD : Dt} (C : Cx Γ "RiverTuesdays" b_Root_keptStreets 3 1 (some .int) (some (.int rr)) DD G) : ∀ (n : Nat) (v1 : Int32) (v2 : Int32) (D : Dt), lp_Root_keptStreets_4 n v1 v2 D = some (rr, DD) → G D 4 [(0, .ref (Γ.2.1 0)), (1, .int v1), (2, .int v2)] [] := by
  intro n
  induction n with
  | zero =>
    intro v1 v2 D hf
    exact absurd (show (none : Option (Int32 × Dt)) = some (rr, DD) from hf) (by simp)
  | succ n ih =>
    intro v1 v2 D hf
    exact ts_Root_keptStreets_4 C (k4 := lp_Root_keptStreets_4 n) ih hf
def f_Root_keptStreets (D : Dt) : Option (Int32 × Dt) :=
  lp_Root_keptStreets_4 FU 0 0 D
set_option maxHeartbeats 4000000 in
theorem te_Root_keptStreets {Γ : GmT} {G : Dt → Nat → List (Nat × Value) → List Value → Prop} {rr : Int32} {DD : Dt} (C : Cx Γ "RiverTuesdays" b_Root_keptStreets 3 1 (some .int) (some (.int rr)) DD G) {D : Dt} (hf : f_Root_keptStreets D = some (rr, DD)) : G D 0 [(0, .ref (Γ.2.1 0))] [] := by
  unfold f_Root_keptStreets at hf
  refine r_iconst (pc := 0) C (v := 0) d_Root_keptStreets_0 (by decide) ?_
  refine r_istore_n (pc := 1) (lv' := [(1, .int 0), (0, .ref (Γ.2.1 0))]) C d_Root_keptStreets_1 rfl (Nat.le_of_ble_eq_true rfl) rfl ?_
  refine r_iconst (pc := 2) C (v := 0) d_Root_keptStreets_2 (by decide) ?_
  refine r_istore_n (pc := 3) (lv' := [(2, .int 0), (1, .int 0), (0, .ref (Γ.2.1 0))]) C d_Root_keptStreets_3 rfl (Nat.le_of_ble_eq_true rfl) rfl ?_
  exact r_lv (pc := 4) C [2, 1, 0] rfl (tl_Root_keptStreets_4 C FU 0 0 D hf)
theorem c_Root_keptStreets (Γ : GmT) {D : Dt} {rr : Int32} {DD : Dt} (hf : f_Root_keptStreets D = some (rr, DD)) : Mt Γ y_Root_keptStreets b_Root_keptStreets 3 (some .int) 1 [.ref (Γ.2.1 0)] D (some (.int rr)) DD := Mt_of (by decide) (Nat.le_of_ble_eq_true rfl) (fun G C => te_Root_keptStreets C hf)
def b_Root_rowsThere_28 (k4 : Int32 → Int32 → Dt → Option (Int32 × Dt)) (v2 : Int32) (s0 : Int32) (s1 : Int32) (D : Dt) : Option (Int32 × Dt) :=
  k4 (s1 + s0) (v2 + 1) D
set_option maxHeartbeats 4000000 in
theorem tb_Root_rowsThere_28 {Γ : GmT} {G : Dt → Nat → List (Nat × Value) → List Value → Prop} {rr : Int32} {DD : Dt} (C : Cx Γ "RiverTuesdays" b_Root_rowsThere 3 2 (some .int) (some (.int rr)) DD G) {k4 : Int32 → Int32 → Dt → Option (Int32 × Dt)} (hk4 : ∀ (v1 : Int32) (v2 : Int32) (D : Dt), k4 v1 v2 D = some (rr, DD) → G D 4 [(0, .ref (Γ.2.1 0)), (1, .int v1), (2, .int v2)] []) {v2 : Int32} {s0 : Int32} {s1 : Int32} {D : Dt} (hf : b_Root_rowsThere_28 k4 v2 s0 s1 D = some (rr, DD)) : G D 28 [(0, .ref (Γ.2.1 0)), (2, .int v2)] [.int s0, .int s1] := by
  unfold b_Root_rowsThere_28 at hf
  refine r_iadd (pc := 28) C d_Root_rowsThere_28 ?_
  refine r_istore_n (pc := 29) (lv' := [(1, .int (s1 + s0)), (0, .ref (Γ.2.1 0)), (2, .int v2)]) C d_Root_rowsThere_29 rfl (Nat.le_of_ble_eq_true rfl) rfl ?_
  refine r_iinc (pc := 30) C (v := v2 + 1) (lv' := [(2, .int (v2 + 1)), (1, .int (s1 + s0)), (0, .ref (Γ.2.1 0))]) 2 d_Root_rowsThere_30 rfl rfl (Nat.le_of_ble_eq_true rfl) rfl ?_
  refine r_goto (pc := 33) C (tgt := 4) d_Root_rowsThere_33 (by decide) ?_
  exact r_lv (pc := 4) C [2, 1, 0] rfl (hk4 (s1 + s0) (v2 + 1) D hf)
def s_Root_rowsThere_4 (k4 : Int32 → Int32 → Dt → Option (Int32 × Dt)) (v1 : Int32) (v2 : Int32) (D : Dt) : Option (Int32 × Dt) :=
  (if 6 ≤ v2 then some (v1, D) else (if inb v2 6 = true then bnd (f_Row_isThere (111 + 2 * v2.toNatClampNeg) D) (fun x1 D2 => (if x1 = 0 then b_Root_rowsThere_28 k4 v2 0 v1 D2 else b_Root_rowsThere_28 k4 v2 1 v1 D2)) else none))
def lp_Root_rowsThere_4 (n : Nat) : Int32 → Int32 → Dt → Option (Int32 × Dt) := itr (fun _ _ _ => none) (s_Root_rowsThere_4) n
set_option maxHeartbeats 4000000 in
theorem ts_Root_rowsThere_4 {Γ : GmT} {G : Dt → Nat → List (Nat × Value) → List Value → Prop} {rr : Int32} {DD : Dt} (C : Cx Γ "RiverTuesdays" b_Root_rowsThere 3 2 (some .int) (some (.int rr)) DD G) {k4 : Int32 → Int32 → Dt → Option (Int32 × Dt)} (hk4 : ∀ (v1 : Int32) (v2 : Int32) (D : Dt), k4 v1 v2 D = some (rr, DD) → G D 4 [(0, .ref (Γ.2.1 0)), (1, .int v1), (2, .int v2)] []) {v1 : Int32} {v2 : Int32} {D : Dt} (hf : s_Root_rowsThere_4 k4 v1 v2 D = some (rr, DD)) : G D 4 [(0, .ref (Γ.2.1 0)), (1, .int v1), (2, .int v2)] [] := by
  unfold s_Root_rowsThere_4 at hf
  refine r_iload_n (pc := 4) C 2 d_Root_rowsThere_4 rfl rfl ?_
  refine r_bipush (pc := 5) C (v := 6) d_Root_rowsThere_5 (by decide) ?_
  refine r_icmp_ge (pc := 7) C (tgt := 36) d_Root_rowsThere_7 (by decide) hf (fun c7 hf => ?_) (fun c7 hf => ?_)
  · refine r_iload_n (pc := 36) C 1 d_Root_rowsThere_36 rfl rfl ?_
    exact r_iret (pc := 37) C d_Root_rowsThere_37 hf
  · refine r_iload_n (pc := 10) C 1 d_Root_rowsThere_10 rfl rfl ?_
    refine r_aload_n (pc := 11) C 0 d_Root_rowsThere_11 rfl rfl ?_
    refine g_Root_rows (pc := 12) C k_id0 Lf_Root_11 d_Root_rowsThere_12 ?_
    refine r_iload_n (pc := 15) C 2 d_Root_rowsThere_15 rfl rfl ?_
    refine r_aald13 (pc := 16) C kq_Root_rows d_Root_rowsThere_16 hf (fun hn16 hf => ?_)
    refine r_callVi (pc := 17) (As := []) (rest := [.int v1]) C ok_Row_isThere Lm_Root_109 (ke13 _ (inb_lt hn16)) (by decide) ⟨by decide, by decide⟩ rfl rfl (Nat.le_of_ble_eq_true rfl) d_Root_rowsThere_17 hf (fun x D1 hc => c_Row_isThere Γ (ke13 _ (inb_lt hn16)) hc) (fun x1 D2 hf => ?_)
    refine r_if_eq (pc := 20) C (tgt := 27) d_Root_rowsThere_20 (by decide) hf (fun c20 hf => ?_) (fun c20 hf => ?_)
    · refine r_iconst (pc := 27) C (v := 0) d_Root_rowsThere_27 (by decide) ?_
      exact r_lv (pc := 28) C [0, 2] rfl (tb_Root_rowsThere_28 C hk4 hf)
    · refine r_iconst (pc := 23) C (v := 1) d_Root_rowsThere_23 (by decide) ?_
      refine r_goto (pc := 24) C (tgt := 28) d_Root_rowsThere_24 (by decide) ?_
      exact r_lv (pc := 28) C [0, 2] rfl (tb_Root_rowsThere_28 C hk4 hf)
theorem tl_Root_rowsThere_4 {Γ : GmT} {G : Dt → Nat → List (Nat × Value) → List Value → Prop} {rr : Int32} {DD : Dt} (C : Cx Γ "RiverTuesdays" b_Root_rowsThere 3 2 (some .int) (some (.int rr)) DD G) : ∀ (n : Nat) (v1 : Int32) (v2 : Int32) (D : Dt), lp_Root_rowsThere_4 n v1 v2 D = some (rr, DD) → G D 4 [(0, .ref (Γ.2.1 0)), (1, .int v1), (2, .int v2)] [] := by
  intro n
  induction n with
  | zero =>
    intro v1 v2 D hf
    exact absurd (show (none : Option (Int32 × Dt)) = some (rr, DD) from hf) (by simp)
  | succ n ih =>
    intro v1 v2 D hf
    exact ts_Root_rowsThere_4 C (k4 := lp_Root_rowsThere_4 n) ih hf
def f_Root_rowsThere (D : Dt) : Option (Int32 × Dt) :=
  lp_Root_rowsThere_4 FU 0 0 D
set_option maxHeartbeats 4000000 in
theorem te_Root_rowsThere {Γ : GmT} {G : Dt → Nat → List (Nat × Value) → List Value → Prop} {rr : Int32} {DD : Dt} (C : Cx Γ "RiverTuesdays" b_Root_rowsThere 3 2 (some .int) (some (.int rr)) DD G) {D : Dt} (hf : f_Root_rowsThere D = some (rr, DD)) : G D 0 [(0, .ref (Γ.2.1 0))] [] := by
  unfold f_Root_rowsThere at hf
  refine r_iconst (pc := 0) C (v := 0) d_Root_rowsThere_0 (by decide) ?_
  refine r_istore_n (pc := 1) (lv' := [(1, .int 0), (0, .ref (Γ.2.1 0))]) C d_Root_rowsThere_1 rfl (Nat.le_of_ble_eq_true rfl) rfl ?_
  refine r_iconst (pc := 2) C (v := 0) d_Root_rowsThere_2 (by decide) ?_
  refine r_istore_n (pc := 3) (lv' := [(2, .int 0), (1, .int 0), (0, .ref (Γ.2.1 0))]) C d_Root_rowsThere_3 rfl (Nat.le_of_ble_eq_true rfl) rfl ?_
  exact r_lv (pc := 4) C [2, 1, 0] rfl (tl_Root_rowsThere_4 C FU 0 0 D hf)
theorem c_Root_rowsThere (Γ : GmT) {D : Dt} {rr : Int32} {DD : Dt} (hf : f_Root_rowsThere D = some (rr, DD)) : Mt Γ y_Root_rowsThere b_Root_rowsThere 3 (some .int) 2 [.ref (Γ.2.1 0)] D (some (.int rr)) DD := Mt_of (by decide) (Nat.le_of_ble_eq_true rfl) (fun G C => te_Root_rowsThere C hf)
def b_Root_textsThere_27 (k4 : Int32 → Int32 → Dt → Option (Int32 × Dt)) (v2 : Int32) (s0 : Int32) (s1 : Int32) (D : Dt) : Option (Int32 × Dt) :=
  k4 (s1 + s0) (v2 + 1) D
set_option maxHeartbeats 4000000 in
theorem tb_Root_textsThere_27 {Γ : GmT} {G : Dt → Nat → List (Nat × Value) → List Value → Prop} {rr : Int32} {DD : Dt} (C : Cx Γ "RiverTuesdays" b_Root_textsThere 3 2 (some .int) (some (.int rr)) DD G) {k4 : Int32 → Int32 → Dt → Option (Int32 × Dt)} (hk4 : ∀ (v1 : Int32) (v2 : Int32) (D : Dt), k4 v1 v2 D = some (rr, DD) → G D 4 [(0, .ref (Γ.2.1 0)), (1, .int v1), (2, .int v2)] []) {v2 : Int32} {s0 : Int32} {s1 : Int32} {D : Dt} (hf : b_Root_textsThere_27 k4 v2 s0 s1 D = some (rr, DD)) : G D 27 [(0, .ref (Γ.2.1 0)), (2, .int v2)] [.int s0, .int s1] := by
  unfold b_Root_textsThere_27 at hf
  refine r_iadd (pc := 27) C d_Root_textsThere_27 ?_
  refine r_istore_n (pc := 28) (lv' := [(1, .int (s1 + s0)), (0, .ref (Γ.2.1 0)), (2, .int v2)]) C d_Root_textsThere_28 rfl (Nat.le_of_ble_eq_true rfl) rfl ?_
  refine r_iinc (pc := 29) C (v := v2 + 1) (lv' := [(2, .int (v2 + 1)), (1, .int (s1 + s0)), (0, .ref (Γ.2.1 0))]) 2 d_Root_textsThere_29 rfl rfl (Nat.le_of_ble_eq_true rfl) rfl ?_
  refine r_goto (pc := 32) C (tgt := 4) d_Root_textsThere_32 (by decide) ?_
  exact r_lv (pc := 4) C [2, 1, 0] rfl (hk4 (s1 + s0) (v2 + 1) D hf)
def s_Root_textsThere_4 (k4 : Int32 → Int32 → Dt → Option (Int32 × Dt)) (v1 : Int32) (v2 : Int32) (D : Dt) : Option (Int32 × Dt) :=
  (if 4 ≤ v2 then some (v1, D) else (if inb v2 4 = true then bnd (f_Text_isThere (123 + 2 * v2.toNatClampNeg) D) (fun x1 D2 => (if x1 = 0 then b_Root_textsThere_27 k4 v2 0 v1 D2 else b_Root_textsThere_27 k4 v2 1 v1 D2)) else none))
def lp_Root_textsThere_4 (n : Nat) : Int32 → Int32 → Dt → Option (Int32 × Dt) := itr (fun _ _ _ => none) (s_Root_textsThere_4) n
set_option maxHeartbeats 4000000 in
theorem ts_Root_textsThere_4 {Γ : GmT} {G : Dt → Nat → List (Nat × Value) → List Value → Prop} {rr : Int32} {DD : Dt} (C : Cx Γ "RiverTuesdays" b_Root_textsThere 3 2 (some .int) (some (.int rr)) DD G) {k4 : Int32 → Int32 → Dt → Option (Int32 × Dt)} (hk4 : ∀ (v1 : Int32) (v2 : Int32) (D : Dt), k4 v1 v2 D = some (rr, DD) → G D 4 [(0, .ref (Γ.2.1 0)), (1, .int v1), (2, .int v2)] []) {v1 : Int32} {v2 : Int32} {D : Dt} (hf : s_Root_textsThere_4 k4 v1 v2 D = some (rr, DD)) : G D 4 [(0, .ref (Γ.2.1 0)), (1, .int v1), (2, .int v2)] [] := by
  unfold s_Root_textsThere_4 at hf
  refine r_iload_n (pc := 4) C 2 d_Root_textsThere_4 rfl rfl ?_
  refine r_iconst (pc := 5) C (v := 4) d_Root_textsThere_5 (by decide) ?_
  refine r_icmp_ge (pc := 6) C (tgt := 35) d_Root_textsThere_6 (by decide) hf (fun c6 hf => ?_) (fun c6 hf => ?_)
  · refine r_iload_n (pc := 35) C 1 d_Root_textsThere_35 rfl rfl ?_
    exact r_iret (pc := 36) C d_Root_textsThere_36 hf
  · refine r_iload_n (pc := 9) C 1 d_Root_textsThere_9 rfl rfl ?_
    refine r_aload_n (pc := 10) C 0 d_Root_textsThere_10 rfl rfl ?_
    refine g_Root_texts (pc := 11) C k_id0 Lf_Root_17 d_Root_textsThere_11 ?_
    refine r_iload_n (pc := 14) C 2 d_Root_textsThere_14 rfl rfl ?_
    refine r_aald15 (pc := 15) C kq_Root_texts d_Root_textsThere_15 hf (fun hn15 hf => ?_)
    refine r_callVi (pc := 16) (As := []) (rest := [.int v1]) C ok_Text_isThere Lm_Root_425 (ke15 _ (inb_lt hn15)) (by decide) ⟨by decide, by decide⟩ rfl rfl (Nat.le_of_ble_eq_true rfl) d_Root_textsThere_16 hf (fun x D1 hc => c_Text_isThere Γ (ke15 _ (inb_lt hn15)) hc) (fun x1 D2 hf => ?_)
    refine r_if_eq (pc := 19) C (tgt := 26) d_Root_textsThere_19 (by decide) hf (fun c19 hf => ?_) (fun c19 hf => ?_)
    · refine r_iconst (pc := 26) C (v := 0) d_Root_textsThere_26 (by decide) ?_
      exact r_lv (pc := 27) C [0, 2] rfl (tb_Root_textsThere_27 C hk4 hf)
    · refine r_iconst (pc := 22) C (v := 1) d_Root_textsThere_22 (by decide) ?_
      refine r_goto (pc := 23) C (tgt := 27) d_Root_textsThere_23 (by decide) ?_
      exact r_lv (pc := 27) C [0, 2] rfl (tb_Root_textsThere_27 C hk4 hf)
theorem tl_Root_textsThere_4 {Γ : GmT} {G : Dt → Nat → List (Nat × Value) → List Value → Prop} {rr : Int32} {DD : Dt} (C : Cx Γ "RiverTuesdays" b_Root_textsThere 3 2 (some .int) (some (.int rr)) DD G) : ∀ (n : Nat) (v1 : Int32) (v2 : Int32) (D : Dt), lp_Root_textsThere_4 n v1 v2 D = some (rr, DD) → G D 4 [(0, .ref (Γ.2.1 0)), (1, .int v1), (2, .int v2)] [] := by
  intro n
  induction n with
  | zero =>
    intro v1 v2 D hf
    exact absurd (show (none : Option (Int32 × Dt)) = some (rr, DD) from hf) (by simp)
  | succ n ih =>
    intro v1 v2 D hf
    exact ts_Root_textsThere_4 C (k4 := lp_Root_textsThere_4 n) ih hf
def f_Root_textsThere (D : Dt) : Option (Int32 × Dt) :=
  lp_Root_textsThere_4 FU 0 0 D
set_option maxHeartbeats 4000000 in
theorem te_Root_textsThere {Γ : GmT} {G : Dt → Nat → List (Nat × Value) → List Value → Prop} {rr : Int32} {DD : Dt} (C : Cx Γ "RiverTuesdays" b_Root_textsThere 3 2 (some .int) (some (.int rr)) DD G) {D : Dt} (hf : f_Root_textsThere D = some (rr, DD)) : G D 0 [(0, .ref (Γ.2.1 0))] [] := by
  unfold f_Root_textsThere at hf
  refine r_iconst (pc := 0) C (v := 0) d_Root_textsThere_0 (by decide) ?_
  refine r_istore_n (pc := 1) (lv' := [(1, .int 0), (0, .ref (Γ.2.1 0))]) C d_Root_textsThere_1 rfl (Nat.le_of_ble_eq_true rfl) rfl ?_
  refine r_iconst (pc := 2) C (v := 0) d_Root_textsThere_2 (by decide) ?_
  refine r_istore_n (pc := 3) (lv' := [(2, .int 0), (1, .int 0), (0, .ref (Γ.2.1 0))]) C d_Root_textsThere_3 rfl (Nat.le_of_ble_eq_true rfl) rfl ?_
  exact r_lv (pc := 4) C [2, 1, 0] rfl (tl_Root_textsThere_4 C FU 0 0 D hf)
theorem c_Root_textsThere (Γ : GmT) {D : Dt} {rr : Int32} {DD : Dt} (hf : f_Root_textsThere D = some (rr, DD)) : Mt Γ y_Root_textsThere b_Root_textsThere 3 (some .int) 2 [.ref (Γ.2.1 0)] D (some (.int rr)) DD := Mt_of (by decide) (Nat.le_of_ble_eq_true rfl) (fun G C => te_Root_textsThere C hf)
def f_Root_count (v1 : Int32) (D : Dt) : Option (Int32 × Dt) :=
  (if v1 = 0 then some (D (3 + 1) 5, D) else (if v1 = 1 then some (D 3 4, D) else (if v1 = 2 then bnd (f_Bed_howManyOf (3 + 1) 1 D) (fun x1 D2 => some (x1, D2)) else (if v1 = 3 then bnd (f_Bed_howManyOf (3 + 1) 3 D) (fun x3 D4 => some (x3, D4)) else (if v1 = 4 then bnd (f_Bed_howManyShut (3 + 1) D) (fun x5 D6 => some (x5, D6)) else (if v1 = 5 then bnd (f_Root_keptStreets D) (fun x7 D8 => some (x7, D8)) else (if v1 = 6 then bnd (f_Root_rowsThere D) (fun x9 D10 => some (x9, D10)) else (if v1 = 7 then bnd (f_Root_textsThere D) (fun x11 D12 => some (x11, D12)) else some ((-1), D)))))))))
set_option maxHeartbeats 4000000 in
theorem te_Root_count {Γ : GmT} {G : Dt → Nat → List (Nat × Value) → List Value → Prop} {rr : Int32} {DD : Dt} (C : Cx Γ "RiverTuesdays" b_Root_count 2 3 (some .int) (some (.int rr)) DD G) {v1 : Int32} {D : Dt} (hf : f_Root_count v1 D = some (rr, DD)) : G D 0 [(0, .ref (Γ.2.1 0)), (1, .int v1)] [] := by
  unfold f_Root_count at hf
  refine r_iload_n (pc := 0) C 1 d_Root_count_0 rfl rfl ?_
  by_cases q1_0 : v1 = 0
  · rw [if_pos q1_0] at hf
    refine r_tsK (pc := 1) (tgt := 48) C q1_0 d_Root_count_1 (by decide) (by decide) (off := 47) (by decide) (by decide) ?_
    refine r_aload_n (pc := 48) C 0 d_Root_count_48 rfl rfl ?_
    refine g_Root_present (pc := 49) C k_id0 Lf_Root_24 d_Root_count_49 ?_
    refine g_Street_bed (pc := 52) C kq_Root_present Lf_Root_146 d_Root_count_52 ?_
    refine g_Bed_houses (pc := 55) C (kq_Street_bed kq_Root_present) Lf_Root_149 d_Root_count_55 ?_
    exact r_iret (pc := 58) C d_Root_count_58 hf
  rw [if_neg q1_0] at hf
  by_cases q1_1 : v1 = 1
  · rw [if_pos q1_1] at hf
    refine r_tsK (pc := 1) (tgt := 59) C q1_1 d_Root_count_1 (by decide) (by decide) (off := 58) (by decide) (by decide) ?_
    refine r_aload_n (pc := 59) C 0 d_Root_count_59 rfl rfl ?_
    refine g_Root_present (pc := 60) C k_id0 Lf_Root_24 d_Root_count_60 ?_
    refine g_Street_hours (pc := 63) C kq_Root_present Lf_Root_212 d_Root_count_63 ?_
    exact r_iret (pc := 66) C d_Root_count_66 hf
  rw [if_neg q1_1] at hf
  by_cases q1_2 : v1 = 2
  · rw [if_pos q1_2] at hf
    refine r_tsK (pc := 1) (tgt := 67) C q1_2 d_Root_count_1 (by decide) (by decide) (off := 66) (by decide) (by decide) ?_
    refine r_aload_n (pc := 67) C 0 d_Root_count_67 rfl rfl ?_
    refine g_Root_present (pc := 68) C k_id0 Lf_Root_24 d_Root_count_68 ?_
    refine g_Street_bed (pc := 71) C kq_Root_present Lf_Root_146 d_Root_count_71 ?_
    refine r_iconst (pc := 74) C (v := 1) d_Root_count_74 (by decide) ?_
    refine r_callVi (pc := 75) (As := [.int 1]) (rest := []) C ok_Bed_howManyOf Lm_Root_394 (kq_Street_bed kq_Root_present) (by decide) ⟨by decide, by decide⟩ rfl rfl (Nat.le_of_ble_eq_true rfl) d_Root_count_75 hf (fun x D1 hc => c_Bed_howManyOf Γ (kq_Street_bed kq_Root_present) hc) (fun x1 D2 hf => ?_)
    exact r_iret (pc := 78) C d_Root_count_78 hf
  rw [if_neg q1_2] at hf
  by_cases q1_3 : v1 = 3
  · rw [if_pos q1_3] at hf
    refine r_tsK (pc := 1) (tgt := 79) C q1_3 d_Root_count_1 (by decide) (by decide) (off := 78) (by decide) (by decide) ?_
    refine r_aload_n (pc := 79) C 0 d_Root_count_79 rfl rfl ?_
    refine g_Root_present (pc := 80) C k_id0 Lf_Root_24 d_Root_count_80 ?_
    refine g_Street_bed (pc := 83) C kq_Root_present Lf_Root_146 d_Root_count_83 ?_
    refine r_iconst (pc := 86) C (v := 3) d_Root_count_86 (by decide) ?_
    refine r_callVi (pc := 87) (As := [.int 3]) (rest := []) C ok_Bed_howManyOf Lm_Root_394 (kq_Street_bed kq_Root_present) (by decide) ⟨by decide, by decide⟩ rfl rfl (Nat.le_of_ble_eq_true rfl) d_Root_count_87 hf (fun x D1 hc => c_Bed_howManyOf Γ (kq_Street_bed kq_Root_present) hc) (fun x3 D4 hf => ?_)
    exact r_iret (pc := 90) C d_Root_count_90 hf
  rw [if_neg q1_3] at hf
  by_cases q1_4 : v1 = 4
  · rw [if_pos q1_4] at hf
    refine r_tsK (pc := 1) (tgt := 91) C q1_4 d_Root_count_1 (by decide) (by decide) (off := 90) (by decide) (by decide) ?_
    refine r_aload_n (pc := 91) C 0 d_Root_count_91 rfl rfl ?_
    refine g_Root_present (pc := 92) C k_id0 Lf_Root_24 d_Root_count_92 ?_
    refine g_Street_bed (pc := 95) C kq_Root_present Lf_Root_146 d_Root_count_95 ?_
    refine r_callVi (pc := 98) (As := []) (rest := []) C ok_Bed_howManyShut Lm_Root_397 (kq_Street_bed kq_Root_present) (by decide) ⟨by decide, by decide⟩ rfl rfl (Nat.le_of_ble_eq_true rfl) d_Root_count_98 hf (fun x D1 hc => c_Bed_howManyShut Γ (kq_Street_bed kq_Root_present) hc) (fun x5 D6 hf => ?_)
    exact r_iret (pc := 101) C d_Root_count_101 hf
  rw [if_neg q1_4] at hf
  by_cases q1_5 : v1 = 5
  · rw [if_pos q1_5] at hf
    refine r_tsK (pc := 1) (tgt := 102) C q1_5 d_Root_count_1 (by decide) (by decide) (off := 101) (by decide) (by decide) ?_
    refine r_aload_n (pc := 102) C 0 d_Root_count_102 rfl rfl ?_
    refine r_callVi (pc := 103) (As := []) (rest := []) C ok_Root_keptStreets Lm_Root_400 k_id0 (by decide) ⟨by decide, by decide⟩ rfl rfl (Nat.le_of_ble_eq_true rfl) d_Root_count_103 hf (fun x D1 hc => c_Root_keptStreets Γ hc) (fun x7 D8 hf => ?_)
    exact r_iret (pc := 106) C d_Root_count_106 hf
  rw [if_neg q1_5] at hf
  by_cases q1_6 : v1 = 6
  · rw [if_pos q1_6] at hf
    refine r_tsK (pc := 1) (tgt := 107) C q1_6 d_Root_count_1 (by decide) (by decide) (off := 106) (by decide) (by decide) ?_
    refine r_aload_n (pc := 107) C 0 d_Root_count_107 rfl rfl ?_
    refine r_callVi (pc := 108) (As := []) (rest := []) C ok_Root_rowsThere Lm_Root_403 k_id0 (by decide) ⟨by decide, by decide⟩ rfl rfl (Nat.le_of_ble_eq_true rfl) d_Root_count_108 hf (fun x D1 hc => c_Root_rowsThere Γ hc) (fun x9 D10 hf => ?_)
    exact r_iret (pc := 111) C d_Root_count_111 hf
  rw [if_neg q1_6] at hf
  by_cases q1_7 : v1 = 7
  · rw [if_pos q1_7] at hf
    refine r_tsK (pc := 1) (tgt := 112) C q1_7 d_Root_count_1 (by decide) (by decide) (off := 111) (by decide) (by decide) ?_
    refine r_aload_n (pc := 112) C 0 d_Root_count_112 rfl rfl ?_
    refine r_callVi (pc := 113) (As := []) (rest := []) C ok_Root_textsThere Lm_Root_406 k_id0 (by decide) ⟨by decide, by decide⟩ rfl rfl (Nat.le_of_ble_eq_true rfl) d_Root_count_113 hf (fun x D1 hc => c_Root_textsThere Γ hc) (fun x11 D12 hf => ?_)
    exact r_iret (pc := 116) C d_Root_count_116 hf
  rw [if_neg q1_7] at hf
  refine r_tsD (pc := 1) (tgt := 117) C [0, 1, 2, 3, 4, 5, 6, 7] (by simp only [List.mem_cons, List.not_mem_nil, not_or, or_false]; exact ⟨q1_0, q1_1, q1_2, q1_3, q1_4, q1_5, q1_6, q1_7⟩) d_Root_count_1 (by decide) (by decide) (by decide) ?_
  refine r_iconst (pc := 117) C (v := (-1)) d_Root_count_117 (by decide) ?_
  exact r_iret (pc := 118) C d_Root_count_118 hf
theorem c_Root_count (Γ : GmT) {v1 : Int32} {D : Dt} {rr : Int32} {DD : Dt} (hf : f_Root_count v1 D = some (rr, DD)) : Mt Γ y_Root_count b_Root_count 2 (some .int) 3 [.ref (Γ.2.1 0), .int v1] D (some (.int rr)) DD := Mt_of (by decide) (Nat.le_of_ble_eq_true rfl) (fun G C => te_Root_count C hf)
def f_Root_finding (D : Dt) : Option (Int32 × Dt) :=
  some (D 0 12, D)
set_option maxHeartbeats 4000000 in
theorem te_Root_finding {Γ : GmT} {G : Dt → Nat → List (Nat × Value) → List Value → Prop} {rr : Int32} {DD : Dt} (C : Cx Γ "RiverTuesdays" b_Root_finding 1 1 (some .int) (some (.int rr)) DD G) {D : Dt} (hf : f_Root_finding D = some (rr, DD)) : G D 0 [(0, .ref (Γ.2.1 0))] [] := by
  unfold f_Root_finding at hf
  refine r_aload_n (pc := 0) C 0 d_Root_finding_0 rfl rfl ?_
  refine g_Root_latestFound (pc := 1) C k_id0 Lf_Root_409 d_Root_finding_1 ?_
  exact r_iret (pc := 4) C d_Root_finding_4 hf
theorem c_Root_finding (Γ : GmT) {D : Dt} {rr : Int32} {DD : Dt} (hf : f_Root_finding D = some (rr, DD)) : Mt Γ y_Root_finding b_Root_finding 1 (some .int) 1 [.ref (Γ.2.1 0)] D (some (.int rr)) DD := Mt_of (by decide) (Nat.le_of_ble_eq_true rfl) (fun G C => te_Root_finding C hf)
def f_Root_findings (v1 : Int32) (D : Dt) : Option (Int32 × Dt) :=
  bnd (f_Root_isWithin v1 1 5 D) (fun x1 D2 => (if x1 = 0 then some ((-1), D2) else (if inb v1 6 = true then some (D2 110 v1.toNatClampNeg, D2) else none)))
set_option maxHeartbeats 4000000 in
theorem te_Root_findings {Γ : GmT} {G : Dt → Nat → List (Nat × Value) → List Value → Prop} {rr : Int32} {DD : Dt} (C : Cx Γ "RiverTuesdays" b_Root_findings 2 2 (some .int) (some (.int rr)) DD G) {v1 : Int32} {D : Dt} (hf : f_Root_findings v1 D = some (rr, DD)) : G D 0 [(0, .ref (Γ.2.1 0)), (1, .int v1)] [] := by
  unfold f_Root_findings at hf
  refine r_iload_n (pc := 0) C 1 d_Root_findings_0 rfl rfl ?_
  refine r_iconst (pc := 1) C (v := 1) d_Root_findings_1 (by decide) ?_
  refine r_iconst (pc := 2) C (v := 5) d_Root_findings_2 (by decide) ?_
  refine r_callSi (pc := 3) (As := [.int v1, .int 1, .int 5]) (rest := []) C ok_Root_isWithin Lm_Root_155 ⟨by decide, by decide⟩ rfl rfl (Nat.le_of_ble_eq_true rfl) d_Root_findings_3 hf (fun x D1 hc => c_Root_isWithin Γ hc) (fun x1 D2 hf => ?_)
  refine r_if_eq (pc := 6) C (tgt := 18) d_Root_findings_6 (by decide) hf (fun c6 hf => ?_) (fun c6 hf => ?_)
  · refine r_iconst (pc := 18) C (v := (-1)) d_Root_findings_18 (by decide) ?_
    exact r_iret (pc := 19) C d_Root_findings_19 hf
  · refine r_aload_n (pc := 9) C 0 d_Root_findings_9 rfl rfl ?_
    refine g_Root_timesFound (pc := 10) C k_id0 Lf_Root_75 d_Root_findings_10 ?_
    refine r_iload_n (pc := 13) C 1 d_Root_findings_13 rfl rfl ?_
    refine r_iald (pc := 14) C kq_Root_timesFound d_Root_findings_14 hf (fun hf => ?_)
    refine r_goto (pc := 15) C (tgt := 19) d_Root_findings_15 (by decide) ?_
    exact r_iret (pc := 19) C d_Root_findings_19 hf
theorem c_Root_findings (Γ : GmT) {v1 : Int32} {D : Dt} {rr : Int32} {DD : Dt} (hf : f_Root_findings v1 D = some (rr, DD)) : Mt Γ y_Root_findings b_Root_findings 2 (some .int) 2 [.ref (Γ.2.1 0), .int v1] D (some (.int rr)) DD := Mt_of (by decide) (Nat.le_of_ble_eq_true rfl) (fun G C => te_Root_findings C hf)
def s_Root_digest_110 (k110 : Int64 → Int32 → Dt → Option (Int64 × Dt)) (v1 : Int64) (v3 : Int32) (D : Dt) : Option (Int64 × Dt) :=
  (if 4 ≤ v3 then some (v1, D) else (if inb v3 4 = true then bnd (f_Text_foldedInto (123 + 2 * v3.toNatClampNeg) v1 D) (fun x3 D4 => k110 x3 (v3 + 1) D4) else none))
def lp_Root_digest_110 (n : Nat) : Int64 → Int32 → Dt → Option (Int64 × Dt) := itr (fun _ _ _ => none) (s_Root_digest_110) n
set_option maxHeartbeats 4000000 in
theorem ts_Root_digest_110 {Γ : GmT} {G : Dt → Nat → List (Nat × Value) → List Value → Prop} {rr : Int64} {DD : Dt} (C : Cx Γ "RiverTuesdays" b_Root_digest 4 4 (some .long) (some (.long rr)) DD G) {k110 : Int64 → Int32 → Dt → Option (Int64 × Dt)} (hk110 : ∀ (v1 : Int64) (v3 : Int32) (D : Dt), k110 v1 v3 D = some (rr, DD) → G D 110 [(0, .ref (Γ.2.1 0)), (1, .long v1), (3, .int v3)] []) {v1 : Int64} {v3 : Int32} {D : Dt} (hf : s_Root_digest_110 k110 v1 v3 D = some (rr, DD)) : G D 110 [(0, .ref (Γ.2.1 0)), (1, .long v1), (3, .int v3)] [] := by
  unfold s_Root_digest_110 at hf
  refine r_iload_n (pc := 110) C 2 d_Root_digest_110 rfl rfl ?_
  refine r_iconst (pc := 111) C (v := 4) d_Root_digest_111 (by decide) ?_
  refine r_icmp_ge (pc := 112) C (tgt := 132) d_Root_digest_112 (by decide) hf (fun c112 hf => ?_) (fun c112 hf => ?_)
  · refine r_lload_n (pc := 132) C 1 d_Root_digest_132 rfl rfl ?_
    exact r_lret (pc := 133) C d_Root_digest_133 hf
  · refine r_aload_n (pc := 115) C 0 d_Root_digest_115 rfl rfl ?_
    refine g_Root_texts (pc := 116) C k_id0 Lf_Root_17 d_Root_digest_116 ?_
    refine r_iload_n (pc := 119) C 2 d_Root_digest_119 rfl rfl ?_
    refine r_aald15 (pc := 120) C kq_Root_texts d_Root_digest_120 hf (fun hn120 hf => ?_)
    refine r_lload_n (pc := 121) C 1 d_Root_digest_121 rfl rfl ?_
    refine r_callVl (pc := 122) (As := [.long v1]) (rest := []) C ok_Text_foldedInto Lm_Root_424 (ke15 _ (inb_lt hn120)) (by decide) ⟨by decide, by decide⟩ rfl rfl (Nat.le_of_ble_eq_true rfl) d_Root_digest_122 hf (fun x D1 hc => c_Text_foldedInto Γ (ke15 _ (inb_lt hn120)) hc) (fun x3 D4 hf => ?_)
    refine r_lstore_n (pc := 125) (lv' := [(1, .long x3), (0, .ref (Γ.2.1 0)), (3, .int v3)]) C d_Root_digest_125 rfl (Nat.le_of_ble_eq_true rfl) rfl ?_
    refine r_iinc (pc := 126) C (v := v3 + 1) (lv' := [(3, .int (v3 + 1)), (1, .long x3), (0, .ref (Γ.2.1 0))]) 2 d_Root_digest_126 rfl rfl (Nat.le_of_ble_eq_true rfl) rfl ?_
    refine r_goto (pc := 129) C (tgt := 110) d_Root_digest_129 (by decide) ?_
    exact r_lv (pc := 110) C [2, 1, 0] rfl (hk110 x3 (v3 + 1) D4 hf)
theorem tl_Root_digest_110 {Γ : GmT} {G : Dt → Nat → List (Nat × Value) → List Value → Prop} {rr : Int64} {DD : Dt} (C : Cx Γ "RiverTuesdays" b_Root_digest 4 4 (some .long) (some (.long rr)) DD G) : ∀ (n : Nat) (v1 : Int64) (v3 : Int32) (D : Dt), lp_Root_digest_110 n v1 v3 D = some (rr, DD) → G D 110 [(0, .ref (Γ.2.1 0)), (1, .long v1), (3, .int v3)] [] := by
  intro n
  induction n with
  | zero =>
    intro v1 v3 D hf
    exact absurd (show (none : Option (Int64 × Dt)) = some (rr, DD) from hf) (by simp)
  | succ n ih =>
    intro v1 v3 D hf
    exact ts_Root_digest_110 C (k110 := lp_Root_digest_110 n) ih hf
def s_Root_digest_85 (k85 : Int64 → Int32 → Dt → Option (Int64 × Dt)) (v1 : Int64) (v3 : Int32) (D : Dt) : Option (Int64 × Dt) :=
  (if 6 ≤ v3 then lp_Root_digest_110 FU v1 0 D else (if inb v3 6 = true then bnd (f_Row_foldedInto (111 + 2 * v3.toNatClampNeg) v1 D) (fun x5 D6 => k85 x5 (v3 + 1) D6) else none))
def lp_Root_digest_85 (n : Nat) : Int64 → Int32 → Dt → Option (Int64 × Dt) := itr (fun _ _ _ => none) (s_Root_digest_85) n
set_option maxHeartbeats 4000000 in
theorem ts_Root_digest_85 {Γ : GmT} {G : Dt → Nat → List (Nat × Value) → List Value → Prop} {rr : Int64} {DD : Dt} (C : Cx Γ "RiverTuesdays" b_Root_digest 4 4 (some .long) (some (.long rr)) DD G) {k85 : Int64 → Int32 → Dt → Option (Int64 × Dt)} (hk85 : ∀ (v1 : Int64) (v3 : Int32) (D : Dt), k85 v1 v3 D = some (rr, DD) → G D 85 [(0, .ref (Γ.2.1 0)), (1, .long v1), (3, .int v3)] []) {v1 : Int64} {v3 : Int32} {D : Dt} (hf : s_Root_digest_85 k85 v1 v3 D = some (rr, DD)) : G D 85 [(0, .ref (Γ.2.1 0)), (1, .long v1), (3, .int v3)] [] := by
  unfold s_Root_digest_85 at hf
  refine r_iload_n (pc := 85) C 2 d_Root_digest_85 rfl rfl ?_
  refine r_bipush (pc := 86) C (v := 6) d_Root_digest_86 (by decide) ?_
  refine r_icmp_ge (pc := 88) C (tgt := 108) d_Root_digest_88 (by decide) hf (fun c88 hf => ?_) (fun c88 hf => ?_)
  · refine r_iconst (pc := 108) C (v := 0) d_Root_digest_108 (by decide) ?_
    refine r_istore_n (pc := 109) (lv' := [(3, .int 0), (0, .ref (Γ.2.1 0)), (1, .long v1)]) C d_Root_digest_109 rfl (Nat.le_of_ble_eq_true rfl) rfl ?_
    exact r_lv (pc := 110) C [1, 2, 0] rfl (tl_Root_digest_110 C FU v1 0 D hf)
  · refine r_aload_n (pc := 91) C 0 d_Root_digest_91 rfl rfl ?_
    refine g_Root_rows (pc := 92) C k_id0 Lf_Root_11 d_Root_digest_92 ?_
    refine r_iload_n (pc := 95) C 2 d_Root_digest_95 rfl rfl ?_
    refine r_aald13 (pc := 96) C kq_Root_rows d_Root_digest_96 hf (fun hn96 hf => ?_)
    refine r_lload_n (pc := 97) C 1 d_Root_digest_97 rfl rfl ?_
    refine r_callVl (pc := 98) (As := [.long v1]) (rest := []) C ok_Row_foldedInto Lm_Root_423 (ke13 _ (inb_lt hn96)) (by decide) ⟨by decide, by decide⟩ rfl rfl (Nat.le_of_ble_eq_true rfl) d_Root_digest_98 hf (fun x D1 hc => c_Row_foldedInto Γ (ke13 _ (inb_lt hn96)) hc) (fun x5 D6 hf => ?_)
    refine r_lstore_n (pc := 101) (lv' := [(1, .long x5), (0, .ref (Γ.2.1 0)), (3, .int v3)]) C d_Root_digest_101 rfl (Nat.le_of_ble_eq_true rfl) rfl ?_
    refine r_iinc (pc := 102) C (v := v3 + 1) (lv' := [(3, .int (v3 + 1)), (1, .long x5), (0, .ref (Γ.2.1 0))]) 2 d_Root_digest_102 rfl rfl (Nat.le_of_ble_eq_true rfl) rfl ?_
    refine r_goto (pc := 105) C (tgt := 85) d_Root_digest_105 (by decide) ?_
    exact r_lv (pc := 85) C [2, 1, 0] rfl (hk85 x5 (v3 + 1) D6 hf)
theorem tl_Root_digest_85 {Γ : GmT} {G : Dt → Nat → List (Nat × Value) → List Value → Prop} {rr : Int64} {DD : Dt} (C : Cx Γ "RiverTuesdays" b_Root_digest 4 4 (some .long) (some (.long rr)) DD G) : ∀ (n : Nat) (v1 : Int64) (v3 : Int32) (D : Dt), lp_Root_digest_85 n v1 v3 D = some (rr, DD) → G D 85 [(0, .ref (Γ.2.1 0)), (1, .long v1), (3, .int v3)] [] := by
  intro n
  induction n with
  | zero =>
    intro v1 v3 D hf
    exact absurd (show (none : Option (Int64 × Dt)) = some (rr, DD) from hf) (by simp)
  | succ n ih =>
    intro v1 v3 D hf
    exact ts_Root_digest_85 C (k85 := lp_Root_digest_85 n) ih hf
def b_Root_digest_74 (k42 : Int64 → Int32 → Dt → Option (Int64 × Dt)) (v3 : Int32) (s0 : Int32) (s1 : Int64) (D : Dt) : Option (Int64 × Dt) :=
  k42 (s1 + (s0.toInt64)) (v3 + 1) D
set_option maxHeartbeats 4000000 in
theorem tb_Root_digest_74 {Γ : GmT} {G : Dt → Nat → List (Nat × Value) → List Value → Prop} {rr : Int64} {DD : Dt} (C : Cx Γ "RiverTuesdays" b_Root_digest 4 4 (some .long) (some (.long rr)) DD G) {k42 : Int64 → Int32 → Dt → Option (Int64 × Dt)} (hk42 : ∀ (v1 : Int64) (v3 : Int32) (D : Dt), k42 v1 v3 D = some (rr, DD) → G D 42 [(0, .ref (Γ.2.1 0)), (1, .long v1), (3, .int v3)] []) {v3 : Int32} {s0 : Int32} {s1 : Int64} {D : Dt} (hf : b_Root_digest_74 k42 v3 s0 s1 D = some (rr, DD)) : G D 74 [(0, .ref (Γ.2.1 0)), (3, .int v3)] [.int s0, .long s1] := by
  unfold b_Root_digest_74 at hf
  refine r_i2l (pc := 74) C d_Root_digest_74 ?_
  refine r_ladd (pc := 75) C d_Root_digest_75 ?_
  refine r_lstore_n (pc := 76) (lv' := [(1, .long (s1 + (s0.toInt64))), (0, .ref (Γ.2.1 0)), (3, .int v3)]) C d_Root_digest_76 rfl (Nat.le_of_ble_eq_true rfl) rfl ?_
  refine r_iinc (pc := 77) C (v := v3 + 1) (lv' := [(3, .int (v3 + 1)), (1, .long (s1 + (s0.toInt64))), (0, .ref (Γ.2.1 0))]) 2 d_Root_digest_77 rfl rfl (Nat.le_of_ble_eq_true rfl) rfl ?_
  refine r_goto (pc := 80) C (tgt := 42) d_Root_digest_80 (by decide) ?_
  exact r_lv (pc := 42) C [2, 1, 0] rfl (hk42 (s1 + (s0.toInt64)) (v3 + 1) D hf)
def s_Root_digest_42 (k42 : Int64 → Int32 → Dt → Option (Int64 × Dt)) (v1 : Int64) (v3 : Int32) (D : Dt) : Option (Int64 × Dt) :=
  (if 3 ≤ v3 then lp_Root_digest_85 FU v1 0 D else (if inb v3 3 = true then (if (D 19 v3.toNatClampNeg) = 0 then b_Root_digest_74 k42 v3 (-1) (31 * v1) D else (if inb v3 3 = true then b_Root_digest_74 k42 v3 (D (131 + 15 * v3.toNatClampNeg) 4) (31 * v1) D else none)) else none))
def lp_Root_digest_42 (n : Nat) : Int64 → Int32 → Dt → Option (Int64 × Dt) := itr (fun _ _ _ => none) (s_Root_digest_42) n
set_option maxHeartbeats 4000000 in
theorem ts_Root_digest_42 {Γ : GmT} {G : Dt → Nat → List (Nat × Value) → List Value → Prop} {rr : Int64} {DD : Dt} (C : Cx Γ "RiverTuesdays" b_Root_digest 4 4 (some .long) (some (.long rr)) DD G) {k42 : Int64 → Int32 → Dt → Option (Int64 × Dt)} (hk42 : ∀ (v1 : Int64) (v3 : Int32) (D : Dt), k42 v1 v3 D = some (rr, DD) → G D 42 [(0, .ref (Γ.2.1 0)), (1, .long v1), (3, .int v3)] []) {v1 : Int64} {v3 : Int32} {D : Dt} (hf : s_Root_digest_42 k42 v1 v3 D = some (rr, DD)) : G D 42 [(0, .ref (Γ.2.1 0)), (1, .long v1), (3, .int v3)] [] := by
  unfold s_Root_digest_42 at hf
  refine r_iload_n (pc := 42) C 2 d_Root_digest_42 rfl rfl ?_
  refine r_iconst (pc := 43) C (v := 3) d_Root_digest_43 (by decide) ?_
  refine r_icmp_ge (pc := 44) C (tgt := 83) d_Root_digest_44 (by decide) hf (fun c44 hf => ?_) (fun c44 hf => ?_)
  · refine r_iconst (pc := 83) C (v := 0) d_Root_digest_83 (by decide) ?_
    refine r_istore_n (pc := 84) (lv' := [(3, .int 0), (0, .ref (Γ.2.1 0)), (1, .long v1)]) C d_Root_digest_84 rfl (Nat.le_of_ble_eq_true rfl) rfl ?_
    exact r_lv (pc := 85) C [1, 2, 0] rfl (tl_Root_digest_85 C FU v1 0 D hf)
  · refine r_ldc2 (pc := 47) C Lc_Root_414 d_Root_digest_47 ?_
    refine r_lload_n (pc := 50) C 1 d_Root_digest_50 rfl rfl ?_
    refine r_lmul (pc := 51) C d_Root_digest_51 ?_
    refine r_aload_n (pc := 52) C 0 d_Root_digest_52 rfl rfl ?_
    refine g_Root_isKept (pc := 53) C k_id0 Lf_Root_32 d_Root_digest_53 ?_
    refine r_iload_n (pc := 56) C 2 d_Root_digest_56 rfl rfl ?_
    refine r_zald (pc := 57) C kq_Root_isKept d_Root_digest_57 hf (fun hf => ?_)
    refine r_if_eq (pc := 58) C (tgt := 73) d_Root_digest_58 (by decide) hf (fun c58 hf => ?_) (fun c58 hf => ?_)
    · refine r_iconst (pc := 73) C (v := (-1)) d_Root_digest_73 (by decide) ?_
      exact r_lv (pc := 74) C [0, 2] rfl (tb_Root_digest_74 C hk42 hf)
    · refine r_aload_n (pc := 61) C 0 d_Root_digest_61 rfl rfl ?_
      refine g_Root_kept (pc := 62) C k_id0 Lf_Root_28 d_Root_digest_62 ?_
      refine r_iload_n (pc := 65) C 2 d_Root_digest_65 rfl rfl ?_
      refine r_aald14 (pc := 66) C kq_Root_kept d_Root_digest_66 hf (fun hn66 hf => ?_)
      refine g_Street_hours (pc := 67) C (ke14 _ (inb_lt hn66)) Lf_Root_212 d_Root_digest_67 ?_
      refine r_goto (pc := 70) C (tgt := 74) d_Root_digest_70 (by decide) ?_
      exact r_lv (pc := 74) C [0, 2] rfl (tb_Root_digest_74 C hk42 hf)
theorem tl_Root_digest_42 {Γ : GmT} {G : Dt → Nat → List (Nat × Value) → List Value → Prop} {rr : Int64} {DD : Dt} (C : Cx Γ "RiverTuesdays" b_Root_digest 4 4 (some .long) (some (.long rr)) DD G) : ∀ (n : Nat) (v1 : Int64) (v3 : Int32) (D : Dt), lp_Root_digest_42 n v1 v3 D = some (rr, DD) → G D 42 [(0, .ref (Γ.2.1 0)), (1, .long v1), (3, .int v3)] [] := by
  intro n
  induction n with
  | zero =>
    intro v1 v3 D hf
    exact absurd (show (none : Option (Int64 × Dt)) = some (rr, DD) from hf) (by simp)
  | succ n ih =>
    intro v1 v3 D hf
    exact ts_Root_digest_42 C (k42 := lp_Root_digest_42 n) ih hf
def s_Root_digest_6 (k6 : Int64 → Int32 → Dt → Option (Int64 × Dt)) (v1 : Int64) (v3 : Int32) (D : Dt) : Option (Int64 × Dt) :=
  (if 8 ≤ v3 then bnd (f_Street_foldedInto 3 v1 D) (fun x1 D2 => lp_Root_digest_42 FU x1 0 D2) else bnd (f_Root_count v3 D) (fun x7 D8 => k6 ((31 * v1) + (x7.toInt64)) (v3 + 1) D8))
def lp_Root_digest_6 (n : Nat) : Int64 → Int32 → Dt → Option (Int64 × Dt) := itr (fun _ _ _ => none) (s_Root_digest_6) n
set_option maxHeartbeats 4000000 in
theorem ts_Root_digest_6 {Γ : GmT} {G : Dt → Nat → List (Nat × Value) → List Value → Prop} {rr : Int64} {DD : Dt} (C : Cx Γ "RiverTuesdays" b_Root_digest 4 4 (some .long) (some (.long rr)) DD G) {k6 : Int64 → Int32 → Dt → Option (Int64 × Dt)} (hk6 : ∀ (v1 : Int64) (v3 : Int32) (D : Dt), k6 v1 v3 D = some (rr, DD) → G D 6 [(0, .ref (Γ.2.1 0)), (1, .long v1), (3, .int v3)] []) {v1 : Int64} {v3 : Int32} {D : Dt} (hf : s_Root_digest_6 k6 v1 v3 D = some (rr, DD)) : G D 6 [(0, .ref (Γ.2.1 0)), (1, .long v1), (3, .int v3)] [] := by
  unfold s_Root_digest_6 at hf
  refine r_iload_n (pc := 6) C 2 d_Root_digest_6 rfl rfl ?_
  refine r_bipush (pc := 7) C (v := 8) d_Root_digest_7 (by decide) ?_
  refine r_icmp_ge (pc := 9) C (tgt := 31) d_Root_digest_9 (by decide) hf (fun c9 hf => ?_) (fun c9 hf => ?_)
  · refine r_aload_n (pc := 31) C 0 d_Root_digest_31 rfl rfl ?_
    refine g_Root_present (pc := 32) C k_id0 Lf_Root_24 d_Root_digest_32 ?_
    refine r_lload_n (pc := 35) C 1 d_Root_digest_35 rfl rfl ?_
    refine r_callVl (pc := 36) (As := [.long v1]) (rest := []) C ok_Street_foldedInto Lm_Root_419 kq_Root_present (by decide) ⟨by decide, by decide⟩ rfl rfl (Nat.le_of_ble_eq_true rfl) d_Root_digest_36 hf (fun x D1 hc => c_Street_foldedInto Γ kq_Root_present hc) (fun x1 D2 hf => ?_)
    refine r_lstore_n (pc := 39) (lv' := [(1, .long x1), (0, .ref (Γ.2.1 0)), (3, .int v3)]) C d_Root_digest_39 rfl (Nat.le_of_ble_eq_true rfl) rfl ?_
    refine r_iconst (pc := 40) C (v := 0) d_Root_digest_40 (by decide) ?_
    refine r_istore_n (pc := 41) (lv' := [(3, .int 0), (1, .long x1), (0, .ref (Γ.2.1 0))]) C d_Root_digest_41 rfl (Nat.le_of_ble_eq_true rfl) rfl ?_
    exact r_lv (pc := 42) C [2, 1, 0] rfl (tl_Root_digest_42 C FU x1 0 D2 hf)
  · refine r_ldc2 (pc := 12) C Lc_Root_414 d_Root_digest_12 ?_
    refine r_lload_n (pc := 15) C 1 d_Root_digest_15 rfl rfl ?_
    refine r_lmul (pc := 16) C d_Root_digest_16 ?_
    refine r_aload_n (pc := 17) C 0 d_Root_digest_17 rfl rfl ?_
    refine r_iload_n (pc := 18) C 2 d_Root_digest_18 rfl rfl ?_
    refine r_callVi (pc := 19) (As := [.int v3]) (rest := [.long (31 * v1)]) C ok_Root_count Lm_Root_416 k_id0 (by decide) ⟨by decide, by decide⟩ rfl rfl (Nat.le_of_ble_eq_true rfl) d_Root_digest_19 hf (fun x D1 hc => c_Root_count Γ hc) (fun x7 D8 hf => ?_)
    refine r_i2l (pc := 22) C d_Root_digest_22 ?_
    refine r_ladd (pc := 23) C d_Root_digest_23 ?_
    refine r_lstore_n (pc := 24) (lv' := [(1, .long ((31 * v1) + (x7.toInt64))), (0, .ref (Γ.2.1 0)), (3, .int v3)]) C d_Root_digest_24 rfl (Nat.le_of_ble_eq_true rfl) rfl ?_
    refine r_iinc (pc := 25) C (v := v3 + 1) (lv' := [(3, .int (v3 + 1)), (1, .long ((31 * v1) + (x7.toInt64))), (0, .ref (Γ.2.1 0))]) 2 d_Root_digest_25 rfl rfl (Nat.le_of_ble_eq_true rfl) rfl ?_
    refine r_goto (pc := 28) C (tgt := 6) d_Root_digest_28 (by decide) ?_
    exact r_lv (pc := 6) C [2, 1, 0] rfl (hk6 ((31 * v1) + (x7.toInt64)) (v3 + 1) D8 hf)
theorem tl_Root_digest_6 {Γ : GmT} {G : Dt → Nat → List (Nat × Value) → List Value → Prop} {rr : Int64} {DD : Dt} (C : Cx Γ "RiverTuesdays" b_Root_digest 4 4 (some .long) (some (.long rr)) DD G) : ∀ (n : Nat) (v1 : Int64) (v3 : Int32) (D : Dt), lp_Root_digest_6 n v1 v3 D = some (rr, DD) → G D 6 [(0, .ref (Γ.2.1 0)), (1, .long v1), (3, .int v3)] [] := by
  intro n
  induction n with
  | zero =>
    intro v1 v3 D hf
    exact absurd (show (none : Option (Int64 × Dt)) = some (rr, DD) from hf) (by simp)
  | succ n ih =>
    intro v1 v3 D hf
    exact ts_Root_digest_6 C (k6 := lp_Root_digest_6 n) ih hf
def f_Root_digest (D : Dt) : Option (Int64 × Dt) :=
  lp_Root_digest_6 FU 17 0 D
set_option maxHeartbeats 4000000 in
theorem te_Root_digest {Γ : GmT} {G : Dt → Nat → List (Nat × Value) → List Value → Prop} {rr : Int64} {DD : Dt} (C : Cx Γ "RiverTuesdays" b_Root_digest 4 4 (some .long) (some (.long rr)) DD G) {D : Dt} (hf : f_Root_digest D = some (rr, DD)) : G D 0 [(0, .ref (Γ.2.1 0))] [] := by
  unfold f_Root_digest at hf
  refine r_ldc2 (pc := 0) C Lc_Root_412 d_Root_digest_0 ?_
  refine r_lstore_n (pc := 3) (lv' := [(1, .long 17), (0, .ref (Γ.2.1 0))]) C d_Root_digest_3 rfl (Nat.le_of_ble_eq_true rfl) rfl ?_
  refine r_iconst (pc := 4) C (v := 0) d_Root_digest_4 (by decide) ?_
  refine r_istore_n (pc := 5) (lv' := [(3, .int 0), (1, .long 17), (0, .ref (Γ.2.1 0))]) C d_Root_digest_5 rfl (Nat.le_of_ble_eq_true rfl) rfl ?_
  exact r_lv (pc := 6) C [2, 1, 0] rfl (tl_Root_digest_6 C FU 17 0 D hf)
theorem c_Root_digest (Γ : GmT) {D : Dt} {rr : Int64} {DD : Dt} (hf : f_Root_digest D = some (rr, DD)) : Mt Γ y_Root_digest b_Root_digest 4 (some .long) 4 [.ref (Γ.2.1 0)] D (some (.long rr)) DD := Mt_of (by decide) (Nat.le_of_ble_eq_true rfl) (fun G C => te_Root_digest C hf)
