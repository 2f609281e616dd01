/-! 15.model2: printed by wip/whole/gen/gmeth.py out of the bytecode -/
abbrev b_Model_stands : ByteArray := prog_11_method_71_code
abbrev y_Model_stands : MethodName := ⟨"RiverTuesdaysModel", "stands", "(I)I"⟩
theorem ok_Model_stands : okV y_Model_stands b_Model_stands 3 (some .int) 1 9 := ⟨mGW (List.mem_of_getElem? (i := 1483) (by decide +kernel)) rfl, mGW (List.mem_of_getElem? (i := 1484) (by decide +kernel)) rfl, mGW (List.mem_of_getElem? (i := 83) (by decide +kernel)) rfl, mGW (List.mem_of_getElem? (i := 1485) (by decide +kernel)) rfl, ⟨by decide, by decide, by decide +kernel⟩, rfl⟩
theorem d_Model_stands_0 : decode b_Model_stands 0 = .ok (.aload_n 0, 1) := by decide +kernel
theorem d_Model_stands_1 : decode b_Model_stands 1 = .ok (.iconst 1, 1) := by decide +kernel
theorem d_Model_stands_2 : decode b_Model_stands 2 = .ok (.iload_n 1, 1) := by decide +kernel
theorem d_Model_stands_3 : decode b_Model_stands 3 = .ok (.invokevirtual 281, 3) := by decide +kernel
theorem d_Model_stands_6 : decode b_Model_stands 6 = .ok (.istore_n 2, 1) := by decide +kernel
theorem d_Model_stands_7 : decode b_Model_stands 7 = .ok (.iload_n 2, 1) := by decide +kernel
theorem d_Model_stands_8 : decode b_Model_stands 8 = .ok (.ifCond .ge 7, 3) := by decide +kernel
theorem d_Model_stands_11 : decode b_Model_stands 11 = .ok (.iload_n 2, 1) := by decide +kernel
theorem d_Model_stands_12 : decode b_Model_stands 12 = .ok (.goto 15, 3) := by decide +kernel
theorem d_Model_stands_15 : decode b_Model_stands 15 = .ok (.aload_n 0, 1) := by decide +kernel
theorem d_Model_stands_16 : decode b_Model_stands 16 = .ok (.aload_n 0, 1) := by decide +kernel
theorem d_Model_stands_17 : decode b_Model_stands 17 = .ok (.getfield 265, 3) := by decide +kernel
theorem d_Model_stands_20 : decode b_Model_stands 20 = .ok (.aload_n 0, 1) := by decide +kernel
theorem d_Model_stands_21 : decode b_Model_stands 21 = .ok (.getfield 268, 3) := by decide +kernel
theorem d_Model_stands_24 : decode b_Model_stands 24 = .ok (.invokevirtual 137, 3) := by decide +kernel
theorem d_Model_stands_27 : decode b_Model_stands 27 = .ok (.ireturn, 1) := by decide +kernel
abbrev b_Model_tuesday : ByteArray := prog_11_method_72_code
abbrev y_Model_tuesday : MethodName := ⟨"RiverTuesdaysModel", "tuesday", "(I)I"⟩
theorem ok_Model_tuesday : okV y_Model_tuesday b_Model_tuesday 3 (some .int) 1 9 := ⟨mGW (List.mem_of_getElem? (i := 1487) (by decide +kernel)) rfl, mGW (List.mem_of_getElem? (i := 1488) (by decide +kernel)) rfl, mGW (List.mem_of_getElem? (i := 83) (by decide +kernel)) rfl, mGW (List.mem_of_getElem? (i := 1489) (by decide +kernel)) rfl, ⟨by decide, by decide, by decide +kernel⟩, rfl⟩
theorem d_Model_tuesday_0 : decode b_Model_tuesday 0 = .ok (.iload_n 1, 1) := by decide +kernel
theorem d_Model_tuesday_1 : decode b_Model_tuesday 1 = .ok (.invokestatic 275, 3) := by decide +kernel
theorem d_Model_tuesday_4 : decode b_Model_tuesday 4 = .ok (.ifCond .ne 5, 3) := by decide +kernel
theorem d_Model_tuesday_7 : decode b_Model_tuesday 7 = .ok (.iconst (-1), 1) := by decide +kernel
theorem d_Model_tuesday_8 : decode b_Model_tuesday 8 = .ok (.ireturn, 1) := by decide +kernel
theorem d_Model_tuesday_9 : decode b_Model_tuesday 9 = .ok (.aload_n 0, 1) := by decide +kernel
theorem d_Model_tuesday_10 : decode b_Model_tuesday 10 = .ok (.getfield 176, 3) := by decide +kernel
theorem d_Model_tuesday_13 : decode b_Model_tuesday 13 = .ok (.ifCond .ne 6, 3) := by decide +kernel
theorem d_Model_tuesday_16 : decode b_Model_tuesday 16 = .ok (.bipush (-4), 2) := by decide +kernel
theorem d_Model_tuesday_18 : decode b_Model_tuesday 18 = .ok (.ireturn, 1) := by decide +kernel
theorem d_Model_tuesday_19 : decode b_Model_tuesday 19 = .ok (.aload_n 0, 1) := by decide +kernel
theorem d_Model_tuesday_20 : decode b_Model_tuesday 20 = .ok (.getfield 189, 3) := by decide +kernel
theorem d_Model_tuesday_23 : decode b_Model_tuesday 23 = .ok (.bipush 8, 2) := by decide +kernel
theorem d_Model_tuesday_25 : decode b_Model_tuesday 25 = .ok (.iadd, 1) := by decide +kernel
theorem d_Model_tuesday_26 : decode b_Model_tuesday 26 = .ok (.bipush 60, 2) := by decide +kernel
theorem d_Model_tuesday_28 : decode b_Model_tuesday 28 = .ok (.if_icmp .le 6, 3) := by decide +kernel
theorem d_Model_tuesday_31 : decode b_Model_tuesday 31 = .ok (.bipush (-2), 2) := by decide +kernel
theorem d_Model_tuesday_33 : decode b_Model_tuesday 33 = .ok (.ireturn, 1) := by decide +kernel
theorem d_Model_tuesday_34 : decode b_Model_tuesday 34 = .ok (.aload_n 0, 1) := by decide +kernel
theorem d_Model_tuesday_35 : decode b_Model_tuesday 35 = .ok (.invokevirtual 252, 3) := by decide +kernel
theorem d_Model_tuesday_38 : decode b_Model_tuesday 38 = .ok (.iconst 0, 1) := by decide +kernel
theorem d_Model_tuesday_39 : decode b_Model_tuesday 39 = .ok (.istore_n 2, 1) := by decide +kernel
theorem d_Model_tuesday_40 : decode b_Model_tuesday 40 = .ok (.iload_n 2, 1) := by decide +kernel
theorem d_Model_tuesday_41 : decode b_Model_tuesday 41 = .ok (.bipush 8, 2) := by decide +kernel
theorem d_Model_tuesday_43 : decode b_Model_tuesday 43 = .ok (.if_icmp .ge 24, 3) := by decide +kernel
theorem d_Model_tuesday_46 : decode b_Model_tuesday 46 = .ok (.aload_n 0, 1) := by decide +kernel
theorem d_Model_tuesday_47 : decode b_Model_tuesday 47 = .ok (.iload_n 1, 1) := by decide +kernel
theorem d_Model_tuesday_48 : decode b_Model_tuesday 48 = .ok (.iload_n 2, 1) := by decide +kernel
theorem d_Model_tuesday_49 : decode b_Model_tuesday 49 = .ok (.invokestatic 248, 3) := by decide +kernel
theorem d_Model_tuesday_52 : decode b_Model_tuesday 52 = .ok (.invokevirtual 232, 3) := by decide +kernel
theorem d_Model_tuesday_55 : decode b_Model_tuesday 55 = .ok (.aload_n 0, 1) := by decide +kernel
theorem d_Model_tuesday_56 : decode b_Model_tuesday 56 = .ok (.iconst 0, 1) := by decide +kernel
theorem d_Model_tuesday_57 : decode b_Model_tuesday 57 = .ok (.iload_n 2, 1) := by decide +kernel
theorem d_Model_tuesday_58 : decode b_Model_tuesday 58 = .ok (.invokevirtual 258, 3) := by decide +kernel
theorem d_Model_tuesday_61 : decode b_Model_tuesday 61 = .ok (.iinc 2 1, 3) := by decide +kernel
theorem d_Model_tuesday_64 : decode b_Model_tuesday 64 = .ok (.goto (-24), 3) := by decide +kernel
theorem d_Model_tuesday_67 : decode b_Model_tuesday 67 = .ok (.aload_n 0, 1) := by decide +kernel
theorem d_Model_tuesday_68 : decode b_Model_tuesday 68 = .ok (.getfield 242, 3) := by decide +kernel
theorem d_Model_tuesday_71 : decode b_Model_tuesday 71 = .ok (.ireturn, 1) := by decide +kernel
abbrev b_Model_most : ByteArray := prog_11_method_73_code
abbrev y_Model_most : MethodName := ⟨"RiverTuesdaysModel", "most", "(I)I"⟩
theorem ok_Model_most : okV y_Model_most b_Model_most 6 (some .int) 1 9 := ⟨mGW (List.mem_of_getElem? (i := 1491) (by decide +kernel)) rfl, mGW (List.mem_of_getElem? (i := 1492) (by decide +kernel)) rfl, mGW (List.mem_of_getElem? (i := 83) (by decide +kernel)) rfl, mGW (List.mem_of_getElem? (i := 1493) (by decide +kernel)) rfl, ⟨by decide, by decide, by decide +kernel⟩, rfl⟩
theorem d_Model_most_0 : decode b_Model_most 0 = .ok (.iload_n 1, 1) := by decide +kernel
theorem d_Model_most_1 : decode b_Model_most 1 = .ok (.iconst 0, 1) := by decide +kernel
theorem d_Model_most_2 : decode b_Model_most 2 = .ok (.bipush 8, 2) := by decide +kernel
theorem d_Model_most_4 : decode b_Model_most 4 = .ok (.invokestatic 118, 3) := by decide +kernel
theorem d_Model_most_7 : decode b_Model_most 7 = .ok (.ifCond .ne 5, 3) := by decide +kernel
theorem d_Model_most_10 : decode b_Model_most 10 = .ok (.iconst (-1), 1) := by decide +kernel
theorem d_Model_most_11 : decode b_Model_most 11 = .ok (.ireturn, 1) := by decide +kernel
theorem d_Model_most_12 : decode b_Model_most 12 = .ok (.aload_n 0, 1) := by decide +kernel
theorem d_Model_most_13 : decode b_Model_most 13 = .ok (.getfield 176, 3) := by decide +kernel
theorem d_Model_most_16 : decode b_Model_most 16 = .ok (.ifCond .ne 6, 3) := by decide +kernel
theorem d_Model_most_19 : decode b_Model_most 19 = .ok (.bipush (-4), 2) := by decide +kernel
theorem d_Model_most_21 : decode b_Model_most 21 = .ok (.ireturn, 1) := by decide +kernel
theorem d_Model_most_22 : decode b_Model_most 22 = .ok (.bipush (-9), 2) := by decide +kernel
theorem d_Model_most_24 : decode b_Model_most 24 = .ok (.istore_n 2, 1) := by decide +kernel
theorem d_Model_most_25 : decode b_Model_most 25 = .ok (.iconst 0, 1) := by decide +kernel
theorem d_Model_most_26 : decode b_Model_most 26 = .ok (.istore_n 3, 1) := by decide +kernel
theorem d_Model_most_27 : decode b_Model_most 27 = .ok (.iconst 0, 1) := by decide +kernel
theorem d_Model_most_28 : decode b_Model_most 28 = .ok (.istore 4, 2) := by decide +kernel
theorem d_Model_most_30 : decode b_Model_most 30 = .ok (.iconst 0, 1) := by decide +kernel
theorem d_Model_most_31 : decode b_Model_most 31 = .ok (.istore 5, 2) := by decide +kernel
theorem d_Model_most_33 : decode b_Model_most 33 = .ok (.iload 5, 2) := by decide +kernel
theorem d_Model_most_35 : decode b_Model_most 35 = .ok (.sipush 256, 3) := by decide +kernel
theorem d_Model_most_38 : decode b_Model_most 38 = .ok (.if_icmp .ge 69, 3) := by decide +kernel
theorem d_Model_most_41 : decode b_Model_most 41 = .ok (.iload 5, 2) := by decide +kernel
theorem d_Model_most_43 : decode b_Model_most 43 = .ok (.invokestatic 285, 3) := by decide +kernel
theorem d_Model_most_46 : decode b_Model_most 46 = .ok (.iload_n 1, 1) := by decide +kernel
theorem d_Model_most_47 : decode b_Model_most 47 = .ok (.if_icmp .ne 54, 3) := by decide +kernel
theorem d_Model_most_50 : decode b_Model_most 50 = .ok (.aload_n 0, 1) := by decide +kernel
theorem d_Model_most_51 : decode b_Model_most 51 = .ok (.iload 5, 2) := by decide +kernel
theorem d_Model_most_53 : decode b_Model_most 53 = .ok (.invokevirtual 278, 3) := by decide +kernel
theorem d_Model_most_56 : decode b_Model_most 56 = .ok (.iload_n 2, 1) := by decide +kernel
theorem d_Model_most_57 : decode b_Model_most 57 = .ok (.bipush (-9), 2) := by decide +kernel
theorem d_Model_most_59 : decode b_Model_most 59 = .ok (.if_icmp .eq 28, 3) := by decide +kernel
theorem d_Model_most_62 : decode b_Model_most 62 = .ok (.aload_n 0, 1) := by decide +kernel
theorem d_Model_most_63 : decode b_Model_most 63 = .ok (.getfield 262, 3) := by decide +kernel
theorem d_Model_most_66 : decode b_Model_most 66 = .ok (.iload_n 3, 1) := by decide +kernel
theorem d_Model_most_67 : decode b_Model_most 67 = .ok (.if_icmp .gt 20, 3) := by decide +kernel
theorem d_Model_most_70 : decode b_Model_most 70 = .ok (.aload_n 0, 1) := by decide +kernel
theorem d_Model_most_71 : decode b_Model_most 71 = .ok (.getfield 262, 3) := by decide +kernel
theorem d_Model_most_74 : decode b_Model_most 74 = .ok (.iload_n 3, 1) := by decide +kernel
theorem d_Model_most_75 : decode b_Model_most 75 = .ok (.if_icmp .ne 26, 3) := by decide +kernel
theorem d_Model_most_78 : decode b_Model_most 78 = .ok (.aload_n 0, 1) := by decide +kernel
theorem d_Model_most_79 : decode b_Model_most 79 = .ok (.getfield 242, 3) := by decide +kernel
theorem d_Model_most_82 : decode b_Model_most 82 = .ok (.iload 4, 2) := by decide +kernel
theorem d_Model_most_84 : decode b_Model_most 84 = .ok (.if_icmp .ge 17, 3) := by decide +kernel
theorem d_Model_most_87 : decode b_Model_most 87 = .ok (.iload 5, 2) := by decide +kernel
theorem d_Model_most_89 : decode b_Model_most 89 = .ok (.istore_n 2, 1) := by decide +kernel
theorem d_Model_most_90 : decode b_Model_most 90 = .ok (.aload_n 0, 1) := by decide +kernel
theorem d_Model_most_91 : decode b_Model_most 91 = .ok (.getfield 262, 3) := by decide +kernel
theorem d_Model_most_94 : decode b_Model_most 94 = .ok (.istore_n 3, 1) := by decide +kernel
theorem d_Model_most_95 : decode b_Model_most 95 = .ok (.aload_n 0, 1) := by decide +kernel
theorem d_Model_most_96 : decode b_Model_most 96 = .ok (.getfield 242, 3) := by decide +kernel
theorem d_Model_most_99 : decode b_Model_most 99 = .ok (.istore 4, 2) := by decide +kernel
theorem d_Model_most_101 : decode b_Model_most 101 = .ok (.iinc 5 1, 3) := by decide +kernel
theorem d_Model_most_104 : decode b_Model_most 104 = .ok (.goto (-71), 3) := by decide +kernel
theorem d_Model_most_107 : decode b_Model_most 107 = .ok (.aload_n 0, 1) := by decide +kernel
theorem d_Model_most_108 : decode b_Model_most 108 = .ok (.iload_n 3, 1) := by decide +kernel
theorem d_Model_most_109 : decode b_Model_most 109 = .ok (.iload_n 2, 1) := by decide +kernel
theorem d_Model_most_110 : decode b_Model_most 110 = .ok (.invokevirtual 137, 3) := by decide +kernel
theorem d_Model_most_113 : decode b_Model_most 113 = .ok (.ireturn, 1) := by decide +kernel
abbrev b_Model_least : ByteArray := prog_11_method_74_code
abbrev y_Model_least : MethodName := ⟨"RiverTuesdaysModel", "least", "(I)I"⟩
theorem ok_Model_least : okV y_Model_least b_Model_least 6 (some .int) 1 9 := ⟨mGW (List.mem_of_getElem? (i := 1495) (by decide +kernel)) rfl, mGW (List.mem_of_getElem? (i := 1496) (by decide +kernel)) rfl, mGW (List.mem_of_getElem? (i := 83) (by decide +kernel)) rfl, mGW (List.mem_of_getElem? (i := 1497) (by decide +kernel)) rfl, ⟨by decide, by decide, by decide +kernel⟩, rfl⟩
theorem d_Model_least_0 : decode b_Model_least 0 = .ok (.iload_n 1, 1) := by decide +kernel
theorem d_Model_least_1 : decode b_Model_least 1 = .ok (.iconst 0, 1) := by decide +kernel
theorem d_Model_least_2 : decode b_Model_least 2 = .ok (.bipush 99, 2) := by decide +kernel
theorem d_Model_least_4 : decode b_Model_least 4 = .ok (.invokestatic 118, 3) := by decide +kernel
theorem d_Model_least_7 : decode b_Model_least 7 = .ok (.ifCond .ne 5, 3) := by decide +kernel
theorem d_Model_least_10 : decode b_Model_least 10 = .ok (.iconst (-1), 1) := by decide +kernel
theorem d_Model_least_11 : decode b_Model_least 11 = .ok (.ireturn, 1) := by decide +kernel
theorem d_Model_least_12 : decode b_Model_least 12 = .ok (.aload_n 0, 1) := by decide +kernel
theorem d_Model_least_13 : decode b_Model_least 13 = .ok (.getfield 176, 3) := by decide +kernel
theorem d_Model_least_16 : decode b_Model_least 16 = .ok (.ifCond .ne 6, 3) := by decide +kernel
theorem d_Model_least_19 : decode b_Model_least 19 = .ok (.bipush (-4), 2) := by decide +kernel
theorem d_Model_least_21 : decode b_Model_least 21 = .ok (.ireturn, 1) := by decide +kernel
theorem d_Model_least_22 : decode b_Model_least 22 = .ok (.bipush (-9), 2) := by decide +kernel
theorem d_Model_least_24 : decode b_Model_least 24 = .ok (.istore_n 2, 1) := by decide +kernel
theorem d_Model_least_25 : decode b_Model_least 25 = .ok (.iconst 0, 1) := by decide +kernel
theorem d_Model_least_26 : decode b_Model_least 26 = .ok (.istore_n 3, 1) := by decide +kernel
theorem d_Model_least_27 : decode b_Model_least 27 = .ok (.iconst 0, 1) := by decide +kernel
theorem d_Model_least_28 : decode b_Model_least 28 = .ok (.istore 4, 2) := by decide +kernel
theorem d_Model_least_30 : decode b_Model_least 30 = .ok (.iload 4, 2) := by decide +kernel
theorem d_Model_least_32 : decode b_Model_least 32 = .ok (.sipush 256, 3) := by decide +kernel
theorem d_Model_least_35 : decode b_Model_least 35 = .ok (.if_icmp .ge 77, 3) := by decide +kernel
theorem d_Model_least_38 : decode b_Model_least 38 = .ok (.aload_n 0, 1) := by decide +kernel
theorem d_Model_least_39 : decode b_Model_least 39 = .ok (.iload 4, 2) := by decide +kernel
theorem d_Model_least_41 : decode b_Model_least 41 = .ok (.invokevirtual 278, 3) := by decide +kernel
theorem d_Model_least_44 : decode b_Model_least 44 = .ok (.iload_n 2, 1) := by decide +kernel
theorem d_Model_least_45 : decode b_Model_least 45 = .ok (.bipush (-9), 2) := by decide +kernel
theorem d_Model_least_47 : decode b_Model_least 47 = .ok (.if_icmp .eq 31, 3) := by decide +kernel
theorem d_Model_least_50 : decode b_Model_least 50 = .ok (.aload_n 0, 1) := by decide +kernel
theorem d_Model_least_51 : decode b_Model_least 51 = .ok (.getfield 242, 3) := by decide +kernel
theorem d_Model_least_54 : decode b_Model_least 54 = .ok (.iload_n 3, 1) := by decide +kernel
theorem d_Model_least_55 : decode b_Model_least 55 = .ok (.if_icmp .lt 23, 3) := by decide +kernel
theorem d_Model_least_58 : decode b_Model_least 58 = .ok (.aload_n 0, 1) := by decide +kernel
theorem d_Model_least_59 : decode b_Model_least 59 = .ok (.getfield 242, 3) := by decide +kernel
theorem d_Model_least_62 : decode b_Model_least 62 = .ok (.iload_n 3, 1) := by decide +kernel
theorem d_Model_least_63 : decode b_Model_least 63 = .ok (.if_icmp .ne 19, 3) := by decide +kernel
theorem d_Model_least_66 : decode b_Model_least 66 = .ok (.iload 4, 2) := by decide +kernel
theorem d_Model_least_68 : decode b_Model_least 68 = .ok (.invokestatic 285, 3) := by decide +kernel
theorem d_Model_least_71 : decode b_Model_least 71 = .ok (.iload_n 2, 1) := by decide +kernel
theorem d_Model_least_72 : decode b_Model_least 72 = .ok (.invokestatic 285, 3) := by decide +kernel
theorem d_Model_least_75 : decode b_Model_least 75 = .ok (.if_icmp .ge 7, 3) := by decide +kernel
theorem d_Model_least_78 : decode b_Model_least 78 = .ok (.iconst 1, 1) := by decide +kernel
theorem d_Model_least_79 : decode b_Model_least 79 = .ok (.goto 4, 3) := by decide +kernel
theorem d_Model_least_82 : decode b_Model_least 82 = .ok (.iconst 0, 1) := by decide +kernel
theorem d_Model_least_83 : decode b_Model_least 83 = .ok (.istore 5, 2) := by decide +kernel
theorem d_Model_least_85 : decode b_Model_least 85 = .ok (.aload_n 0, 1) := by decide +kernel
theorem d_Model_least_86 : decode b_Model_least 86 = .ok (.getfield 262, 3) := by decide +kernel
theorem d_Model_least_89 : decode b_Model_least 89 = .ok (.iload_n 1, 1) := by decide +kernel
theorem d_Model_least_90 : decode b_Model_least 90 = .ok (.if_icmp .lt 16, 3) := by decide +kernel
theorem d_Model_least_93 : decode b_Model_least 93 = .ok (.iload 5, 2) := by decide +kernel
theorem d_Model_least_95 : decode b_Model_least 95 = .ok (.ifCond .eq 11, 3) := by decide +kernel
theorem d_Model_least_98 : decode b_Model_least 98 = .ok (.iload 4, 2) := by decide +kernel
theorem d_Model_least_100 : decode b_Model_least 100 = .ok (.istore_n 2, 1) := by decide +kernel
theorem d_Model_least_101 : decode b_Model_least 101 = .ok (.aload_n 0, 1) := by decide +kernel
theorem d_Model_least_102 : decode b_Model_least 102 = .ok (.getfield 242, 3) := by decide +kernel
theorem d_Model_least_105 : decode b_Model_least 105 = .ok (.istore_n 3, 1) := by decide +kernel
theorem d_Model_least_106 : decode b_Model_least 106 = .ok (.iinc 4 1, 3) := by decide +kernel
theorem d_Model_least_109 : decode b_Model_least 109 = .ok (.goto (-79), 3) := by decide +kernel
theorem d_Model_least_112 : decode b_Model_least 112 = .ok (.iload_n 2, 1) := by decide +kernel
theorem d_Model_least_113 : decode b_Model_least 113 = .ok (.bipush (-9), 2) := by decide +kernel
theorem d_Model_least_115 : decode b_Model_least 115 = .ok (.if_icmp .ne 8, 3) := by decide +kernel
theorem d_Model_least_118 : decode b_Model_least 118 = .ok (.bipush (-9), 2) := by decide +kernel
theorem d_Model_least_120 : decode b_Model_least 120 = .ok (.goto 9, 3) := by decide +kernel
theorem d_Model_least_123 : decode b_Model_least 123 = .ok (.aload_n 0, 1) := by decide +kernel
theorem d_Model_least_124 : decode b_Model_least 124 = .ok (.iload_n 3, 1) := by decide +kernel
theorem d_Model_least_125 : decode b_Model_least 125 = .ok (.iload_n 2, 1) := by decide +kernel
theorem d_Model_least_126 : decode b_Model_least 126 = .ok (.invokevirtual 137, 3) := by decide +kernel
theorem d_Model_least_129 : decode b_Model_least 129 = .ok (.ireturn, 1) := by decide +kernel
abbrev b_Model_dry : ByteArray := prog_11_method_75_code
abbrev y_Model_dry : MethodName := ⟨"RiverTuesdaysModel", "dry", "()I"⟩
theorem ok_Model_dry : okV y_Model_dry b_Model_dry 3 (some .int) 0 9 := ⟨mGW (List.mem_of_getElem? (i := 1499) (by decide +kernel)) rfl, mGW (List.mem_of_getElem? (i := 1500) (by decide +kernel)) rfl, mGW (List.mem_of_getElem? (i := 83) (by decide +kernel)) rfl, mGW (List.mem_of_getElem? (i := 1501) (by decide +kernel)) rfl, ⟨by decide, by decide, by decide +kernel⟩, rfl⟩
theorem d_Model_dry_0 : decode b_Model_dry 0 = .ok (.aload_n 0, 1) := by decide +kernel
theorem d_Model_dry_1 : decode b_Model_dry 1 = .ok (.getfield 176, 3) := by decide +kernel
theorem d_Model_dry_4 : decode b_Model_dry 4 = .ok (.ifCond .ne 6, 3) := by decide +kernel
theorem d_Model_dry_7 : decode b_Model_dry 7 = .ok (.bipush (-4), 2) := by decide +kernel
theorem d_Model_dry_9 : decode b_Model_dry 9 = .ok (.ireturn, 1) := by decide +kernel
theorem d_Model_dry_10 : decode b_Model_dry 10 = .ok (.bipush (-9), 2) := by decide +kernel
theorem d_Model_dry_12 : decode b_Model_dry 12 = .ok (.istore_n 1, 1) := by decide +kernel
theorem d_Model_dry_13 : decode b_Model_dry 13 = .ok (.iconst 0, 1) := by decide +kernel
theorem d_Model_dry_14 : decode b_Model_dry 14 = .ok (.istore_n 2, 1) := by decide +kernel
theorem d_Model_dry_15 : decode b_Model_dry 15 = .ok (.iload_n 2, 1) := by decide +kernel
theorem d_Model_dry_16 : decode b_Model_dry 16 = .ok (.sipush 256, 3) := by decide +kernel
theorem d_Model_dry_19 : decode b_Model_dry 19 = .ok (.if_icmp .ge 44, 3) := by decide +kernel
theorem d_Model_dry_22 : decode b_Model_dry 22 = .ok (.iload_n 1, 1) := by decide +kernel
theorem d_Model_dry_23 : decode b_Model_dry 23 = .ok (.bipush (-9), 2) := by decide +kernel
theorem d_Model_dry_25 : decode b_Model_dry 25 = .ok (.if_icmp .eq 14, 3) := by decide +kernel
theorem d_Model_dry_28 : decode b_Model_dry 28 = .ok (.iload_n 2, 1) := by decide +kernel
theorem d_Model_dry_29 : decode b_Model_dry 29 = .ok (.invokestatic 285, 3) := by decide +kernel
theorem d_Model_dry_32 : decode b_Model_dry 32 = .ok (.iload_n 1, 1) := by decide +kernel
theorem d_Model_dry_33 : decode b_Model_dry 33 = .ok (.invokestatic 285, 3) := by decide +kernel
theorem d_Model_dry_36 : decode b_Model_dry 36 = .ok (.if_icmp .le 21, 3) := by decide +kernel
theorem d_Model_dry_39 : decode b_Model_dry 39 = .ok (.aload_n 0, 1) := by decide +kernel
theorem d_Model_dry_40 : decode b_Model_dry 40 = .ok (.iload_n 2, 1) := by decide +kernel
theorem d_Model_dry_41 : decode b_Model_dry 41 = .ok (.invokevirtual 278, 3) := by decide +kernel
theorem d_Model_dry_44 : decode b_Model_dry 44 = .ok (.aload_n 0, 1) := by decide +kernel
theorem d_Model_dry_45 : decode b_Model_dry 45 = .ok (.getfield 242, 3) := by decide +kernel
theorem d_Model_dry_48 : decode b_Model_dry 48 = .ok (.ifCond .ne 7, 3) := by decide +kernel
theorem d_Model_dry_51 : decode b_Model_dry 51 = .ok (.iload_n 2, 1) := by decide +kernel
theorem d_Model_dry_52 : decode b_Model_dry 52 = .ok (.goto 4, 3) := by decide +kernel
theorem d_Model_dry_55 : decode b_Model_dry 55 = .ok (.iload_n 1, 1) := by decide +kernel
theorem d_Model_dry_56 : decode b_Model_dry 56 = .ok (.istore_n 1, 1) := by decide +kernel
theorem d_Model_dry_57 : decode b_Model_dry 57 = .ok (.iinc 2 1, 3) := by decide +kernel
theorem d_Model_dry_60 : decode b_Model_dry 60 = .ok (.goto (-45), 3) := by decide +kernel
theorem d_Model_dry_63 : decode b_Model_dry 63 = .ok (.iload_n 1, 1) := by decide +kernel
theorem d_Model_dry_64 : decode b_Model_dry 64 = .ok (.bipush (-9), 2) := by decide +kernel
theorem d_Model_dry_66 : decode b_Model_dry 66 = .ok (.if_icmp .ne 8, 3) := by decide +kernel
theorem d_Model_dry_69 : decode b_Model_dry 69 = .ok (.bipush (-9), 2) := by decide +kernel
theorem d_Model_dry_71 : decode b_Model_dry 71 = .ok (.goto 12, 3) := by decide +kernel
theorem d_Model_dry_74 : decode b_Model_dry 74 = .ok (.aload_n 0, 1) := by decide +kernel
theorem d_Model_dry_75 : decode b_Model_dry 75 = .ok (.iload_n 1, 1) := by decide +kernel
theorem d_Model_dry_76 : decode b_Model_dry 76 = .ok (.iload_n 1, 1) := by decide +kernel
theorem d_Model_dry_77 : decode b_Model_dry 77 = .ok (.invokestatic 285, 3) := by decide +kernel
theorem d_Model_dry_80 : decode b_Model_dry 80 = .ok (.invokevirtual 137, 3) := by decide +kernel
theorem d_Model_dry_83 : decode b_Model_dry 83 = .ok (.ireturn, 1) := by decide +kernel
abbrev b_Model_fitsMarks : ByteArray := prog_11_method_76_code
abbrev y_Model_fitsMarks : MethodName := ⟨"RiverTuesdaysModel", "fitsMarks", "(I)Z"⟩
theorem ok_Model_fitsMarks : okV y_Model_fitsMarks b_Model_fitsMarks 4 (some .boolean) 1 9 := ⟨mGW (List.mem_of_getElem? (i := 1512) (by decide +kernel)) rfl, mGW (List.mem_of_getElem? (i := 62) (by decide +kernel)) rfl, mGW (List.mem_of_getElem? (i := 83) (by decide +kernel)) rfl, mGW (List.mem_of_getElem? (i := 1513) (by decide +kernel)) rfl, ⟨by decide, by decide, by decide +kernel⟩, rfl⟩
theorem d_Model_fitsMarks_0 : decode b_Model_fitsMarks 0 = .ok (.iconst 1, 1) := by decide +kernel
theorem d_Model_fitsMarks_1 : decode b_Model_fitsMarks 1 = .ok (.istore_n 2, 1) := by decide +kernel
theorem d_Model_fitsMarks_2 : decode b_Model_fitsMarks 2 = .ok (.iconst 0, 1) := by decide +kernel
theorem d_Model_fitsMarks_3 : decode b_Model_fitsMarks 3 = .ok (.istore_n 3, 1) := by decide +kernel
theorem d_Model_fitsMarks_4 : decode b_Model_fitsMarks 4 = .ok (.iload_n 3, 1) := by decide +kernel
theorem d_Model_fitsMarks_5 : decode b_Model_fitsMarks 5 = .ok (.aload_n 0, 1) := by decide +kernel
theorem d_Model_fitsMarks_6 : decode b_Model_fitsMarks 6 = .ok (.getfield 176, 3) := by decide +kernel
theorem d_Model_fitsMarks_9 : decode b_Model_fitsMarks 9 = .ok (.if_icmp .ge 45, 3) := by decide +kernel
theorem d_Model_fitsMarks_12 : decode b_Model_fitsMarks 12 = .ok (.iload_n 2, 1) := by decide +kernel
theorem d_Model_fitsMarks_13 : decode b_Model_fitsMarks 13 = .ok (.ifCond .eq 33, 3) := by decide +kernel
theorem d_Model_fitsMarks_16 : decode b_Model_fitsMarks 16 = .ok (.aload_n 0, 1) := by decide +kernel
theorem d_Model_fitsMarks_17 : decode b_Model_fitsMarks 17 = .ok (.iload_n 1, 1) := by decide +kernel
theorem d_Model_fitsMarks_18 : decode b_Model_fitsMarks 18 = .ok (.iload_n 3, 1) := by decide +kernel
theorem d_Model_fitsMarks_19 : decode b_Model_fitsMarks 19 = .ok (.invokevirtual 133, 3) := by decide +kernel
theorem d_Model_fitsMarks_22 : decode b_Model_fitsMarks 22 = .ok (.bipush (-9), 2) := by decide +kernel
theorem d_Model_fitsMarks_24 : decode b_Model_fitsMarks 24 = .ok (.if_icmp .eq 18, 3) := by decide +kernel
theorem d_Model_fitsMarks_27 : decode b_Model_fitsMarks 27 = .ok (.aload_n 0, 1) := by decide +kernel
theorem d_Model_fitsMarks_28 : decode b_Model_fitsMarks 28 = .ok (.iload_n 1, 1) := by decide +kernel
theorem d_Model_fitsMarks_29 : decode b_Model_fitsMarks 29 = .ok (.iload_n 3, 1) := by decide +kernel
theorem d_Model_fitsMarks_30 : decode b_Model_fitsMarks 30 = .ok (.invokevirtual 133, 3) := by decide +kernel
theorem d_Model_fitsMarks_33 : decode b_Model_fitsMarks 33 = .ok (.aload_n 0, 1) := by decide +kernel
theorem d_Model_fitsMarks_34 : decode b_Model_fitsMarks 34 = .ok (.getfield 87, 3) := by decide +kernel
theorem d_Model_fitsMarks_37 : decode b_Model_fitsMarks 37 = .ok (.iload_n 3, 1) := by decide +kernel
theorem d_Model_fitsMarks_38 : decode b_Model_fitsMarks 38 = .ok (.iaload, 1) := by decide +kernel
theorem d_Model_fitsMarks_39 : decode b_Model_fitsMarks 39 = .ok (.if_icmp .ne 7, 3) := by decide +kernel
theorem d_Model_fitsMarks_42 : decode b_Model_fitsMarks 42 = .ok (.iconst 1, 1) := by decide +kernel
theorem d_Model_fitsMarks_43 : decode b_Model_fitsMarks 43 = .ok (.goto 4, 3) := by decide +kernel
theorem d_Model_fitsMarks_46 : decode b_Model_fitsMarks 46 = .ok (.iconst 0, 1) := by decide +kernel
theorem d_Model_fitsMarks_47 : decode b_Model_fitsMarks 47 = .ok (.istore_n 2, 1) := by decide +kernel
theorem d_Model_fitsMarks_48 : decode b_Model_fitsMarks 48 = .ok (.iinc 3 1, 3) := by decide +kernel
theorem d_Model_fitsMarks_51 : decode b_Model_fitsMarks 51 = .ok (.goto (-47), 3) := by decide +kernel
theorem d_Model_fitsMarks_54 : decode b_Model_fitsMarks 54 = .ok (.iload_n 2, 1) := by decide +kernel
theorem d_Model_fitsMarks_55 : decode b_Model_fitsMarks 55 = .ok (.ireturn, 1) := by decide +kernel
abbrev b_Model_needMarks : ByteArray := prog_11_method_77_code
abbrev y_Model_needMarks : MethodName := ⟨"RiverTuesdaysModel", "needMarks", "(I)I"⟩
theorem ok_Model_needMarks : okV y_Model_needMarks b_Model_needMarks 4 (some .int) 1 9 := ⟨mGW (List.mem_of_getElem? (i := 1508) (by decide +kernel)) rfl, mGW (List.mem_of_getElem? (i := 61) (by decide +kernel)) rfl, mGW (List.mem_of_getElem? (i := 83) (by decide +kernel)) rfl, mGW (List.mem_of_getElem? (i := 1509) (by decide +kernel)) rfl, ⟨by decide, by decide, by decide +kernel⟩, rfl⟩
theorem d_Model_needMarks_0 : decode b_Model_needMarks 0 = .ok (.iload_n 1, 1) := by decide +kernel
theorem d_Model_needMarks_1 : decode b_Model_needMarks 1 = .ok (.invokestatic 125, 3) := by decide +kernel
theorem d_Model_needMarks_4 : decode b_Model_needMarks 4 = .ok (.ifCond .ne 5, 3) := by decide +kernel
theorem d_Model_needMarks_7 : decode b_Model_needMarks 7 = .ok (.iconst (-1), 1) := by decide +kernel
theorem d_Model_needMarks_8 : decode b_Model_needMarks 8 = .ok (.ireturn, 1) := by decide +kernel
theorem d_Model_needMarks_9 : decode b_Model_needMarks 9 = .ok (.aload_n 0, 1) := by decide +kernel
theorem d_Model_needMarks_10 : decode b_Model_needMarks 10 = .ok (.getfield 176, 3) := by decide +kernel
theorem d_Model_needMarks_13 : decode b_Model_needMarks 13 = .ok (.ifCond .ne 6, 3) := by decide +kernel
theorem d_Model_needMarks_16 : decode b_Model_needMarks 16 = .ok (.bipush (-4), 2) := by decide +kernel
theorem d_Model_needMarks_18 : decode b_Model_needMarks 18 = .ok (.ireturn, 1) := by decide +kernel
theorem d_Model_needMarks_19 : decode b_Model_needMarks 19 = .ok (.aload_n 0, 1) := by decide +kernel
theorem d_Model_needMarks_20 : decode b_Model_needMarks 20 = .ok (.getfield 13, 3) := by decide +kernel
theorem d_Model_needMarks_23 : decode b_Model_needMarks 23 = .ok (.iload_n 1, 1) := by decide +kernel
theorem d_Model_needMarks_24 : decode b_Model_needMarks 24 = .ok (.iaload, 1) := by decide +kernel
theorem d_Model_needMarks_25 : decode b_Model_needMarks 25 = .ok (.ifCond .ge 9, 3) := by decide +kernel
theorem d_Model_needMarks_28 : decode b_Model_needMarks 28 = .ok (.aload_n 0, 1) := by decide +kernel
theorem d_Model_needMarks_29 : decode b_Model_needMarks 29 = .ok (.iconst 1, 1) := by decide +kernel
theorem d_Model_needMarks_30 : decode b_Model_needMarks 30 = .ok (.invokevirtual 129, 3) := by decide +kernel
theorem d_Model_needMarks_33 : decode b_Model_needMarks 33 = .ok (.ireturn, 1) := by decide +kernel
theorem d_Model_needMarks_34 : decode b_Model_needMarks 34 = .ok (.aload_n 0, 1) := by decide +kernel
theorem d_Model_needMarks_35 : decode b_Model_needMarks 35 = .ok (.getfield 13, 3) := by decide +kernel
theorem d_Model_needMarks_38 : decode b_Model_needMarks 38 = .ok (.iload_n 1, 1) := by decide +kernel
theorem d_Model_needMarks_39 : decode b_Model_needMarks 39 = .ok (.iaload, 1) := by decide +kernel
theorem d_Model_needMarks_40 : decode b_Model_needMarks 40 = .ok (.aload_n 0, 1) := by decide +kernel
theorem d_Model_needMarks_41 : decode b_Model_needMarks 41 = .ok (.getfield 176, 3) := by decide +kernel
theorem d_Model_needMarks_44 : decode b_Model_needMarks 44 = .ok (.if_icmp .eq 9, 3) := by decide +kernel
theorem d_Model_needMarks_47 : decode b_Model_needMarks 47 = .ok (.aload_n 0, 1) := by decide +kernel
theorem d_Model_needMarks_48 : decode b_Model_needMarks 48 = .ok (.iconst 5, 1) := by decide +kernel
theorem d_Model_needMarks_49 : decode b_Model_needMarks 49 = .ok (.invokevirtual 129, 3) := by decide +kernel
theorem d_Model_needMarks_52 : decode b_Model_needMarks 52 = .ok (.ireturn, 1) := by decide +kernel
theorem d_Model_needMarks_53 : decode b_Model_needMarks 53 = .ok (.iconst 1, 1) := by decide +kernel
theorem d_Model_needMarks_54 : decode b_Model_needMarks 54 = .ok (.istore_n 2, 1) := by decide +kernel
theorem d_Model_needMarks_55 : decode b_Model_needMarks 55 = .ok (.iconst 0, 1) := by decide +kernel
theorem d_Model_needMarks_56 : decode b_Model_needMarks 56 = .ok (.istore_n 3, 1) := by decide +kernel
theorem d_Model_needMarks_57 : decode b_Model_needMarks 57 = .ok (.iload_n 3, 1) := by decide +kernel
theorem d_Model_needMarks_58 : decode b_Model_needMarks 58 = .ok (.aload_n 0, 1) := by decide +kernel
theorem d_Model_needMarks_59 : decode b_Model_needMarks 59 = .ok (.getfield 176, 3) := by decide +kernel
theorem d_Model_needMarks_62 : decode b_Model_needMarks 62 = .ok (.if_icmp .ge 46, 3) := by decide +kernel
theorem d_Model_needMarks_65 : decode b_Model_needMarks 65 = .ok (.iload_n 2, 1) := by decide +kernel
theorem d_Model_needMarks_66 : decode b_Model_needMarks 66 = .ok (.ifCond .eq 34, 3) := by decide +kernel
theorem d_Model_needMarks_69 : decode b_Model_needMarks 69 = .ok (.aload_n 0, 1) := by decide +kernel
theorem d_Model_needMarks_70 : decode b_Model_needMarks 70 = .ok (.iload_n 1, 1) := by decide +kernel
theorem d_Model_needMarks_71 : decode b_Model_needMarks 71 = .ok (.iload_n 3, 1) := by decide +kernel
theorem d_Model_needMarks_72 : decode b_Model_needMarks 72 = .ok (.invokevirtual 133, 3) := by decide +kernel
theorem d_Model_needMarks_75 : decode b_Model_needMarks 75 = .ok (.bipush (-9), 2) := by decide +kernel
theorem d_Model_needMarks_77 : decode b_Model_needMarks 77 = .ok (.if_icmp .eq 19, 3) := by decide +kernel
theorem d_Model_needMarks_80 : decode b_Model_needMarks 80 = .ok (.aload_n 0, 1) := by decide +kernel
theorem d_Model_needMarks_81 : decode b_Model_needMarks 81 = .ok (.iload_n 1, 1) := by decide +kernel
theorem d_Model_needMarks_82 : decode b_Model_needMarks 82 = .ok (.iload_n 3, 1) := by decide +kernel
theorem d_Model_needMarks_83 : decode b_Model_needMarks 83 = .ok (.invokevirtual 133, 3) := by decide +kernel
theorem d_Model_needMarks_86 : decode b_Model_needMarks 86 = .ok (.iconst 0, 1) := by decide +kernel
theorem d_Model_needMarks_87 : decode b_Model_needMarks 87 = .ok (.sipush 999, 3) := by decide +kernel
theorem d_Model_needMarks_90 : decode b_Model_needMarks 90 = .ok (.invokestatic 118, 3) := by decide +kernel
theorem d_Model_needMarks_93 : decode b_Model_needMarks 93 = .ok (.ifCond .eq 7, 3) := by decide +kernel
theorem d_Model_needMarks_96 : decode b_Model_needMarks 96 = .ok (.iconst 1, 1) := by decide +kernel
theorem d_Model_needMarks_97 : decode b_Model_needMarks 97 = .ok (.goto 4, 3) := by decide +kernel
theorem d_Model_needMarks_100 : decode b_Model_needMarks 100 = .ok (.iconst 0, 1) := by decide +kernel
theorem d_Model_needMarks_101 : decode b_Model_needMarks 101 = .ok (.istore_n 2, 1) := by decide +kernel
theorem d_Model_needMarks_102 : decode b_Model_needMarks 102 = .ok (.iinc 3 1, 3) := by decide +kernel
theorem d_Model_needMarks_105 : decode b_Model_needMarks 105 = .ok (.goto (-48), 3) := by decide +kernel
theorem d_Model_needMarks_108 : decode b_Model_needMarks 108 = .ok (.iload_n 2, 1) := by decide +kernel
theorem d_Model_needMarks_109 : decode b_Model_needMarks 109 = .ok (.ifCond .ne 9, 3) := by decide +kernel
theorem d_Model_needMarks_112 : decode b_Model_needMarks 112 = .ok (.aload_n 0, 1) := by decide +kernel
theorem d_Model_needMarks_113 : decode b_Model_needMarks 113 = .ok (.iconst 3, 1) := by decide +kernel
theorem d_Model_needMarks_114 : decode b_Model_needMarks 114 = .ok (.invokevirtual 129, 3) := by decide +kernel
theorem d_Model_needMarks_117 : decode b_Model_needMarks 117 = .ok (.ireturn, 1) := by decide +kernel
theorem d_Model_needMarks_118 : decode b_Model_needMarks 118 = .ok (.aload_n 0, 1) := by decide +kernel
theorem d_Model_needMarks_119 : decode b_Model_needMarks 119 = .ok (.iconst 0, 1) := by decide +kernel
theorem d_Model_needMarks_120 : decode b_Model_needMarks 120 = .ok (.putfield 291, 3) := by decide +kernel
theorem d_Model_needMarks_123 : decode b_Model_needMarks 123 = .ok (.aload_n 0, 1) := by decide +kernel
theorem d_Model_needMarks_124 : decode b_Model_needMarks 124 = .ok (.bipush (-9), 2) := by decide +kernel
theorem d_Model_needMarks_126 : decode b_Model_needMarks 126 = .ok (.putfield 294, 3) := by decide +kernel
theorem d_Model_needMarks_129 : decode b_Model_needMarks 129 = .ok (.aload_n 0, 1) := by decide +kernel
theorem d_Model_needMarks_130 : decode b_Model_needMarks 130 = .ok (.sipush 255, 3) := by decide +kernel
theorem d_Model_needMarks_133 : decode b_Model_needMarks 133 = .ok (.putfield 297, 3) := by decide +kernel
theorem d_Model_needMarks_136 : decode b_Model_needMarks 136 = .ok (.aload_n 0, 1) := by decide +kernel
theorem d_Model_needMarks_137 : decode b_Model_needMarks 137 = .ok (.sipush 255, 3) := by decide +kernel
theorem d_Model_needMarks_140 : decode b_Model_needMarks 140 = .ok (.putfield 300, 3) := by decide +kernel
theorem d_Model_needMarks_143 : decode b_Model_needMarks 143 = .ok (.iconst 0, 1) := by decide +kernel
theorem d_Model_needMarks_144 : decode b_Model_needMarks 144 = .ok (.istore_n 3, 1) := by decide +kernel
theorem d_Model_needMarks_145 : decode b_Model_needMarks 145 = .ok (.iload_n 3, 1) := by decide +kernel
theorem d_Model_needMarks_146 : decode b_Model_needMarks 146 = .ok (.sipush 256, 3) := by decide +kernel
theorem d_Model_needMarks_149 : decode b_Model_needMarks 149 = .ok (.if_icmp .ge 85, 3) := by decide +kernel
theorem d_Model_needMarks_152 : decode b_Model_needMarks 152 = .ok (.aload_n 0, 1) := by decide +kernel
theorem d_Model_needMarks_153 : decode b_Model_needMarks 153 = .ok (.iload_n 3, 1) := by decide +kernel
theorem d_Model_needMarks_154 : decode b_Model_needMarks 154 = .ok (.invokevirtual 278, 3) := by decide +kernel
theorem d_Model_needMarks_157 : decode b_Model_needMarks 157 = .ok (.aload_n 0, 1) := by decide +kernel
theorem d_Model_needMarks_158 : decode b_Model_needMarks 158 = .ok (.getfield 90, 3) := by decide +kernel
theorem d_Model_needMarks_161 : decode b_Model_needMarks 161 = .ok (.iload_n 3, 1) := by decide +kernel
theorem d_Model_needMarks_162 : decode b_Model_needMarks 162 = .ok (.aload_n 0, 1) := by decide +kernel
theorem d_Model_needMarks_163 : decode b_Model_needMarks 163 = .ok (.iload_n 1, 1) := by decide +kernel
theorem d_Model_needMarks_164 : decode b_Model_needMarks 164 = .ok (.invokevirtual 303, 3) := by decide +kernel
theorem d_Model_needMarks_167 : decode b_Model_needMarks 167 = .ok (.bastore, 1) := by decide +kernel
theorem d_Model_needMarks_168 : decode b_Model_needMarks 168 = .ok (.aload_n 0, 1) := by decide +kernel
theorem d_Model_needMarks_169 : decode b_Model_needMarks 169 = .ok (.getfield 90, 3) := by decide +kernel
theorem d_Model_needMarks_172 : decode b_Model_needMarks 172 = .ok (.iload_n 3, 1) := by decide +kernel
theorem d_Model_needMarks_173 : decode b_Model_needMarks 173 = .ok (.baload, 1) := by decide +kernel
theorem d_Model_needMarks_174 : decode b_Model_needMarks 174 = .ok (.ifCond .eq 54, 3) := by decide +kernel
theorem d_Model_needMarks_177 : decode b_Model_needMarks 177 = .ok (.aload_n 0, 1) := by decide +kernel
theorem d_Model_needMarks_178 : decode b_Model_needMarks 178 = .ok (.aload_n 0, 1) := by decide +kernel
theorem d_Model_needMarks_179 : decode b_Model_needMarks 179 = .ok (.getfield 291, 3) := by decide +kernel
theorem d_Model_needMarks_182 : decode b_Model_needMarks 182 = .ok (.ifCond .ne 7, 3) := by decide +kernel
theorem d_Model_needMarks_185 : decode b_Model_needMarks 185 = .ok (.iload_n 3, 1) := by decide +kernel
theorem d_Model_needMarks_186 : decode b_Model_needMarks 186 = .ok (.goto 7, 3) := by decide +kernel
theorem d_Model_needMarks_189 : decode b_Model_needMarks 189 = .ok (.aload_n 0, 1) := by decide +kernel
theorem d_Model_needMarks_190 : decode b_Model_needMarks 190 = .ok (.getfield 294, 3) := by decide +kernel
theorem d_Model_needMarks_193 : decode b_Model_needMarks 193 = .ok (.putfield 294, 3) := by decide +kernel
theorem d_Model_needMarks_196 : decode b_Model_needMarks 196 = .ok (.aload_n 0, 1) := by decide +kernel
theorem d_Model_needMarks_197 : decode b_Model_needMarks 197 = .ok (.dup, 1) := by decide +kernel
theorem d_Model_needMarks_198 : decode b_Model_needMarks 198 = .ok (.getfield 291, 3) := by decide +kernel
theorem d_Model_needMarks_201 : decode b_Model_needMarks 201 = .ok (.iconst 1, 1) := by decide +kernel
theorem d_Model_needMarks_202 : decode b_Model_needMarks 202 = .ok (.iadd, 1) := by decide +kernel
theorem d_Model_needMarks_203 : decode b_Model_needMarks 203 = .ok (.putfield 291, 3) := by decide +kernel
theorem d_Model_needMarks_206 : decode b_Model_needMarks 206 = .ok (.aload_n 0, 1) := by decide +kernel
theorem d_Model_needMarks_207 : decode b_Model_needMarks 207 = .ok (.dup, 1) := by decide +kernel
theorem d_Model_needMarks_208 : decode b_Model_needMarks 208 = .ok (.getfield 297, 3) := by decide +kernel
theorem d_Model_needMarks_211 : decode b_Model_needMarks 211 = .ok (.iload_n 3, 1) := by decide +kernel
theorem d_Model_needMarks_212 : decode b_Model_needMarks 212 = .ok (.iand, 1) := by decide +kernel
theorem d_Model_needMarks_213 : decode b_Model_needMarks 213 = .ok (.putfield 297, 3) := by decide +kernel
theorem d_Model_needMarks_216 : decode b_Model_needMarks 216 = .ok (.aload_n 0, 1) := by decide +kernel
theorem d_Model_needMarks_217 : decode b_Model_needMarks 217 = .ok (.dup, 1) := by decide +kernel
theorem d_Model_needMarks_218 : decode b_Model_needMarks 218 = .ok (.getfield 300, 3) := by decide +kernel
theorem d_Model_needMarks_221 : decode b_Model_needMarks 221 = .ok (.iload_n 3, 1) := by decide +kernel
theorem d_Model_needMarks_222 : decode b_Model_needMarks 222 = .ok (.iconst (-1), 1) := by decide +kernel
theorem d_Model_needMarks_223 : decode b_Model_needMarks 223 = .ok (.ixor, 1) := by decide +kernel
theorem d_Model_needMarks_224 : decode b_Model_needMarks 224 = .ok (.iand, 1) := by decide +kernel
theorem d_Model_needMarks_225 : decode b_Model_needMarks 225 = .ok (.putfield 300, 3) := by decide +kernel
theorem d_Model_needMarks_228 : decode b_Model_needMarks 228 = .ok (.iinc 3 1, 3) := by decide +kernel
theorem d_Model_needMarks_231 : decode b_Model_needMarks 231 = .ok (.goto (-86), 3) := by decide +kernel
theorem d_Model_needMarks_234 : decode b_Model_needMarks 234 = .ok (.iconst 0, 1) := by decide +kernel
theorem d_Model_needMarks_235 : decode b_Model_needMarks 235 = .ok (.ireturn, 1) := by decide +kernel
abbrev b_Model_led : ByteArray := prog_11_method_78_code
abbrev y_Model_led : MethodName := ⟨"RiverTuesdaysModel", "led", "(I)I"⟩
theorem ok_Model_led : okV y_Model_led b_Model_led 3 (some .int) 1 9 := ⟨mGW (List.mem_of_getElem? (i := 1503) (by decide +kernel)) rfl, mGW (List.mem_of_getElem? (i := 1504) (by decide +kernel)) rfl, mGW (List.mem_of_getElem? (i := 83) (by decide +kernel)) rfl, mGW (List.mem_of_getElem? (i := 1505) (by decide +kernel)) rfl, ⟨by decide, by decide, by decide +kernel⟩, rfl⟩
theorem d_Model_led_0 : decode b_Model_led 0 = .ok (.aload_n 0, 1) := by decide +kernel
theorem d_Model_led_1 : decode b_Model_led 1 = .ok (.iload_n 1, 1) := by decide +kernel
theorem d_Model_led_2 : decode b_Model_led 2 = .ok (.invokevirtual 306, 3) := by decide +kernel
theorem d_Model_led_5 : decode b_Model_led 5 = .ok (.istore_n 2, 1) := by decide +kernel
theorem d_Model_led_6 : decode b_Model_led 6 = .ok (.iload_n 2, 1) := by decide +kernel
theorem d_Model_led_7 : decode b_Model_led 7 = .ok (.ifCond .ge 7, 3) := by decide +kernel
theorem d_Model_led_10 : decode b_Model_led 10 = .ok (.iload_n 2, 1) := by decide +kernel
theorem d_Model_led_11 : decode b_Model_led 11 = .ok (.goto 15, 3) := by decide +kernel
theorem d_Model_led_14 : decode b_Model_led 14 = .ok (.aload_n 0, 1) := by decide +kernel
theorem d_Model_led_15 : decode b_Model_led 15 = .ok (.aload_n 0, 1) := by decide +kernel
theorem d_Model_led_16 : decode b_Model_led 16 = .ok (.getfield 294, 3) := by decide +kernel
theorem d_Model_led_19 : decode b_Model_led 19 = .ok (.aload_n 0, 1) := by decide +kernel
theorem d_Model_led_20 : decode b_Model_led 20 = .ok (.getfield 291, 3) := by decide +kernel
theorem d_Model_led_23 : decode b_Model_led 23 = .ok (.invokevirtual 137, 3) := by decide +kernel
theorem d_Model_led_26 : decode b_Model_led 26 = .ok (.ireturn, 1) := by decide +kernel
abbrev b_Model_sure : ByteArray := prog_11_method_79_code
abbrev y_Model_sure : MethodName := ⟨"RiverTuesdaysModel", "sure", "(I)I"⟩
theorem ok_Model_sure : okV y_Model_sure b_Model_sure 3 (some .int) 1 9 := ⟨mGW (List.mem_of_getElem? (i := 1515) (by decide +kernel)) rfl, mGW (List.mem_of_getElem? (i := 1516) (by decide +kernel)) rfl, mGW (List.mem_of_getElem? (i := 83) (by decide +kernel)) rfl, mGW (List.mem_of_getElem? (i := 1517) (by decide +kernel)) rfl, ⟨by decide, by decide, by decide +kernel⟩, rfl⟩
theorem d_Model_sure_0 : decode b_Model_sure 0 = .ok (.aload_n 0, 1) := by decide +kernel
theorem d_Model_sure_1 : decode b_Model_sure 1 = .ok (.iload_n 1, 1) := by decide +kernel
theorem d_Model_sure_2 : decode b_Model_sure 2 = .ok (.invokevirtual 306, 3) := by decide +kernel
theorem d_Model_sure_5 : decode b_Model_sure 5 = .ok (.istore_n 2, 1) := by decide +kernel
theorem d_Model_sure_6 : decode b_Model_sure 6 = .ok (.iload_n 2, 1) := by decide +kernel
theorem d_Model_sure_7 : decode b_Model_sure 7 = .ok (.ifCond .ge 5, 3) := by decide +kernel
theorem d_Model_sure_10 : decode b_Model_sure 10 = .ok (.iload_n 2, 1) := by decide +kernel
theorem d_Model_sure_11 : decode b_Model_sure 11 = .ok (.ireturn, 1) := by decide +kernel
theorem d_Model_sure_12 : decode b_Model_sure 12 = .ok (.aload_n 0, 1) := by decide +kernel
theorem d_Model_sure_13 : decode b_Model_sure 13 = .ok (.getfield 291, 3) := by decide +kernel
theorem d_Model_sure_16 : decode b_Model_sure 16 = .ok (.ifCond .ne 11, 3) := by decide +kernel
theorem d_Model_sure_19 : decode b_Model_sure 19 = .ok (.aload_n 0, 1) := by decide +kernel
theorem d_Model_sure_20 : decode b_Model_sure 20 = .ok (.iconst 4, 1) := by decide +kernel
theorem d_Model_sure_21 : decode b_Model_sure 21 = .ok (.invokevirtual 129, 3) := by decide +kernel
theorem d_Model_sure_24 : decode b_Model_sure 24 = .ok (.goto 15, 3) := by decide +kernel
theorem d_Model_sure_27 : decode b_Model_sure 27 = .ok (.aload_n 0, 1) := by decide +kernel
theorem d_Model_sure_28 : decode b_Model_sure 28 = .ok (.aload_n 0, 1) := by decide +kernel
theorem d_Model_sure_29 : decode b_Model_sure 29 = .ok (.getfield 300, 3) := by decide +kernel
theorem d_Model_sure_32 : decode b_Model_sure 32 = .ok (.aload_n 0, 1) := by decide +kernel
theorem d_Model_sure_33 : decode b_Model_sure 33 = .ok (.getfield 297, 3) := by decide +kernel
theorem d_Model_sure_36 : decode b_Model_sure 36 = .ok (.invokevirtual 137, 3) := by decide +kernel
theorem d_Model_sure_39 : decode b_Model_sure 39 = .ok (.ireturn, 1) := by decide +kernel
abbrev b_Model_leftBy : ByteArray := prog_11_method_80_code
abbrev y_Model_leftBy : MethodName := ⟨"RiverTuesdaysModel", "leftBy", "(I)I"⟩
theorem ok_Model_leftBy : okV y_Model_leftBy b_Model_leftBy 4 (some .int) 1 9 := ⟨mGW (List.mem_of_getElem? (i := 1524) (by decide +kernel)) rfl, mGW (List.mem_of_getElem? (i := 63) (by decide +kernel)) rfl, mGW (List.mem_of_getElem? (i := 83) (by decide +kernel)) rfl, mGW (List.mem_of_getElem? (i := 1525) (by decide +kernel)) rfl, ⟨by decide, by decide, by decide +kernel⟩, rfl⟩
theorem d_Model_leftBy_0 : decode b_Model_leftBy 0 = .ok (.iconst 0, 1) := by decide +kernel
theorem d_Model_leftBy_1 : decode b_Model_leftBy 1 = .ok (.istore_n 2, 1) := by decide +kernel
theorem d_Model_leftBy_2 : decode b_Model_leftBy 2 = .ok (.iload_n 2, 1) := by decide +kernel
theorem d_Model_leftBy_3 : decode b_Model_leftBy 3 = .ok (.sipush 1000, 3) := by decide +kernel
theorem d_Model_leftBy_6 : decode b_Model_leftBy 6 = .ok (.if_icmp .ge 16, 3) := by decide +kernel
theorem d_Model_leftBy_9 : decode b_Model_leftBy 9 = .ok (.aload_n 0, 1) := by decide +kernel
theorem d_Model_leftBy_10 : decode b_Model_leftBy 10 = .ok (.getfield 93, 3) := by decide +kernel
theorem d_Model_leftBy_13 : decode b_Model_leftBy 13 = .ok (.iload_n 2, 1) := by decide +kernel
theorem d_Model_leftBy_14 : decode b_Model_leftBy 14 = .ok (.iconst 0, 1) := by decide +kernel
theorem d_Model_leftBy_15 : decode b_Model_leftBy 15 = .ok (.iastore, 1) := by decide +kernel
theorem d_Model_leftBy_16 : decode b_Model_leftBy 16 = .ok (.iinc 2 1, 3) := by decide +kernel
theorem d_Model_leftBy_19 : decode b_Model_leftBy 19 = .ok (.goto (-17), 3) := by decide +kernel
theorem d_Model_leftBy_22 : decode b_Model_leftBy 22 = .ok (.iconst 0, 1) := by decide +kernel
theorem d_Model_leftBy_23 : decode b_Model_leftBy 23 = .ok (.istore_n 2, 1) := by decide +kernel
theorem d_Model_leftBy_24 : decode b_Model_leftBy 24 = .ok (.iconst 0, 1) := by decide +kernel
theorem d_Model_leftBy_25 : decode b_Model_leftBy 25 = .ok (.istore_n 3, 1) := by decide +kernel
theorem d_Model_leftBy_26 : decode b_Model_leftBy 26 = .ok (.iload_n 3, 1) := by decide +kernel
theorem d_Model_leftBy_27 : decode b_Model_leftBy 27 = .ok (.sipush 256, 3) := by decide +kernel
theorem d_Model_leftBy_30 : decode b_Model_leftBy 30 = .ok (.if_icmp .ge 54, 3) := by decide +kernel
theorem d_Model_leftBy_33 : decode b_Model_leftBy 33 = .ok (.aload_n 0, 1) := by decide +kernel
theorem d_Model_leftBy_34 : decode b_Model_leftBy 34 = .ok (.getfield 90, 3) := by decide +kernel
theorem d_Model_leftBy_37 : decode b_Model_leftBy 37 = .ok (.iload_n 3, 1) := by decide +kernel
theorem d_Model_leftBy_38 : decode b_Model_leftBy 38 = .ok (.baload, 1) := by decide +kernel
theorem d_Model_leftBy_39 : decode b_Model_leftBy 39 = .ok (.ifCond .eq 39, 3) := by decide +kernel
theorem d_Model_leftBy_42 : decode b_Model_leftBy 42 = .ok (.aload_n 0, 1) := by decide +kernel
theorem d_Model_leftBy_43 : decode b_Model_leftBy 43 = .ok (.iload_n 3, 1) := by decide +kernel
theorem d_Model_leftBy_44 : decode b_Model_leftBy 44 = .ok (.invokevirtual 278, 3) := by decide +kernel
theorem d_Model_leftBy_47 : decode b_Model_leftBy 47 = .ok (.aload_n 0, 1) := by decide +kernel
theorem d_Model_leftBy_48 : decode b_Model_leftBy 48 = .ok (.getfield 93, 3) := by decide +kernel
theorem d_Model_leftBy_51 : decode b_Model_leftBy 51 = .ok (.aload_n 0, 1) := by decide +kernel
theorem d_Model_leftBy_52 : decode b_Model_leftBy 52 = .ok (.getfield 87, 3) := by decide +kernel
theorem d_Model_leftBy_55 : decode b_Model_leftBy 55 = .ok (.iload_n 1, 1) := by decide +kernel
theorem d_Model_leftBy_56 : decode b_Model_leftBy 56 = .ok (.iaload, 1) := by decide +kernel
theorem d_Model_leftBy_57 : decode b_Model_leftBy 57 = .ok (.dup2, 1) := by decide +kernel
theorem d_Model_leftBy_58 : decode b_Model_leftBy 58 = .ok (.iaload, 1) := by decide +kernel
theorem d_Model_leftBy_59 : decode b_Model_leftBy 59 = .ok (.iconst 1, 1) := by decide +kernel
theorem d_Model_leftBy_60 : decode b_Model_leftBy 60 = .ok (.iadd, 1) := by decide +kernel
theorem d_Model_leftBy_61 : decode b_Model_leftBy 61 = .ok (.iastore, 1) := by decide +kernel
theorem d_Model_leftBy_62 : decode b_Model_leftBy 62 = .ok (.iload_n 2, 1) := by decide +kernel
theorem d_Model_leftBy_63 : decode b_Model_leftBy 63 = .ok (.aload_n 0, 1) := by decide +kernel
theorem d_Model_leftBy_64 : decode b_Model_leftBy 64 = .ok (.getfield 93, 3) := by decide +kernel
theorem d_Model_leftBy_67 : decode b_Model_leftBy 67 = .ok (.aload_n 0, 1) := by decide +kernel
theorem d_Model_leftBy_68 : decode b_Model_leftBy 68 = .ok (.getfield 87, 3) := by decide +kernel
theorem d_Model_leftBy_71 : decode b_Model_leftBy 71 = .ok (.iload_n 1, 1) := by decide +kernel
theorem d_Model_leftBy_72 : decode b_Model_leftBy 72 = .ok (.iaload, 1) := by decide +kernel
theorem d_Model_leftBy_73 : decode b_Model_leftBy 73 = .ok (.iaload, 1) := by decide +kernel
theorem d_Model_leftBy_74 : decode b_Model_leftBy 74 = .ok (.invokestatic 213, 3) := by decide +kernel
theorem d_Model_leftBy_77 : decode b_Model_leftBy 77 = .ok (.istore_n 2, 1) := by decide +kernel
theorem d_Model_leftBy_78 : decode b_Model_leftBy 78 = .ok (.iinc 3 1, 3) := by decide +kernel
theorem d_Model_leftBy_81 : decode b_Model_leftBy 81 = .ok (.goto (-55), 3) := by decide +kernel
theorem d_Model_leftBy_84 : decode b_Model_leftBy 84 = .ok (.iload_n 2, 1) := by decide +kernel
theorem d_Model_leftBy_85 : decode b_Model_leftBy 85 = .ok (.ireturn, 1) := by decide +kernel
abbrev b_Model_look : ByteArray := prog_11_method_81_code
abbrev y_Model_look : MethodName := ⟨"RiverTuesdaysModel", "look", "(I)I"⟩
theorem ok_Model_look : okV y_Model_look b_Model_look 7 (some .int) 1 9 := ⟨mGW (List.mem_of_getElem? (i := 1519) (by decide +kernel)) rfl, mGW (List.mem_of_getElem? (i := 1520) (by decide +kernel)) rfl, mGW (List.mem_of_getElem? (i := 83) (by decide +kernel)) rfl, mGW (List.mem_of_getElem? (i := 1521) (by decide +kernel)) rfl, ⟨by decide, by decide, by decide +kernel⟩, rfl⟩
theorem d_Model_look_0 : decode b_Model_look 0 = .ok (.aload_n 0, 1) := by decide +kernel
theorem d_Model_look_1 : decode b_Model_look 1 = .ok (.iload_n 1, 1) := by decide +kernel
theorem d_Model_look_2 : decode b_Model_look 2 = .ok (.invokevirtual 306, 3) := by decide +kernel
theorem d_Model_look_5 : decode b_Model_look 5 = .ok (.istore_n 2, 1) := by decide +kernel
theorem d_Model_look_6 : decode b_Model_look 6 = .ok (.iload_n 2, 1) := by decide +kernel
theorem d_Model_look_7 : decode b_Model_look 7 = .ok (.ifCond .ge 5, 3) := by decide +kernel
theorem d_Model_look_10 : decode b_Model_look 10 = .ok (.iload_n 2, 1) := by decide +kernel
theorem d_Model_look_11 : decode b_Model_look 11 = .ok (.ireturn, 1) := by decide +kernel
theorem d_Model_look_12 : decode b_Model_look 12 = .ok (.aload_n 0, 1) := by decide +kernel
theorem d_Model_look_13 : decode b_Model_look 13 = .ok (.getfield 291, 3) := by decide +kernel
theorem d_Model_look_16 : decode b_Model_look 16 = .ok (.ifCond .ne 9, 3) := by decide +kernel
theorem d_Model_look_19 : decode b_Model_look 19 = .ok (.aload_n 0, 1) := by decide +kernel
theorem d_Model_look_20 : decode b_Model_look 20 = .ok (.iconst 4, 1) := by decide +kernel
theorem d_Model_look_21 : decode b_Model_look 21 = .ok (.invokevirtual 129, 3) := by decide +kernel
theorem d_Model_look_24 : decode b_Model_look 24 = .ok (.ireturn, 1) := by decide +kernel
theorem d_Model_look_25 : decode b_Model_look 25 = .ok (.bipush (-9), 2) := by decide +kernel
theorem d_Model_look_27 : decode b_Model_look 27 = .ok (.istore_n 3, 1) := by decide +kernel
theorem d_Model_look_28 : decode b_Model_look 28 = .ok (.iconst 0, 1) := by decide +kernel
theorem d_Model_look_29 : decode b_Model_look 29 = .ok (.istore 4, 2) := by decide +kernel
theorem d_Model_look_31 : decode b_Model_look 31 = .ok (.iconst 0, 1) := by decide +kernel
theorem d_Model_look_32 : decode b_Model_look 32 = .ok (.istore 5, 2) := by decide +kernel
theorem d_Model_look_34 : decode b_Model_look 34 = .ok (.iload 5, 2) := by decide +kernel
theorem d_Model_look_36 : decode b_Model_look 36 = .ok (.aload_n 0, 1) := by decide +kernel
theorem d_Model_look_37 : decode b_Model_look 37 = .ok (.getfield 176, 3) := by decide +kernel
theorem d_Model_look_40 : decode b_Model_look 40 = .ok (.if_icmp .ge 49, 3) := by decide +kernel
theorem d_Model_look_43 : decode b_Model_look 43 = .ok (.aload_n 0, 1) := by decide +kernel
theorem d_Model_look_44 : decode b_Model_look 44 = .ok (.iload_n 1, 1) := by decide +kernel
theorem d_Model_look_45 : decode b_Model_look 45 = .ok (.iload 5, 2) := by decide +kernel
theorem d_Model_look_47 : decode b_Model_look 47 = .ok (.invokevirtual 133, 3) := by decide +kernel
theorem d_Model_look_50 : decode b_Model_look 50 = .ok (.bipush (-9), 2) := by decide +kernel
theorem d_Model_look_52 : decode b_Model_look 52 = .ok (.if_icmp .ne 31, 3) := by decide +kernel
theorem d_Model_look_55 : decode b_Model_look 55 = .ok (.aload_n 0, 1) := by decide +kernel
theorem d_Model_look_56 : decode b_Model_look 56 = .ok (.iload 5, 2) := by decide +kernel
theorem d_Model_look_58 : decode b_Model_look 58 = .ok (.invokevirtual 309, 3) := by decide +kernel
theorem d_Model_look_61 : decode b_Model_look 61 = .ok (.istore 6, 2) := by decide +kernel
theorem d_Model_look_63 : decode b_Model_look 63 = .ok (.iload_n 3, 1) := by decide +kernel
theorem d_Model_look_64 : decode b_Model_look 64 = .ok (.bipush (-9), 2) := by decide +kernel
theorem d_Model_look_66 : decode b_Model_look 66 = .ok (.if_icmp .eq 10, 3) := by decide +kernel
theorem d_Model_look_69 : decode b_Model_look 69 = .ok (.iload 6, 2) := by decide +kernel
theorem d_Model_look_71 : decode b_Model_look 71 = .ok (.iload 4, 2) := by decide +kernel
theorem d_Model_look_73 : decode b_Model_look 73 = .ok (.if_icmp .ge 10, 3) := by decide +kernel
theorem d_Model_look_76 : decode b_Model_look 76 = .ok (.iload 5, 2) := by decide +kernel
theorem d_Model_look_78 : decode b_Model_look 78 = .ok (.istore_n 3, 1) := by decide +kernel
theorem d_Model_look_79 : decode b_Model_look 79 = .ok (.iload 6, 2) := by decide +kernel
theorem d_Model_look_81 : decode b_Model_look 81 = .ok (.istore 4, 2) := by decide +kernel
theorem d_Model_look_83 : decode b_Model_look 83 = .ok (.iinc 5 1, 3) := by decide +kernel
theorem d_Model_look_86 : decode b_Model_look 86 = .ok (.goto (-52), 3) := by decide +kernel
theorem d_Model_look_89 : decode b_Model_look 89 = .ok (.iload_n 3, 1) := by decide +kernel
theorem d_Model_look_90 : decode b_Model_look 90 = .ok (.bipush (-9), 2) := by decide +kernel
theorem d_Model_look_92 : decode b_Model_look 92 = .ok (.if_icmp .ne 8, 3) := by decide +kernel
theorem d_Model_look_95 : decode b_Model_look 95 = .ok (.bipush (-9), 2) := by decide +kernel
theorem d_Model_look_97 : decode b_Model_look 97 = .ok (.goto 10, 3) := by decide +kernel
theorem d_Model_look_100 : decode b_Model_look 100 = .ok (.aload_n 0, 1) := by decide +kernel
theorem d_Model_look_101 : decode b_Model_look 101 = .ok (.iload 4, 2) := by decide +kernel
theorem d_Model_look_103 : decode b_Model_look 103 = .ok (.iload_n 3, 1) := by decide +kernel
theorem d_Model_look_104 : decode b_Model_look 104 = .ok (.invokevirtual 137, 3) := by decide +kernel
theorem d_Model_look_107 : decode b_Model_look 107 = .ok (.ireturn, 1) := by decide +kernel
abbrev b_Model_raises : ByteArray := prog_11_method_82_code
abbrev y_Model_raises : MethodName := ⟨"RiverTuesdaysModel", "raises", "(III)Z"⟩
theorem ok_Model_raises : okV y_Model_raises b_Model_raises 6 (some .boolean) 3 9 := ⟨mGW (List.mem_of_getElem? (i := 1532) (by decide +kernel)) rfl, mGW (List.mem_of_getElem? (i := 64) (by decide +kernel)) rfl, mGW (List.mem_of_getElem? (i := 83) (by decide +kernel)) rfl, mGW (List.mem_of_getElem? (i := 1533) (by decide +kernel)) rfl, ⟨by decide, by decide, by decide +kernel⟩, rfl⟩
theorem d_Model_raises_0 : decode b_Model_raises 0 = .ok (.iload_n 2, 1) := by decide +kernel
theorem d_Model_raises_1 : decode b_Model_raises 1 = .ok (.aload_n 0, 1) := by decide +kernel
theorem d_Model_raises_2 : decode b_Model_raises 2 = .ok (.getfield 176, 3) := by decide +kernel
theorem d_Model_raises_5 : decode b_Model_raises 5 = .ok (.if_icmp .ne 27, 3) := by decide +kernel
theorem d_Model_raises_8 : decode b_Model_raises 8 = .ok (.iload_n 3, 1) := by decide +kernel
theorem d_Model_raises_9 : decode b_Model_raises 9 = .ok (.ifCond .le 5, 3) := by decide +kernel
theorem d_Model_raises_12 : decode b_Model_raises 12 = .ok (.iconst 0, 1) := by decide +kernel
theorem d_Model_raises_13 : decode b_Model_raises 13 = .ok (.ireturn, 1) := by decide +kernel
theorem d_Model_raises_14 : decode b_Model_raises 14 = .ok (.aload_n 0, 1) := by decide +kernel
theorem d_Model_raises_15 : decode b_Model_raises 15 = .ok (.iload_n 1, 1) := by decide +kernel
theorem d_Model_raises_16 : decode b_Model_raises 16 = .ok (.invokevirtual 278, 3) := by decide +kernel
theorem d_Model_raises_19 : decode b_Model_raises 19 = .ok (.aload_n 0, 1) := by decide +kernel
theorem d_Model_raises_20 : decode b_Model_raises 20 = .ok (.getfield 242, 3) := by decide +kernel
theorem d_Model_raises_23 : decode b_Model_raises 23 = .ok (.ifCond .ne 7, 3) := by decide +kernel
theorem d_Model_raises_26 : decode b_Model_raises 26 = .ok (.iconst 1, 1) := by decide +kernel
theorem d_Model_raises_27 : decode b_Model_raises 27 = .ok (.goto 4, 3) := by decide +kernel
theorem d_Model_raises_30 : decode b_Model_raises 30 = .ok (.iconst 0, 1) := by decide +kernel
theorem d_Model_raises_31 : decode b_Model_raises 31 = .ok (.ireturn, 1) := by decide +kernel
theorem d_Model_raises_32 : decode b_Model_raises 32 = .ok (.iconst 0, 1) := by decide +kernel
theorem d_Model_raises_33 : decode b_Model_raises 33 = .ok (.istore 4, 2) := by decide +kernel
theorem d_Model_raises_35 : decode b_Model_raises 35 = .ok (.iconst 0, 1) := by decide +kernel
theorem d_Model_raises_36 : decode b_Model_raises 36 = .ok (.istore 5, 2) := by decide +kernel
theorem d_Model_raises_38 : decode b_Model_raises 38 = .ok (.iload 5, 2) := by decide +kernel
theorem d_Model_raises_40 : decode b_Model_raises 40 = .ok (.iload_n 3, 1) := by decide +kernel
theorem d_Model_raises_41 : decode b_Model_raises 41 = .ok (.if_icmp .gt 58, 3) := by decide +kernel
theorem d_Model_raises_44 : decode b_Model_raises 44 = .ok (.iload 4, 2) := by decide +kernel
theorem d_Model_raises_46 : decode b_Model_raises 46 = .ok (.ifCond .ne 53, 3) := by decide +kernel
theorem d_Model_raises_49 : decode b_Model_raises 49 = .ok (.aload_n 0, 1) := by decide +kernel
theorem d_Model_raises_50 : decode b_Model_raises 50 = .ok (.getfield 96, 3) := by decide +kernel
theorem d_Model_raises_53 : decode b_Model_raises 53 = .ok (.iload_n 2, 1) := by decide +kernel
theorem d_Model_raises_54 : decode b_Model_raises 54 = .ok (.iload 5, 2) := by decide +kernel
theorem d_Model_raises_56 : decode b_Model_raises 56 = .ok (.iastore, 1) := by decide +kernel
theorem d_Model_raises_57 : decode b_Model_raises 57 = .ok (.aload_n 0, 1) := by decide +kernel
theorem d_Model_raises_58 : decode b_Model_raises 58 = .ok (.getfield 35, 3) := by decide +kernel
theorem d_Model_raises_61 : decode b_Model_raises 61 = .ok (.iload_n 2, 1) := by decide +kernel
theorem d_Model_raises_62 : decode b_Model_raises 62 = .ok (.dup2, 1) := by decide +kernel
theorem d_Model_raises_63 : decode b_Model_raises 63 = .ok (.iaload, 1) := by decide +kernel
theorem d_Model_raises_64 : decode b_Model_raises 64 = .ok (.iload 5, 2) := by decide +kernel
theorem d_Model_raises_66 : decode b_Model_raises 66 = .ok (.iadd, 1) := by decide +kernel
theorem d_Model_raises_67 : decode b_Model_raises 67 = .ok (.iastore, 1) := by decide +kernel
theorem d_Model_raises_68 : decode b_Model_raises 68 = .ok (.aload_n 0, 1) := by decide +kernel
theorem d_Model_raises_69 : decode b_Model_raises 69 = .ok (.iload_n 1, 1) := by decide +kernel
theorem d_Model_raises_70 : decode b_Model_raises 70 = .ok (.iload_n 2, 1) := by decide +kernel
theorem d_Model_raises_71 : decode b_Model_raises 71 = .ok (.iconst 1, 1) := by decide +kernel
theorem d_Model_raises_72 : decode b_Model_raises 72 = .ok (.iadd, 1) := by decide +kernel
theorem d_Model_raises_73 : decode b_Model_raises 73 = .ok (.iload_n 3, 1) := by decide +kernel
theorem d_Model_raises_74 : decode b_Model_raises 74 = .ok (.iload 5, 2) := by decide +kernel
theorem d_Model_raises_76 : decode b_Model_raises 76 = .ok (.isub, 1) := by decide +kernel
theorem d_Model_raises_77 : decode b_Model_raises 77 = .ok (.invokevirtual 312, 3) := by decide +kernel
theorem d_Model_raises_80 : decode b_Model_raises 80 = .ok (.istore 4, 2) := by decide +kernel
theorem d_Model_raises_82 : decode b_Model_raises 82 = .ok (.aload_n 0, 1) := by decide +kernel
theorem d_Model_raises_83 : decode b_Model_raises 83 = .ok (.getfield 35, 3) := by decide +kernel
theorem d_Model_raises_86 : decode b_Model_raises 86 = .ok (.iload_n 2, 1) := by decide +kernel
theorem d_Model_raises_87 : decode b_Model_raises 87 = .ok (.dup2, 1) := by decide +kernel
theorem d_Model_raises_88 : decode b_Model_raises 88 = .ok (.iaload, 1) := by decide +kernel
theorem d_Model_raises_89 : decode b_Model_raises 89 = .ok (.iload 5, 2) := by decide +kernel
theorem d_Model_raises_91 : decode b_Model_raises 91 = .ok (.isub, 1) := by decide +kernel
theorem d_Model_raises_92 : decode b_Model_raises 92 = .ok (.iastore, 1) := by decide +kernel
theorem d_Model_raises_93 : decode b_Model_raises 93 = .ok (.iinc 5 1, 3) := by decide +kernel
theorem d_Model_raises_96 : decode b_Model_raises 96 = .ok (.goto (-58), 3) := by decide +kernel
theorem d_Model_raises_99 : decode b_Model_raises 99 = .ok (.iload 4, 2) := by decide +kernel
theorem d_Model_raises_101 : decode b_Model_raises 101 = .ok (.ireturn, 1) := by decide +kernel
abbrev b_Model_raise : ByteArray := prog_11_method_83_code
abbrev y_Model_raise : MethodName := ⟨"RiverTuesdaysModel", "raise", "(II)I"⟩
theorem ok_Model_raise : okV y_Model_raise b_Model_raise 5 (some .int) 2 9 := ⟨mGW (List.mem_of_getElem? (i := 1527) (by decide +kernel)) rfl, mGW (List.mem_of_getElem? (i := 1528) (by decide +kernel)) rfl, mGW (List.mem_of_getElem? (i := 83) (by decide +kernel)) rfl, mGW (List.mem_of_getElem? (i := 1529) (by decide +kernel)) rfl, ⟨by decide, by decide, by decide +kernel⟩, rfl⟩
theorem d_Model_raise_0 : decode b_Model_raise 0 = .ok (.iload_n 1, 1) := by decide +kernel
theorem d_Model_raise_1 : decode b_Model_raise 1 = .ok (.invokestatic 275, 3) := by decide +kernel
theorem d_Model_raise_4 : decode b_Model_raise 4 = .ok (.ifCond .eq 10, 3) := by decide +kernel
theorem d_Model_raise_7 : decode b_Model_raise 7 = .ok (.iload_n 2, 1) := by decide +kernel
theorem d_Model_raise_8 : decode b_Model_raise 8 = .ok (.invokestatic 125, 3) := by decide +kernel
theorem d_Model_raise_11 : decode b_Model_raise 11 = .ok (.ifCond .ne 5, 3) := by decide +kernel
theorem d_Model_raise_14 : decode b_Model_raise 14 = .ok (.iconst (-1), 1) := by decide +kernel
theorem d_Model_raise_15 : decode b_Model_raise 15 = .ok (.ireturn, 1) := by decide +kernel
theorem d_Model_raise_16 : decode b_Model_raise 16 = .ok (.aload_n 0, 1) := by decide +kernel
theorem d_Model_raise_17 : decode b_Model_raise 17 = .ok (.getfield 176, 3) := by decide +kernel
theorem d_Model_raise_20 : decode b_Model_raise 20 = .ok (.ifCond .ne 6, 3) := by decide +kernel
theorem d_Model_raise_23 : decode b_Model_raise 23 = .ok (.bipush (-4), 2) := by decide +kernel
theorem d_Model_raise_25 : decode b_Model_raise 25 = .ok (.ireturn, 1) := by decide +kernel
theorem d_Model_raise_26 : decode b_Model_raise 26 = .ok (.iconst 0, 1) := by decide +kernel
theorem d_Model_raise_27 : decode b_Model_raise 27 = .ok (.istore_n 3, 1) := by decide +kernel
theorem d_Model_raise_28 : decode b_Model_raise 28 = .ok (.iload_n 3, 1) := by decide +kernel
theorem d_Model_raise_29 : decode b_Model_raise 29 = .ok (.iconst 4, 1) := by decide +kernel
theorem d_Model_raise_30 : decode b_Model_raise 30 = .ok (.if_icmp .gt 79, 3) := by decide +kernel
theorem d_Model_raise_33 : decode b_Model_raise 33 = .ok (.aload_n 0, 1) := by decide +kernel
theorem d_Model_raise_34 : decode b_Model_raise 34 = .ok (.iload_n 1, 1) := by decide +kernel
theorem d_Model_raise_35 : decode b_Model_raise 35 = .ok (.iconst 0, 1) := by decide +kernel
theorem d_Model_raise_36 : decode b_Model_raise 36 = .ok (.iload_n 3, 1) := by decide +kernel
theorem d_Model_raise_37 : decode b_Model_raise 37 = .ok (.invokevirtual 312, 3) := by decide +kernel
theorem d_Model_raise_40 : decode b_Model_raise 40 = .ok (.ifCond .eq 63, 3) := by decide +kernel
theorem d_Model_raise_43 : decode b_Model_raise 43 = .ok (.aload_n 0, 1) := by decide +kernel
theorem d_Model_raise_44 : decode b_Model_raise 44 = .ok (.getfield 13, 3) := by decide +kernel
theorem d_Model_raise_47 : decode b_Model_raise 47 = .ok (.iload_n 2, 1) := by decide +kernel
theorem d_Model_raise_48 : decode b_Model_raise 48 = .ok (.aload_n 0, 1) := by decide +kernel
theorem d_Model_raise_49 : decode b_Model_raise 49 = .ok (.getfield 176, 3) := by decide +kernel
theorem d_Model_raise_52 : decode b_Model_raise 52 = .ok (.iastore, 1) := by decide +kernel
theorem d_Model_raise_53 : decode b_Model_raise 53 = .ok (.iconst 0, 1) := by decide +kernel
theorem d_Model_raise_54 : decode b_Model_raise 54 = .ok (.istore 4, 2) := by decide +kernel
theorem d_Model_raise_56 : decode b_Model_raise 56 = .ok (.iload 4, 2) := by decide +kernel
theorem d_Model_raise_58 : decode b_Model_raise 58 = .ok (.bipush 60, 2) := by decide +kernel
theorem d_Model_raise_60 : decode b_Model_raise 60 = .ok (.if_icmp .ge 41, 3) := by decide +kernel
theorem d_Model_raise_63 : decode b_Model_raise 63 = .ok (.aload_n 0, 1) := by decide +kernel
theorem d_Model_raise_64 : decode b_Model_raise 64 = .ok (.getfield 16, 3) := by decide +kernel
theorem d_Model_raise_67 : decode b_Model_raise 67 = .ok (.bipush 60, 2) := by decide +kernel
theorem d_Model_raise_69 : decode b_Model_raise 69 = .ok (.iload_n 2, 1) := by decide +kernel
theorem d_Model_raise_70 : decode b_Model_raise 70 = .ok (.imul, 1) := by decide +kernel
theorem d_Model_raise_71 : decode b_Model_raise 71 = .ok (.iload 4, 2) := by decide +kernel
theorem d_Model_raise_73 : decode b_Model_raise 73 = .ok (.iadd, 1) := by decide +kernel
theorem d_Model_raise_74 : decode b_Model_raise 74 = .ok (.iload 4, 2) := by decide +kernel
theorem d_Model_raise_76 : decode b_Model_raise 76 = .ok (.aload_n 0, 1) := by decide +kernel
theorem d_Model_raise_77 : decode b_Model_raise 77 = .ok (.getfield 176, 3) := by decide +kernel
theorem d_Model_raise_80 : decode b_Model_raise 80 = .ok (.if_icmp .ge 13, 3) := by decide +kernel
theorem d_Model_raise_83 : decode b_Model_raise 83 = .ok (.aload_n 0, 1) := by decide +kernel
theorem d_Model_raise_84 : decode b_Model_raise 84 = .ok (.getfield 96, 3) := by decide +kernel
theorem d_Model_raise_87 : decode b_Model_raise 87 = .ok (.iload 4, 2) := by decide +kernel
theorem d_Model_raise_89 : decode b_Model_raise 89 = .ok (.iaload, 1) := by decide +kernel
theorem d_Model_raise_90 : decode b_Model_raise 90 = .ok (.goto 4, 3) := by decide +kernel
theorem d_Model_raise_93 : decode b_Model_raise 93 = .ok (.iconst 0, 1) := by decide +kernel
theorem d_Model_raise_94 : decode b_Model_raise 94 = .ok (.iastore, 1) := by decide +kernel
theorem d_Model_raise_95 : decode b_Model_raise 95 = .ok (.iinc 4 1, 3) := by decide +kernel
theorem d_Model_raise_98 : decode b_Model_raise 98 = .ok (.goto (-42), 3) := by decide +kernel
theorem d_Model_raise_101 : decode b_Model_raise 101 = .ok (.iload_n 3, 1) := by decide +kernel
theorem d_Model_raise_102 : decode b_Model_raise 102 = .ok (.ireturn, 1) := by decide +kernel
theorem d_Model_raise_103 : decode b_Model_raise 103 = .ok (.iinc 3 1, 3) := by decide +kernel
theorem d_Model_raise_106 : decode b_Model_raise 106 = .ok (.goto (-78), 3) := by decide +kernel
theorem d_Model_raise_109 : decode b_Model_raise 109 = .ok (.bipush (-9), 2) := by decide +kernel
theorem d_Model_raise_111 : decode b_Model_raise 111 = .ok (.ireturn, 1) := by decide +kernel
abbrev b_Model_whose : ByteArray := prog_11_method_84_code
abbrev y_Model_whose : MethodName := ⟨"RiverTuesdaysModel", "whose", "(I)I"⟩
theorem ok_Model_whose : okV y_Model_whose b_Model_whose 6 (some .int) 1 9 := ⟨mGW (List.mem_of_getElem? (i := 1535) (by decide +kernel)) rfl, mGW (List.mem_of_getElem? (i := 1536) (by decide +kernel)) rfl, mGW (List.mem_of_getElem? (i := 83) (by decide +kernel)) rfl, mGW (List.mem_of_getElem? (i := 1537) (by decide +kernel)) rfl, ⟨by decide, by decide, by decide +kernel⟩, rfl⟩
theorem d_Model_whose_0 : decode b_Model_whose 0 = .ok (.aload_n 0, 1) := by decide +kernel
theorem d_Model_whose_1 : decode b_Model_whose 1 = .ok (.iconst 1, 1) := by decide +kernel
theorem d_Model_whose_2 : decode b_Model_whose 2 = .ok (.iload_n 1, 1) := by decide +kernel
theorem d_Model_whose_3 : decode b_Model_whose 3 = .ok (.invokevirtual 281, 3) := by decide +kernel
theorem d_Model_whose_6 : decode b_Model_whose 6 = .ok (.istore_n 2, 1) := by decide +kernel
theorem d_Model_whose_7 : decode b_Model_whose 7 = .ok (.iload_n 2, 1) := by decide +kernel
theorem d_Model_whose_8 : decode b_Model_whose 8 = .ok (.ifCond .ge 5, 3) := by decide +kernel
theorem d_Model_whose_11 : decode b_Model_whose 11 = .ok (.iload_n 2, 1) := by decide +kernel
theorem d_Model_whose_12 : decode b_Model_whose 12 = .ok (.ireturn, 1) := by decide +kernel
theorem d_Model_whose_13 : decode b_Model_whose 13 = .ok (.bipush (-9), 2) := by decide +kernel
theorem d_Model_whose_15 : decode b_Model_whose 15 = .ok (.istore_n 3, 1) := by decide +kernel
theorem d_Model_whose_16 : decode b_Model_whose 16 = .ok (.iconst 0, 1) := by decide +kernel
theorem d_Model_whose_17 : decode b_Model_whose 17 = .ok (.istore 4, 2) := by decide +kernel
theorem d_Model_whose_19 : decode b_Model_whose 19 = .ok (.iconst 0, 1) := by decide +kernel
theorem d_Model_whose_20 : decode b_Model_whose 20 = .ok (.istore 5, 2) := by decide +kernel
theorem d_Model_whose_22 : decode b_Model_whose 22 = .ok (.iload 5, 2) := by decide +kernel
theorem d_Model_whose_24 : decode b_Model_whose 24 = .ok (.aload_n 0, 1) := by decide +kernel
theorem d_Model_whose_25 : decode b_Model_whose 25 = .ok (.getfield 176, 3) := by decide +kernel
theorem d_Model_whose_28 : decode b_Model_whose 28 = .ok (.if_icmp .ge 60, 3) := by decide +kernel
theorem d_Model_whose_31 : decode b_Model_whose 31 = .ok (.aload_n 0, 1) := by decide +kernel
theorem d_Model_whose_32 : decode b_Model_whose 32 = .ok (.getfield 35, 3) := by decide +kernel
theorem d_Model_whose_35 : decode b_Model_whose 35 = .ok (.iload 5, 2) := by decide +kernel
theorem d_Model_whose_37 : decode b_Model_whose 37 = .ok (.dup2, 1) := by decide +kernel
theorem d_Model_whose_38 : decode b_Model_whose 38 = .ok (.iaload, 1) := by decide +kernel
theorem d_Model_whose_39 : decode b_Model_whose 39 = .ok (.iconst 1, 1) := by decide +kernel
theorem d_Model_whose_40 : decode b_Model_whose 40 = .ok (.iadd, 1) := by decide +kernel
theorem d_Model_whose_41 : decode b_Model_whose 41 = .ok (.iastore, 1) := by decide +kernel
theorem d_Model_whose_42 : decode b_Model_whose 42 = .ok (.aload_n 0, 1) := by decide +kernel
theorem d_Model_whose_43 : decode b_Model_whose 43 = .ok (.iload_n 1, 1) := by decide +kernel
theorem d_Model_whose_44 : decode b_Model_whose 44 = .ok (.invokevirtual 278, 3) := by decide +kernel
theorem d_Model_whose_47 : decode b_Model_whose 47 = .ok (.aload_n 0, 1) := by decide +kernel
theorem d_Model_whose_48 : decode b_Model_whose 48 = .ok (.getfield 35, 3) := by decide +kernel
theorem d_Model_whose_51 : decode b_Model_whose 51 = .ok (.iload 5, 2) := by decide +kernel
theorem d_Model_whose_53 : decode b_Model_whose 53 = .ok (.dup2, 1) := by decide +kernel
theorem d_Model_whose_54 : decode b_Model_whose 54 = .ok (.iaload, 1) := by decide +kernel
theorem d_Model_whose_55 : decode b_Model_whose 55 = .ok (.iconst 1, 1) := by decide +kernel
theorem d_Model_whose_56 : decode b_Model_whose 56 = .ok (.isub, 1) := by decide +kernel
theorem d_Model_whose_57 : decode b_Model_whose 57 = .ok (.iastore, 1) := by decide +kernel
theorem d_Model_whose_58 : decode b_Model_whose 58 = .ok (.iload_n 3, 1) := by decide +kernel
theorem d_Model_whose_59 : decode b_Model_whose 59 = .ok (.bipush (-9), 2) := by decide +kernel
theorem d_Model_whose_61 : decode b_Model_whose 61 = .ok (.if_icmp .eq 12, 3) := by decide +kernel
theorem d_Model_whose_64 : decode b_Model_whose 64 = .ok (.aload_n 0, 1) := by decide +kernel
theorem d_Model_whose_65 : decode b_Model_whose 65 = .ok (.getfield 242, 3) := by decide +kernel
theorem d_Model_whose_68 : decode b_Model_whose 68 = .ok (.iload 4, 2) := by decide +kernel
theorem d_Model_whose_70 : decode b_Model_whose 70 = .ok (.if_icmp .ge 12, 3) := by decide +kernel
theorem d_Model_whose_73 : decode b_Model_whose 73 = .ok (.iload 5, 2) := by decide +kernel
theorem d_Model_whose_75 : decode b_Model_whose 75 = .ok (.istore_n 3, 1) := by decide +kernel
theorem d_Model_whose_76 : decode b_Model_whose 76 = .ok (.aload_n 0, 1) := by decide +kernel
theorem d_Model_whose_77 : decode b_Model_whose 77 = .ok (.getfield 242, 3) := by decide +kernel
theorem d_Model_whose_80 : decode b_Model_whose 80 = .ok (.istore 4, 2) := by decide +kernel
theorem d_Model_whose_82 : decode b_Model_whose 82 = .ok (.iinc 5 1, 3) := by decide +kernel
theorem d_Model_whose_85 : decode b_Model_whose 85 = .ok (.goto (-63), 3) := by decide +kernel
theorem d_Model_whose_88 : decode b_Model_whose 88 = .ok (.aload_n 0, 1) := by decide +kernel
theorem d_Model_whose_89 : decode b_Model_whose 89 = .ok (.iload 4, 2) := by decide +kernel
theorem d_Model_whose_91 : decode b_Model_whose 91 = .ok (.iload_n 3, 1) := by decide +kernel
theorem d_Model_whose_92 : decode b_Model_whose 92 = .ok (.invokevirtual 137, 3) := by decide +kernel
theorem d_Model_whose_95 : decode b_Model_whose 95 = .ok (.ireturn, 1) := by decide +kernel
abbrev b_Model_needJobs : ByteArray := prog_11_method_85_code
abbrev y_Model_needJobs : MethodName := ⟨"RiverTuesdaysModel", "needJobs", "(II)I"⟩
theorem ok_Model_needJobs : okV y_Model_needJobs b_Model_needJobs 5 (some .int) 2 9 := ⟨mGW (List.mem_of_getElem? (i := 1544) (by decide +kernel)) rfl, mGW (List.mem_of_getElem? (i := 65) (by decide +kernel)) rfl, mGW (List.mem_of_getElem? (i := 83) (by decide +kernel)) rfl, mGW (List.mem_of_getElem? (i := 1545) (by decide +kernel)) rfl, ⟨by decide, by decide, by decide +kernel⟩, rfl⟩
theorem d_Model_needJobs_0 : decode b_Model_needJobs 0 = .ok (.aload_n 0, 1) := by decide +kernel
theorem d_Model_needJobs_1 : decode b_Model_needJobs 1 = .ok (.getfield 13, 3) := by decide +kernel
theorem d_Model_needJobs_4 : decode b_Model_needJobs 4 = .ok (.iload_n 1, 1) := by decide +kernel
theorem d_Model_needJobs_5 : decode b_Model_needJobs 5 = .ok (.iaload, 1) := by decide +kernel
theorem d_Model_needJobs_6 : decode b_Model_needJobs 6 = .ok (.ifCond .lt 12, 3) := by decide +kernel
theorem d_Model_needJobs_9 : decode b_Model_needJobs 9 = .ok (.aload_n 0, 1) := by decide +kernel
theorem d_Model_needJobs_10 : decode b_Model_needJobs 10 = .ok (.getfield 13, 3) := by decide +kernel
theorem d_Model_needJobs_13 : decode b_Model_needJobs 13 = .ok (.iload_n 2, 1) := by decide +kernel
theorem d_Model_needJobs_14 : decode b_Model_needJobs 14 = .ok (.iaload, 1) := by decide +kernel
theorem d_Model_needJobs_15 : decode b_Model_needJobs 15 = .ok (.ifCond .ge 9, 3) := by decide +kernel
theorem d_Model_needJobs_18 : decode b_Model_needJobs 18 = .ok (.aload_n 0, 1) := by decide +kernel
theorem d_Model_needJobs_19 : decode b_Model_needJobs 19 = .ok (.iconst 1, 1) := by decide +kernel
theorem d_Model_needJobs_20 : decode b_Model_needJobs 20 = .ok (.invokevirtual 129, 3) := by decide +kernel
theorem d_Model_needJobs_23 : decode b_Model_needJobs 23 = .ok (.ireturn, 1) := by decide +kernel
theorem d_Model_needJobs_24 : decode b_Model_needJobs 24 = .ok (.aload_n 0, 1) := by decide +kernel
theorem d_Model_needJobs_25 : decode b_Model_needJobs 25 = .ok (.getfield 13, 3) := by decide +kernel
theorem d_Model_needJobs_28 : decode b_Model_needJobs 28 = .ok (.iload_n 1, 1) := by decide +kernel
theorem d_Model_needJobs_29 : decode b_Model_needJobs 29 = .ok (.iaload, 1) := by decide +kernel
theorem d_Model_needJobs_30 : decode b_Model_needJobs 30 = .ok (.bipush 6, 2) := by decide +kernel
theorem d_Model_needJobs_32 : decode b_Model_needJobs 32 = .ok (.if_icmp .gt 18, 3) := by decide +kernel
theorem d_Model_needJobs_35 : decode b_Model_needJobs 35 = .ok (.aload_n 0, 1) := by decide +kernel
theorem d_Model_needJobs_36 : decode b_Model_needJobs 36 = .ok (.getfield 13, 3) := by decide +kernel
theorem d_Model_needJobs_39 : decode b_Model_needJobs 39 = .ok (.iload_n 1, 1) := by decide +kernel
theorem d_Model_needJobs_40 : decode b_Model_needJobs 40 = .ok (.iaload, 1) := by decide +kernel
theorem d_Model_needJobs_41 : decode b_Model_needJobs 41 = .ok (.aload_n 0, 1) := by decide +kernel
theorem d_Model_needJobs_42 : decode b_Model_needJobs 42 = .ok (.getfield 13, 3) := by decide +kernel
theorem d_Model_needJobs_45 : decode b_Model_needJobs 45 = .ok (.iload_n 2, 1) := by decide +kernel
theorem d_Model_needJobs_46 : decode b_Model_needJobs 46 = .ok (.iaload, 1) := by decide +kernel
theorem d_Model_needJobs_47 : decode b_Model_needJobs 47 = .ok (.if_icmp .eq 9, 3) := by decide +kernel
theorem d_Model_needJobs_50 : decode b_Model_needJobs 50 = .ok (.aload_n 0, 1) := by decide +kernel
theorem d_Model_needJobs_51 : decode b_Model_needJobs 51 = .ok (.iconst 5, 1) := by decide +kernel
theorem d_Model_needJobs_52 : decode b_Model_needJobs 52 = .ok (.invokevirtual 129, 3) := by decide +kernel
theorem d_Model_needJobs_55 : decode b_Model_needJobs 55 = .ok (.ireturn, 1) := by decide +kernel
theorem d_Model_needJobs_56 : decode b_Model_needJobs 56 = .ok (.iconst 1, 1) := by decide +kernel
theorem d_Model_needJobs_57 : decode b_Model_needJobs 57 = .ok (.istore_n 3, 1) := by decide +kernel
theorem d_Model_needJobs_58 : decode b_Model_needJobs 58 = .ok (.iconst 0, 1) := by decide +kernel
theorem d_Model_needJobs_59 : decode b_Model_needJobs 59 = .ok (.istore 4, 2) := by decide +kernel
theorem d_Model_needJobs_61 : decode b_Model_needJobs 61 = .ok (.iload 4, 2) := by decide +kernel
theorem d_Model_needJobs_63 : decode b_Model_needJobs 63 = .ok (.aload_n 0, 1) := by decide +kernel
theorem d_Model_needJobs_64 : decode b_Model_needJobs 64 = .ok (.getfield 13, 3) := by decide +kernel
theorem d_Model_needJobs_67 : decode b_Model_needJobs 67 = .ok (.iload_n 1, 1) := by decide +kernel
theorem d_Model_needJobs_68 : decode b_Model_needJobs 68 = .ok (.iaload, 1) := by decide +kernel
theorem d_Model_needJobs_69 : decode b_Model_needJobs 69 = .ok (.if_icmp .ge 51, 3) := by decide +kernel
theorem d_Model_needJobs_72 : decode b_Model_needJobs 72 = .ok (.iload_n 3, 1) := by decide +kernel
theorem d_Model_needJobs_73 : decode b_Model_needJobs 73 = .ok (.ifCond .eq 39, 3) := by decide +kernel
theorem d_Model_needJobs_76 : decode b_Model_needJobs 76 = .ok (.aload_n 0, 1) := by decide +kernel
theorem d_Model_needJobs_77 : decode b_Model_needJobs 77 = .ok (.iload_n 1, 1) := by decide +kernel
theorem d_Model_needJobs_78 : decode b_Model_needJobs 78 = .ok (.iload 4, 2) := by decide +kernel
theorem d_Model_needJobs_80 : decode b_Model_needJobs 80 = .ok (.invokevirtual 133, 3) := by decide +kernel
theorem d_Model_needJobs_83 : decode b_Model_needJobs 83 = .ok (.iconst 1, 1) := by decide +kernel
theorem d_Model_needJobs_84 : decode b_Model_needJobs 84 = .ok (.bipush 24, 2) := by decide +kernel
theorem d_Model_needJobs_86 : decode b_Model_needJobs 86 = .ok (.invokestatic 118, 3) := by decide +kernel
theorem d_Model_needJobs_89 : decode b_Model_needJobs 89 = .ok (.ifCond .eq 23, 3) := by decide +kernel
theorem d_Model_needJobs_92 : decode b_Model_needJobs 92 = .ok (.aload_n 0, 1) := by decide +kernel
theorem d_Model_needJobs_93 : decode b_Model_needJobs 93 = .ok (.iload_n 2, 1) := by decide +kernel
theorem d_Model_needJobs_94 : decode b_Model_needJobs 94 = .ok (.iload 4, 2) := by decide +kernel
theorem d_Model_needJobs_96 : decode b_Model_needJobs 96 = .ok (.invokevirtual 133, 3) := by decide +kernel
theorem d_Model_needJobs_99 : decode b_Model_needJobs 99 = .ok (.iconst 0, 1) := by decide +kernel
theorem d_Model_needJobs_100 : decode b_Model_needJobs 100 = .ok (.bipush 99, 2) := by decide +kernel
theorem d_Model_needJobs_102 : decode b_Model_needJobs 102 = .ok (.invokestatic 118, 3) := by decide +kernel
theorem d_Model_needJobs_105 : decode b_Model_needJobs 105 = .ok (.ifCond .eq 7, 3) := by decide +kernel
theorem d_Model_needJobs_108 : decode b_Model_needJobs 108 = .ok (.iconst 1, 1) := by decide +kernel
theorem d_Model_needJobs_109 : decode b_Model_needJobs 109 = .ok (.goto 4, 3) := by decide +kernel
theorem d_Model_needJobs_112 : decode b_Model_needJobs 112 = .ok (.iconst 0, 1) := by decide +kernel
theorem d_Model_needJobs_113 : decode b_Model_needJobs 113 = .ok (.istore_n 3, 1) := by decide +kernel
theorem d_Model_needJobs_114 : decode b_Model_needJobs 114 = .ok (.iinc 4 1, 3) := by decide +kernel
theorem d_Model_needJobs_117 : decode b_Model_needJobs 117 = .ok (.goto (-56), 3) := by decide +kernel
theorem d_Model_needJobs_120 : decode b_Model_needJobs 120 = .ok (.iload_n 3, 1) := by decide +kernel
theorem d_Model_needJobs_121 : decode b_Model_needJobs 121 = .ok (.ifCond .ne 9, 3) := by decide +kernel
theorem d_Model_needJobs_124 : decode b_Model_needJobs 124 = .ok (.aload_n 0, 1) := by decide +kernel
theorem d_Model_needJobs_125 : decode b_Model_needJobs 125 = .ok (.iconst 3, 1) := by decide +kernel
theorem d_Model_needJobs_126 : decode b_Model_needJobs 126 = .ok (.invokevirtual 129, 3) := by decide +kernel
theorem d_Model_needJobs_129 : decode b_Model_needJobs 129 = .ok (.ireturn, 1) := by decide +kernel
theorem d_Model_needJobs_130 : decode b_Model_needJobs 130 = .ok (.aload_n 0, 1) := by decide +kernel
theorem d_Model_needJobs_131 : decode b_Model_needJobs 131 = .ok (.aload_n 0, 1) := by decide +kernel
theorem d_Model_needJobs_132 : decode b_Model_needJobs 132 = .ok (.getfield 13, 3) := by decide +kernel
theorem d_Model_needJobs_135 : decode b_Model_needJobs 135 = .ok (.iload_n 1, 1) := by decide +kernel
theorem d_Model_needJobs_136 : decode b_Model_needJobs 136 = .ok (.iaload, 1) := by decide +kernel
theorem d_Model_needJobs_137 : decode b_Model_needJobs 137 = .ok (.putfield 315, 3) := by decide +kernel
theorem d_Model_needJobs_140 : decode b_Model_needJobs 140 = .ok (.iconst 0, 1) := by decide +kernel
theorem d_Model_needJobs_141 : decode b_Model_needJobs 141 = .ok (.istore 4, 2) := by decide +kernel
theorem d_Model_needJobs_143 : decode b_Model_needJobs 143 = .ok (.iload 4, 2) := by decide +kernel
theorem d_Model_needJobs_145 : decode b_Model_needJobs 145 = .ok (.aload_n 0, 1) := by decide +kernel
theorem d_Model_needJobs_146 : decode b_Model_needJobs 146 = .ok (.getfield 315, 3) := by decide +kernel
theorem d_Model_needJobs_149 : decode b_Model_needJobs 149 = .ok (.if_icmp .ge 37, 3) := by decide +kernel
theorem d_Model_needJobs_152 : decode b_Model_needJobs 152 = .ok (.aload_n 0, 1) := by decide +kernel
theorem d_Model_needJobs_153 : decode b_Model_needJobs 153 = .ok (.getfield 99, 3) := by decide +kernel
theorem d_Model_needJobs_156 : decode b_Model_needJobs 156 = .ok (.iload 4, 2) := by decide +kernel
theorem d_Model_needJobs_158 : decode b_Model_needJobs 158 = .ok (.aload_n 0, 1) := by decide +kernel
theorem d_Model_needJobs_159 : decode b_Model_needJobs 159 = .ok (.iload_n 1, 1) := by decide +kernel
theorem d_Model_needJobs_160 : decode b_Model_needJobs 160 = .ok (.iload 4, 2) := by decide +kernel
theorem d_Model_needJobs_162 : decode b_Model_needJobs 162 = .ok (.invokevirtual 133, 3) := by decide +kernel
theorem d_Model_needJobs_165 : decode b_Model_needJobs 165 = .ok (.iastore, 1) := by decide +kernel
theorem d_Model_needJobs_166 : decode b_Model_needJobs 166 = .ok (.aload_n 0, 1) := by decide +kernel
theorem d_Model_needJobs_167 : decode b_Model_needJobs 167 = .ok (.getfield 102, 3) := by decide +kernel
theorem d_Model_needJobs_170 : decode b_Model_needJobs 170 = .ok (.iload 4, 2) := by decide +kernel
theorem d_Model_needJobs_172 : decode b_Model_needJobs 172 = .ok (.aload_n 0, 1) := by decide +kernel
theorem d_Model_needJobs_173 : decode b_Model_needJobs 173 = .ok (.iload_n 2, 1) := by decide +kernel
theorem d_Model_needJobs_174 : decode b_Model_needJobs 174 = .ok (.iload 4, 2) := by decide +kernel
theorem d_Model_needJobs_176 : decode b_Model_needJobs 176 = .ok (.invokevirtual 133, 3) := by decide +kernel
theorem d_Model_needJobs_179 : decode b_Model_needJobs 179 = .ok (.iastore, 1) := by decide +kernel
theorem d_Model_needJobs_180 : decode b_Model_needJobs 180 = .ok (.iinc 4 1, 3) := by decide +kernel
theorem d_Model_needJobs_183 : decode b_Model_needJobs 183 = .ok (.goto (-40), 3) := by decide +kernel
theorem d_Model_needJobs_186 : decode b_Model_needJobs 186 = .ok (.iconst 0, 1) := by decide +kernel
theorem d_Model_needJobs_187 : decode b_Model_needJobs 187 = .ok (.ireturn, 1) := by decide +kernel
abbrev b_Model_layOrders : ByteArray := prog_11_method_86_code
abbrev y_Model_layOrders : MethodName := ⟨"RiverTuesdaysModel", "layOrders", "(IIII)V"⟩
theorem ok_Model_layOrders : okV y_Model_layOrders b_Model_layOrders 7 none 4 9 := ⟨mGW (List.mem_of_getElem? (i := 1549) (by decide +kernel)) rfl, mGW (List.mem_of_getElem? (i := 66) (by decide +kernel)) rfl, mGW (List.mem_of_getElem? (i := 83) (by decide +kernel)) rfl, mGW (List.mem_of_getElem? (i := 1550) (by decide +kernel)) rfl, ⟨by decide, by decide, by decide +kernel⟩, rfl⟩
theorem d_Model_layOrders_0 : decode b_Model_layOrders 0 = .ok (.iload_n 1, 1) := by decide +kernel
theorem d_Model_layOrders_1 : decode b_Model_layOrders 1 = .ok (.aload_n 0, 1) := by decide +kernel
theorem d_Model_layOrders_2 : decode b_Model_layOrders 2 = .ok (.getfield 315, 3) := by decide +kernel
theorem d_Model_layOrders_5 : decode b_Model_layOrders 5 = .ok (.if_icmp .ne 47, 3) := by decide +kernel
theorem d_Model_layOrders_8 : decode b_Model_layOrders 8 = .ok (.iload 4, 2) := by decide +kernel
theorem d_Model_layOrders_10 : decode b_Model_layOrders 10 = .ok (.aload_n 0, 1) := by decide +kernel
theorem d_Model_layOrders_11 : decode b_Model_layOrders 11 = .ok (.getfield 318, 3) := by decide +kernel
theorem d_Model_layOrders_14 : decode b_Model_layOrders 14 = .ok (.if_icmp .ge 38, 3) := by decide +kernel
theorem d_Model_layOrders_17 : decode b_Model_layOrders 17 = .ok (.aload_n 0, 1) := by decide +kernel
theorem d_Model_layOrders_18 : decode b_Model_layOrders 18 = .ok (.iload 4, 2) := by decide +kernel
theorem d_Model_layOrders_20 : decode b_Model_layOrders 20 = .ok (.putfield 318, 3) := by decide +kernel
theorem d_Model_layOrders_23 : decode b_Model_layOrders 23 = .ok (.iconst 0, 1) := by decide +kernel
theorem d_Model_layOrders_24 : decode b_Model_layOrders 24 = .ok (.istore 5, 2) := by decide +kernel
theorem d_Model_layOrders_26 : decode b_Model_layOrders 26 = .ok (.iload 5, 2) := by decide +kernel
theorem d_Model_layOrders_28 : decode b_Model_layOrders 28 = .ok (.iload_n 1, 1) := by decide +kernel
theorem d_Model_layOrders_29 : decode b_Model_layOrders 29 = .ok (.if_icmp .ge 23, 3) := by decide +kernel
theorem d_Model_layOrders_32 : decode b_Model_layOrders 32 = .ok (.aload_n 0, 1) := by decide +kernel
theorem d_Model_layOrders_33 : decode b_Model_layOrders 33 = .ok (.getfield 108, 3) := by decide +kernel
theorem d_Model_layOrders_36 : decode b_Model_layOrders 36 = .ok (.iload 5, 2) := by decide +kernel
theorem d_Model_layOrders_38 : decode b_Model_layOrders 38 = .ok (.aload_n 0, 1) := by decide +kernel
theorem d_Model_layOrders_39 : decode b_Model_layOrders 39 = .ok (.getfield 105, 3) := by decide +kernel
theorem d_Model_layOrders_42 : decode b_Model_layOrders 42 = .ok (.iload 5, 2) := by decide +kernel
theorem d_Model_layOrders_44 : decode b_Model_layOrders 44 = .ok (.iaload, 1) := by decide +kernel
theorem d_Model_layOrders_45 : decode b_Model_layOrders 45 = .ok (.iastore, 1) := by decide +kernel
theorem d_Model_layOrders_46 : decode b_Model_layOrders 46 = .ok (.iinc 5 1, 3) := by decide +kernel
theorem d_Model_layOrders_49 : decode b_Model_layOrders 49 = .ok (.goto (-23), 3) := by decide +kernel
theorem d_Model_layOrders_52 : decode b_Model_layOrders 52 = .ok (.iconst 0, 1) := by decide +kernel
theorem d_Model_layOrders_53 : decode b_Model_layOrders 53 = .ok (.istore 5, 2) := by decide +kernel
theorem d_Model_layOrders_55 : decode b_Model_layOrders 55 = .ok (.iload 5, 2) := by decide +kernel
theorem d_Model_layOrders_57 : decode b_Model_layOrders 57 = .ok (.aload_n 0, 1) := by decide +kernel
theorem d_Model_layOrders_58 : decode b_Model_layOrders 58 = .ok (.getfield 315, 3) := by decide +kernel
theorem d_Model_layOrders_61 : decode b_Model_layOrders 61 = .ok (.if_icmp .ge 69, 3) := by decide +kernel
theorem d_Model_layOrders_64 : decode b_Model_layOrders 64 = .ok (.iload_n 2, 1) := by decide +kernel
theorem d_Model_layOrders_65 : decode b_Model_layOrders 65 = .ok (.iload 5, 2) := by decide +kernel
theorem d_Model_layOrders_67 : decode b_Model_layOrders 67 = .ok (.invokestatic 248, 3) := by decide +kernel
theorem d_Model_layOrders_70 : decode b_Model_layOrders 70 = .ok (.ifCond .ne 54, 3) := by decide +kernel
theorem d_Model_layOrders_73 : decode b_Model_layOrders 73 = .ok (.aload_n 0, 1) := by decide +kernel
theorem d_Model_layOrders_74 : decode b_Model_layOrders 74 = .ok (.getfield 105, 3) := by decide +kernel
theorem d_Model_layOrders_77 : decode b_Model_layOrders 77 = .ok (.iload_n 1, 1) := by decide +kernel
theorem d_Model_layOrders_78 : decode b_Model_layOrders 78 = .ok (.iload 5, 2) := by decide +kernel
theorem d_Model_layOrders_80 : decode b_Model_layOrders 80 = .ok (.iastore, 1) := by decide +kernel
theorem d_Model_layOrders_81 : decode b_Model_layOrders 81 = .ok (.iload_n 3, 1) := by decide +kernel
theorem d_Model_layOrders_82 : decode b_Model_layOrders 82 = .ok (.aload_n 0, 1) := by decide +kernel
theorem d_Model_layOrders_83 : decode b_Model_layOrders 83 = .ok (.getfield 99, 3) := by decide +kernel
theorem d_Model_layOrders_86 : decode b_Model_layOrders 86 = .ok (.iload 5, 2) := by decide +kernel
theorem d_Model_layOrders_88 : decode b_Model_layOrders 88 = .ok (.iaload, 1) := by decide +kernel
theorem d_Model_layOrders_89 : decode b_Model_layOrders 89 = .ok (.iadd, 1) := by decide +kernel
theorem d_Model_layOrders_90 : decode b_Model_layOrders 90 = .ok (.istore 6, 2) := by decide +kernel
theorem d_Model_layOrders_92 : decode b_Model_layOrders 92 = .ok (.aload_n 0, 1) := by decide +kernel
theorem d_Model_layOrders_93 : decode b_Model_layOrders 93 = .ok (.iload_n 1, 1) := by decide +kernel
theorem d_Model_layOrders_94 : decode b_Model_layOrders 94 = .ok (.iconst 1, 1) := by decide +kernel
theorem d_Model_layOrders_95 : decode b_Model_layOrders 95 = .ok (.iadd, 1) := by decide +kernel
theorem d_Model_layOrders_96 : decode b_Model_layOrders 96 = .ok (.iload_n 2, 1) := by decide +kernel
theorem d_Model_layOrders_97 : decode b_Model_layOrders 97 = .ok (.iconst 1, 1) := by decide +kernel
theorem d_Model_layOrders_98 : decode b_Model_layOrders 98 = .ok (.iload 5, 2) := by decide +kernel
theorem d_Model_layOrders_100 : decode b_Model_layOrders 100 = .ok (.ishl, 1) := by decide +kernel
theorem d_Model_layOrders_101 : decode b_Model_layOrders 101 = .ok (.ior, 1) := by decide +kernel
theorem d_Model_layOrders_102 : decode b_Model_layOrders 102 = .ok (.iload 6, 2) := by decide +kernel
theorem d_Model_layOrders_104 : decode b_Model_layOrders 104 = .ok (.iload 4, 2) := by decide +kernel
theorem d_Model_layOrders_106 : decode b_Model_layOrders 106 = .ok (.iconst 0, 1) := by decide +kernel
theorem d_Model_layOrders_107 : decode b_Model_layOrders 107 = .ok (.iload 6, 2) := by decide +kernel
theorem d_Model_layOrders_109 : decode b_Model_layOrders 109 = .ok (.aload_n 0, 1) := by decide +kernel
theorem d_Model_layOrders_110 : decode b_Model_layOrders 110 = .ok (.getfield 102, 3) := by decide +kernel
theorem d_Model_layOrders_113 : decode b_Model_layOrders 113 = .ok (.iload 5, 2) := by decide +kernel
theorem d_Model_layOrders_115 : decode b_Model_layOrders 115 = .ok (.iaload, 1) := by decide +kernel
theorem d_Model_layOrders_116 : decode b_Model_layOrders 116 = .ok (.isub, 1) := by decide +kernel
theorem d_Model_layOrders_117 : decode b_Model_layOrders 117 = .ok (.invokestatic 213, 3) := by decide +kernel
theorem d_Model_layOrders_120 : decode b_Model_layOrders 120 = .ok (.iadd, 1) := by decide +kernel
theorem d_Model_layOrders_121 : decode b_Model_layOrders 121 = .ok (.invokevirtual 321, 3) := by decide +kernel
theorem d_Model_layOrders_124 : decode b_Model_layOrders 124 = .ok (.iinc 5 1, 3) := by decide +kernel
theorem d_Model_layOrders_127 : decode b_Model_layOrders 127 = .ok (.goto (-72), 3) := by decide +kernel
theorem d_Model_layOrders_130 : decode b_Model_layOrders 130 = .ok (.return_, 1) := by decide +kernel
abbrev b_Model_work : ByteArray := prog_11_method_87_code
abbrev y_Model_work : MethodName := ⟨"RiverTuesdaysModel", "work", "(III)I"⟩
theorem ok_Model_work : okV y_Model_work b_Model_work 6 (some .int) 3 9 := ⟨mGW (List.mem_of_getElem? (i := 1539) (by decide +kernel)) rfl, mGW (List.mem_of_getElem? (i := 1540) (by decide +kernel)) rfl, mGW (List.mem_of_getElem? (i := 83) (by decide +kernel)) rfl, mGW (List.mem_of_getElem? (i := 1541) (by decide +kernel)) rfl, ⟨by decide, by decide, by decide +kernel⟩, rfl⟩
theorem d_Model_work_0 : decode b_Model_work 0 = .ok (.iload_n 1, 1) := by decide +kernel
theorem d_Model_work_1 : decode b_Model_work 1 = .ok (.invokestatic 125, 3) := by decide +kernel
theorem d_Model_work_4 : decode b_Model_work 4 = .ok (.ifCond .eq 17, 3) := by decide +kernel
theorem d_Model_work_7 : decode b_Model_work 7 = .ok (.iload_n 2, 1) := by decide +kernel
theorem d_Model_work_8 : decode b_Model_work 8 = .ok (.invokestatic 125, 3) := by decide +kernel
theorem d_Model_work_11 : decode b_Model_work 11 = .ok (.ifCond .eq 10, 3) := by decide +kernel
theorem d_Model_work_14 : decode b_Model_work 14 = .ok (.iload_n 3, 1) := by decide +kernel
theorem d_Model_work_15 : decode b_Model_work 15 = .ok (.invokestatic 125, 3) := by decide +kernel
theorem d_Model_work_18 : decode b_Model_work 18 = .ok (.ifCond .ne 5, 3) := by decide +kernel
theorem d_Model_work_21 : decode b_Model_work 21 = .ok (.iconst (-1), 1) := by decide +kernel
theorem d_Model_work_22 : decode b_Model_work 22 = .ok (.ireturn, 1) := by decide +kernel
theorem d_Model_work_23 : decode b_Model_work 23 = .ok (.aload_n 0, 1) := by decide +kernel
theorem d_Model_work_24 : decode b_Model_work 24 = .ok (.iload_n 1, 1) := by decide +kernel
theorem d_Model_work_25 : decode b_Model_work 25 = .ok (.iload_n 2, 1) := by decide +kernel
theorem d_Model_work_26 : decode b_Model_work 26 = .ok (.invokevirtual 325, 3) := by decide +kernel
theorem d_Model_work_29 : decode b_Model_work 29 = .ok (.istore 4, 2) := by decide +kernel
theorem d_Model_work_31 : decode b_Model_work 31 = .ok (.iload 4, 2) := by decide +kernel
theorem d_Model_work_33 : decode b_Model_work 33 = .ok (.ifCond .ge 6, 3) := by decide +kernel
theorem d_Model_work_36 : decode b_Model_work 36 = .ok (.iload 4, 2) := by decide +kernel
theorem d_Model_work_38 : decode b_Model_work 38 = .ok (.ireturn, 1) := by decide +kernel
theorem d_Model_work_39 : decode b_Model_work 39 = .ok (.aload_n 0, 1) := by decide +kernel
theorem d_Model_work_40 : decode b_Model_work 40 = .ok (.ldc_w 328, 3) := by decide +kernel
theorem d_Model_work_43 : decode b_Model_work 43 = .ok (.putfield 318, 3) := by decide +kernel
theorem d_Model_work_46 : decode b_Model_work 46 = .ok (.aload_n 0, 1) := by decide +kernel
theorem d_Model_work_47 : decode b_Model_work 47 = .ok (.iconst 0, 1) := by decide +kernel
theorem d_Model_work_48 : decode b_Model_work 48 = .ok (.iconst 0, 1) := by decide +kernel
theorem d_Model_work_49 : decode b_Model_work 49 = .ok (.iconst 0, 1) := by decide +kernel
theorem d_Model_work_50 : decode b_Model_work 50 = .ok (.iconst 0, 1) := by decide +kernel
theorem d_Model_work_51 : decode b_Model_work 51 = .ok (.invokevirtual 321, 3) := by decide +kernel
theorem d_Model_work_54 : decode b_Model_work 54 = .ok (.aload_n 0, 1) := by decide +kernel
theorem d_Model_work_55 : decode b_Model_work 55 = .ok (.getfield 13, 3) := by decide +kernel
theorem d_Model_work_58 : decode b_Model_work 58 = .ok (.iload_n 3, 1) := by decide +kernel
theorem d_Model_work_59 : decode b_Model_work 59 = .ok (.aload_n 0, 1) := by decide +kernel
theorem d_Model_work_60 : decode b_Model_work 60 = .ok (.getfield 315, 3) := by decide +kernel
theorem d_Model_work_63 : decode b_Model_work 63 = .ok (.iastore, 1) := by decide +kernel
theorem d_Model_work_64 : decode b_Model_work 64 = .ok (.iconst 0, 1) := by decide +kernel
theorem d_Model_work_65 : decode b_Model_work 65 = .ok (.istore 5, 2) := by decide +kernel
theorem d_Model_work_67 : decode b_Model_work 67 = .ok (.iload 5, 2) := by decide +kernel
theorem d_Model_work_69 : decode b_Model_work 69 = .ok (.bipush 60, 2) := by decide +kernel
theorem d_Model_work_71 : decode b_Model_work 71 = .ok (.if_icmp .ge 41, 3) := by decide +kernel
theorem d_Model_work_74 : decode b_Model_work 74 = .ok (.aload_n 0, 1) := by decide +kernel
theorem d_Model_work_75 : decode b_Model_work 75 = .ok (.getfield 16, 3) := by decide +kernel
theorem d_Model_work_78 : decode b_Model_work 78 = .ok (.bipush 60, 2) := by decide +kernel
theorem d_Model_work_80 : decode b_Model_work 80 = .ok (.iload_n 3, 1) := by decide +kernel
theorem d_Model_work_81 : decode b_Model_work 81 = .ok (.imul, 1) := by decide +kernel
theorem d_Model_work_82 : decode b_Model_work 82 = .ok (.iload 5, 2) := by decide +kernel
theorem d_Model_work_84 : decode b_Model_work 84 = .ok (.iadd, 1) := by decide +kernel
theorem d_Model_work_85 : decode b_Model_work 85 = .ok (.iload 5, 2) := by decide +kernel
theorem d_Model_work_87 : decode b_Model_work 87 = .ok (.aload_n 0, 1) := by decide +kernel
theorem d_Model_work_88 : decode b_Model_work 88 = .ok (.getfield 315, 3) := by decide +kernel
theorem d_Model_work_91 : decode b_Model_work 91 = .ok (.if_icmp .ge 13, 3) := by decide +kernel
theorem d_Model_work_94 : decode b_Model_work 94 = .ok (.aload_n 0, 1) := by decide +kernel
theorem d_Model_work_95 : decode b_Model_work 95 = .ok (.getfield 108, 3) := by decide +kernel
theorem d_Model_work_98 : decode b_Model_work 98 = .ok (.iload 5, 2) := by decide +kernel
theorem d_Model_work_100 : decode b_Model_work 100 = .ok (.iaload, 1) := by decide +kernel
theorem d_Model_work_101 : decode b_Model_work 101 = .ok (.goto 4, 3) := by decide +kernel
theorem d_Model_work_104 : decode b_Model_work 104 = .ok (.iconst 0, 1) := by decide +kernel
theorem d_Model_work_105 : decode b_Model_work 105 = .ok (.iastore, 1) := by decide +kernel
theorem d_Model_work_106 : decode b_Model_work 106 = .ok (.iinc 5 1, 3) := by decide +kernel
theorem d_Model_work_109 : decode b_Model_work 109 = .ok (.goto (-42), 3) := by decide +kernel
theorem d_Model_work_112 : decode b_Model_work 112 = .ok (.aload_n 0, 1) := by decide +kernel
theorem d_Model_work_113 : decode b_Model_work 113 = .ok (.getfield 318, 3) := by decide +kernel
theorem d_Model_work_116 : decode b_Model_work 116 = .ok (.ireturn, 1) := by decide +kernel
abbrev b_Model_inTime : ByteArray := prog_11_method_88_code
abbrev y_Model_inTime : MethodName := ⟨"RiverTuesdaysModel", "inTime", "(I)Z"⟩
theorem ok_Model_inTime : okV y_Model_inTime b_Model_inTime 6 (some .boolean) 1 9 := ⟨mGW (List.mem_of_getElem? (i := 1557) (by decide +kernel)) rfl, mGW (List.mem_of_getElem? (i := 67) (by decide +kernel)) rfl, mGW (List.mem_of_getElem? (i := 83) (by decide +kernel)) rfl, mGW (List.mem_of_getElem? (i := 1558) (by decide +kernel)) rfl, ⟨by decide, by decide, by decide +kernel⟩, rfl⟩
theorem d_Model_inTime_0 : decode b_Model_inTime 0 = .ok (.iload_n 1, 1) := by decide +kernel
theorem d_Model_inTime_1 : decode b_Model_inTime 1 = .ok (.istore_n 2, 1) := by decide +kernel
theorem d_Model_inTime_2 : decode b_Model_inTime 2 = .ok (.iconst 0, 1) := by decide +kernel
theorem d_Model_inTime_3 : decode b_Model_inTime 3 = .ok (.istore_n 3, 1) := by decide +kernel
theorem d_Model_inTime_4 : decode b_Model_inTime 4 = .ok (.iload_n 2, 1) := by decide +kernel
theorem d_Model_inTime_5 : decode b_Model_inTime 5 = .ok (.ifCond .eq 102, 3) := by decide +kernel
theorem d_Model_inTime_8 : decode b_Model_inTime 8 = .ok (.bipush (-9), 2) := by decide +kernel
theorem d_Model_inTime_10 : decode b_Model_inTime 10 = .ok (.istore 4, 2) := by decide +kernel
theorem d_Model_inTime_12 : decode b_Model_inTime 12 = .ok (.iconst 0, 1) := by decide +kernel
theorem d_Model_inTime_13 : decode b_Model_inTime 13 = .ok (.istore 5, 2) := by decide +kernel
theorem d_Model_inTime_15 : decode b_Model_inTime 15 = .ok (.iload 5, 2) := by decide +kernel
theorem d_Model_inTime_17 : decode b_Model_inTime 17 = .ok (.aload_n 0, 1) := by decide +kernel
theorem d_Model_inTime_18 : decode b_Model_inTime 18 = .ok (.getfield 315, 3) := by decide +kernel
theorem d_Model_inTime_21 : decode b_Model_inTime 21 = .ok (.if_icmp .ge 51, 3) := by decide +kernel
theorem d_Model_inTime_24 : decode b_Model_inTime 24 = .ok (.iload_n 2, 1) := by decide +kernel
theorem d_Model_inTime_25 : decode b_Model_inTime 25 = .ok (.iload 5, 2) := by decide +kernel
theorem d_Model_inTime_27 : decode b_Model_inTime 27 = .ok (.invokestatic 248, 3) := by decide +kernel
theorem d_Model_inTime_30 : decode b_Model_inTime 30 = .ok (.ifCond .eq 32, 3) := by decide +kernel
theorem d_Model_inTime_33 : decode b_Model_inTime 33 = .ok (.iload 4, 2) := by decide +kernel
theorem d_Model_inTime_35 : decode b_Model_inTime 35 = .ok (.bipush (-9), 2) := by decide +kernel
theorem d_Model_inTime_37 : decode b_Model_inTime 37 = .ok (.if_icmp .eq 20, 3) := by decide +kernel
theorem d_Model_inTime_40 : decode b_Model_inTime 40 = .ok (.aload_n 0, 1) := by decide +kernel
theorem d_Model_inTime_41 : decode b_Model_inTime 41 = .ok (.getfield 102, 3) := by decide +kernel
theorem d_Model_inTime_44 : decode b_Model_inTime 44 = .ok (.iload 5, 2) := by decide +kernel
theorem d_Model_inTime_46 : decode b_Model_inTime 46 = .ok (.iaload, 1) := by decide +kernel
theorem d_Model_inTime_47 : decode b_Model_inTime 47 = .ok (.aload_n 0, 1) := by decide +kernel
theorem d_Model_inTime_48 : decode b_Model_inTime 48 = .ok (.getfield 102, 3) := by decide +kernel
theorem d_Model_inTime_51 : decode b_Model_inTime 51 = .ok (.iload 4, 2) := by decide +kernel
theorem d_Model_inTime_53 : decode b_Model_inTime 53 = .ok (.iaload, 1) := by decide +kernel
theorem d_Model_inTime_54 : decode b_Model_inTime 54 = .ok (.if_icmp .ge 8, 3) := by decide +kernel
theorem d_Model_inTime_57 : decode b_Model_inTime 57 = .ok (.iload 5, 2) := by decide +kernel
theorem d_Model_inTime_59 : decode b_Model_inTime 59 = .ok (.goto 5, 3) := by decide +kernel
theorem d_Model_inTime_62 : decode b_Model_inTime 62 = .ok (.iload 4, 2) := by decide +kernel
theorem d_Model_inTime_64 : decode b_Model_inTime 64 = .ok (.istore 4, 2) := by decide +kernel
theorem d_Model_inTime_66 : decode b_Model_inTime 66 = .ok (.iinc 5 1, 3) := by decide +kernel
theorem d_Model_inTime_69 : decode b_Model_inTime 69 = .ok (.goto (-54), 3) := by decide +kernel
theorem d_Model_inTime_72 : decode b_Model_inTime 72 = .ok (.iload_n 3, 1) := by decide +kernel
theorem d_Model_inTime_73 : decode b_Model_inTime 73 = .ok (.aload_n 0, 1) := by decide +kernel
theorem d_Model_inTime_74 : decode b_Model_inTime 74 = .ok (.getfield 99, 3) := by decide +kernel
theorem d_Model_inTime_77 : decode b_Model_inTime 77 = .ok (.iload 4, 2) := by decide +kernel
theorem d_Model_inTime_79 : decode b_Model_inTime 79 = .ok (.iaload, 1) := by decide +kernel
theorem d_Model_inTime_80 : decode b_Model_inTime 80 = .ok (.iadd, 1) := by decide +kernel
theorem d_Model_inTime_81 : decode b_Model_inTime 81 = .ok (.istore_n 3, 1) := by decide +kernel
theorem d_Model_inTime_82 : decode b_Model_inTime 82 = .ok (.iload_n 3, 1) := by decide +kernel
theorem d_Model_inTime_83 : decode b_Model_inTime 83 = .ok (.aload_n 0, 1) := by decide +kernel
theorem d_Model_inTime_84 : decode b_Model_inTime 84 = .ok (.getfield 102, 3) := by decide +kernel
theorem d_Model_inTime_87 : decode b_Model_inTime 87 = .ok (.iload 4, 2) := by decide +kernel
theorem d_Model_inTime_89 : decode b_Model_inTime 89 = .ok (.iaload, 1) := by decide +kernel
theorem d_Model_inTime_90 : decode b_Model_inTime 90 = .ok (.if_icmp .le 5, 3) := by decide +kernel
theorem d_Model_inTime_93 : decode b_Model_inTime 93 = .ok (.iconst 0, 1) := by decide +kernel
theorem d_Model_inTime_94 : decode b_Model_inTime 94 = .ok (.ireturn, 1) := by decide +kernel
theorem d_Model_inTime_95 : decode b_Model_inTime 95 = .ok (.iload_n 2, 1) := by decide +kernel
theorem d_Model_inTime_96 : decode b_Model_inTime 96 = .ok (.iconst 1, 1) := by decide +kernel
theorem d_Model_inTime_97 : decode b_Model_inTime 97 = .ok (.iload 4, 2) := by decide +kernel
theorem d_Model_inTime_99 : decode b_Model_inTime 99 = .ok (.ishl, 1) := by decide +kernel
theorem d_Model_inTime_100 : decode b_Model_inTime 100 = .ok (.iconst (-1), 1) := by decide +kernel
theorem d_Model_inTime_101 : decode b_Model_inTime 101 = .ok (.ixor, 1) := by decide +kernel
theorem d_Model_inTime_102 : decode b_Model_inTime 102 = .ok (.iand, 1) := by decide +kernel
theorem d_Model_inTime_103 : decode b_Model_inTime 103 = .ok (.istore_n 2, 1) := by decide +kernel
theorem d_Model_inTime_104 : decode b_Model_inTime 104 = .ok (.goto (-100), 3) := by decide +kernel
theorem d_Model_inTime_107 : decode b_Model_inTime 107 = .ok (.iconst 1, 1) := by decide +kernel
theorem d_Model_inTime_108 : decode b_Model_inTime 108 = .ok (.ireturn, 1) := by decide +kernel
abbrev b_Model_done : ByteArray := prog_11_method_89_code
abbrev y_Model_done : MethodName := ⟨"RiverTuesdaysModel", "done", "(II)I"⟩
theorem ok_Model_done : okV y_Model_done b_Model_done 6 (some .int) 2 9 := ⟨mGW (List.mem_of_getElem? (i := 1552) (by decide +kernel)) rfl, mGW (List.mem_of_getElem? (i := 1553) (by decide +kernel)) rfl, mGW (List.mem_of_getElem? (i := 83) (by decide +kernel)) rfl, mGW (List.mem_of_getElem? (i := 1554) (by decide +kernel)) rfl, ⟨by decide, by decide, by decide +kernel⟩, rfl⟩
theorem d_Model_done_0 : decode b_Model_done 0 = .ok (.iload_n 1, 1) := by decide +kernel
theorem d_Model_done_1 : decode b_Model_done 1 = .ok (.invokestatic 125, 3) := by decide +kernel
theorem d_Model_done_4 : decode b_Model_done 4 = .ok (.ifCond .eq 10, 3) := by decide +kernel
theorem d_Model_done_7 : decode b_Model_done 7 = .ok (.iload_n 2, 1) := by decide +kernel
theorem d_Model_done_8 : decode b_Model_done 8 = .ok (.invokestatic 125, 3) := by decide +kernel
theorem d_Model_done_11 : decode b_Model_done 11 = .ok (.ifCond .ne 5, 3) := by decide +kernel
theorem d_Model_done_14 : decode b_Model_done 14 = .ok (.iconst (-1), 1) := by decide +kernel
theorem d_Model_done_15 : decode b_Model_done 15 = .ok (.ireturn, 1) := by decide +kernel
theorem d_Model_done_16 : decode b_Model_done 16 = .ok (.aload_n 0, 1) := by decide +kernel
theorem d_Model_done_17 : decode b_Model_done 17 = .ok (.iload_n 1, 1) := by decide +kernel
theorem d_Model_done_18 : decode b_Model_done 18 = .ok (.iload_n 2, 1) := by decide +kernel
theorem d_Model_done_19 : decode b_Model_done 19 = .ok (.invokevirtual 325, 3) := by decide +kernel
theorem d_Model_done_22 : decode b_Model_done 22 = .ok (.istore_n 3, 1) := by decide +kernel
theorem d_Model_done_23 : decode b_Model_done 23 = .ok (.iload_n 3, 1) := by decide +kernel
theorem d_Model_done_24 : decode b_Model_done 24 = .ok (.ifCond .ge 5, 3) := by decide +kernel
theorem d_Model_done_27 : decode b_Model_done 27 = .ok (.iload_n 3, 1) := by decide +kernel
theorem d_Model_done_28 : decode b_Model_done 28 = .ok (.ireturn, 1) := by decide +kernel
theorem d_Model_done_29 : decode b_Model_done 29 = .ok (.iconst 0, 1) := by decide +kernel
theorem d_Model_done_30 : decode b_Model_done 30 = .ok (.istore 4, 2) := by decide +kernel
theorem d_Model_done_32 : decode b_Model_done 32 = .ok (.iconst 1, 1) := by decide +kernel
theorem d_Model_done_33 : decode b_Model_done 33 = .ok (.istore 5, 2) := by decide +kernel
theorem d_Model_done_35 : decode b_Model_done 35 = .ok (.iload 5, 2) := by decide +kernel
theorem d_Model_done_37 : decode b_Model_done 37 = .ok (.iconst 1, 1) := by decide +kernel
theorem d_Model_done_38 : decode b_Model_done 38 = .ok (.aload_n 0, 1) := by decide +kernel
theorem d_Model_done_39 : decode b_Model_done 39 = .ok (.getfield 315, 3) := by decide +kernel
theorem d_Model_done_42 : decode b_Model_done 42 = .ok (.ishl, 1) := by decide +kernel
theorem d_Model_done_43 : decode b_Model_done 43 = .ok (.if_icmp .ge 40, 3) := by decide +kernel
theorem d_Model_done_46 : decode b_Model_done 46 = .ok (.iload 5, 2) := by decide +kernel
theorem d_Model_done_48 : decode b_Model_done 48 = .ok (.invokestatic 285, 3) := by decide +kernel
theorem d_Model_done_51 : decode b_Model_done 51 = .ok (.iload 4, 2) := by decide +kernel
theorem d_Model_done_53 : decode b_Model_done 53 = .ok (.invokestatic 285, 3) := by decide +kernel
theorem d_Model_done_56 : decode b_Model_done 56 = .ok (.if_icmp .le 17, 3) := by decide +kernel
theorem d_Model_done_59 : decode b_Model_done 59 = .ok (.aload_n 0, 1) := by decide +kernel
theorem d_Model_done_60 : decode b_Model_done 60 = .ok (.iload 5, 2) := by decide +kernel
theorem d_Model_done_62 : decode b_Model_done 62 = .ok (.invokevirtual 329, 3) := by decide +kernel
theorem d_Model_done_65 : decode b_Model_done 65 = .ok (.ifCond .eq 8, 3) := by decide +kernel
theorem d_Model_done_68 : decode b_Model_done 68 = .ok (.iload 5, 2) := by decide +kernel
theorem d_Model_done_70 : decode b_Model_done 70 = .ok (.goto 5, 3) := by decide +kernel
theorem d_Model_done_73 : decode b_Model_done 73 = .ok (.iload 4, 2) := by decide +kernel
theorem d_Model_done_75 : decode b_Model_done 75 = .ok (.istore 4, 2) := by decide +kernel
theorem d_Model_done_77 : decode b_Model_done 77 = .ok (.iinc 5 1, 3) := by decide +kernel
theorem d_Model_done_80 : decode b_Model_done 80 = .ok (.goto (-45), 3) := by decide +kernel
theorem d_Model_done_83 : decode b_Model_done 83 = .ok (.aload_n 0, 1) := by decide +kernel
theorem d_Model_done_84 : decode b_Model_done 84 = .ok (.iload 4, 2) := by decide +kernel
theorem d_Model_done_86 : decode b_Model_done 86 = .ok (.iload 4, 2) := by decide +kernel
theorem d_Model_done_88 : decode b_Model_done 88 = .ok (.invokestatic 285, 3) := by decide +kernel
theorem d_Model_done_91 : decode b_Model_done 91 = .ok (.invokevirtual 137, 3) := by decide +kernel
theorem d_Model_done_94 : decode b_Model_done 94 = .ok (.ireturn, 1) := by decide +kernel
abbrev b_Model_calendar : ByteArray := prog_11_method_90_code
abbrev y_Model_calendar : MethodName := ⟨"RiverTuesdaysModel", "calendar", "(IIII)I"⟩
theorem ok_Model_calendar : okV y_Model_calendar b_Model_calendar 9 (some .int) 4 9 := ⟨mGW (List.mem_of_getElem? (i := 1560) (by decide +kernel)) rfl, mGW (List.mem_of_getElem? (i := 1561) (by decide +kernel)) rfl, mGW (List.mem_of_getElem? (i := 83) (by decide +kernel)) rfl, mGW (List.mem_of_getElem? (i := 1562) (by decide +kernel)) rfl, ⟨by decide, by decide, by decide +kernel⟩, rfl⟩
theorem d_Model_calendar_0 : decode b_Model_calendar 0 = .ok (.iload_n 1, 1) := by decide +kernel
theorem d_Model_calendar_1 : decode b_Model_calendar 1 = .ok (.iconst 0, 1) := by decide +kernel
theorem d_Model_calendar_2 : decode b_Model_calendar 2 = .ok (.sipush 9999, 3) := by decide +kernel
theorem d_Model_calendar_5 : decode b_Model_calendar 5 = .ok (.invokestatic 118, 3) := by decide +kernel
theorem d_Model_calendar_8 : decode b_Model_calendar 8 = .ok (.ifCond .eq 32, 3) := by decide +kernel
theorem d_Model_calendar_11 : decode b_Model_calendar 11 = .ok (.iload_n 2, 1) := by decide +kernel
theorem d_Model_calendar_12 : decode b_Model_calendar 12 = .ok (.iconst 1, 1) := by decide +kernel
theorem d_Model_calendar_13 : decode b_Model_calendar 13 = .ok (.bipush 30, 2) := by decide +kernel
theorem d_Model_calendar_15 : decode b_Model_calendar 15 = .ok (.invokestatic 118, 3) := by decide +kernel
theorem d_Model_calendar_18 : decode b_Model_calendar 18 = .ok (.ifCond .eq 22, 3) := by decide +kernel
theorem d_Model_calendar_21 : decode b_Model_calendar 21 = .ok (.iload_n 3, 1) := by decide +kernel
theorem d_Model_calendar_22 : decode b_Model_calendar 22 = .ok (.invokestatic 125, 3) := by decide +kernel
theorem d_Model_calendar_25 : decode b_Model_calendar 25 = .ok (.ifCond .eq 15, 3) := by decide +kernel
theorem d_Model_calendar_28 : decode b_Model_calendar 28 = .ok (.iload 4, 2) := by decide +kernel
theorem d_Model_calendar_30 : decode b_Model_calendar 30 = .ok (.bipush (-9), 2) := by decide +kernel
theorem d_Model_calendar_32 : decode b_Model_calendar 32 = .ok (.bipush 9, 2) := by decide +kernel
theorem d_Model_calendar_34 : decode b_Model_calendar 34 = .ok (.invokestatic 118, 3) := by decide +kernel
theorem d_Model_calendar_37 : decode b_Model_calendar 37 = .ok (.ifCond .ne 5, 3) := by decide +kernel
theorem d_Model_calendar_40 : decode b_Model_calendar 40 = .ok (.iconst (-1), 1) := by decide +kernel
theorem d_Model_calendar_41 : decode b_Model_calendar 41 = .ok (.ireturn, 1) := by decide +kernel
theorem d_Model_calendar_42 : decode b_Model_calendar 42 = .ok (.aload_n 0, 1) := by decide +kernel
theorem d_Model_calendar_43 : decode b_Model_calendar 43 = .ok (.getfield 13, 3) := by decide +kernel
theorem d_Model_calendar_46 : decode b_Model_calendar 46 = .ok (.iload_n 3, 1) := by decide +kernel
theorem d_Model_calendar_47 : decode b_Model_calendar 47 = .ok (.iaload, 1) := by decide +kernel
theorem d_Model_calendar_48 : decode b_Model_calendar 48 = .ok (.ifCond .ge 9, 3) := by decide +kernel
theorem d_Model_calendar_51 : decode b_Model_calendar 51 = .ok (.aload_n 0, 1) := by decide +kernel
theorem d_Model_calendar_52 : decode b_Model_calendar 52 = .ok (.iconst 1, 1) := by decide +kernel
theorem d_Model_calendar_53 : decode b_Model_calendar 53 = .ok (.invokevirtual 129, 3) := by decide +kernel
theorem d_Model_calendar_56 : decode b_Model_calendar 56 = .ok (.ireturn, 1) := by decide +kernel
theorem d_Model_calendar_57 : decode b_Model_calendar 57 = .ok (.iconst 1, 1) := by decide +kernel
theorem d_Model_calendar_58 : decode b_Model_calendar 58 = .ok (.istore 5, 2) := by decide +kernel
theorem d_Model_calendar_60 : decode b_Model_calendar 60 = .ok (.iconst 0, 1) := by decide +kernel
theorem d_Model_calendar_61 : decode b_Model_calendar 61 = .ok (.istore 6, 2) := by decide +kernel
theorem d_Model_calendar_63 : decode b_Model_calendar 63 = .ok (.iload 6, 2) := by decide +kernel
theorem d_Model_calendar_65 : decode b_Model_calendar 65 = .ok (.aload_n 0, 1) := by decide +kernel
theorem d_Model_calendar_66 : decode b_Model_calendar 66 = .ok (.getfield 13, 3) := by decide +kernel
theorem d_Model_calendar_69 : decode b_Model_calendar 69 = .ok (.iload_n 3, 1) := by decide +kernel
theorem d_Model_calendar_70 : decode b_Model_calendar 70 = .ok (.iaload, 1) := by decide +kernel
theorem d_Model_calendar_71 : decode b_Model_calendar 71 = .ok (.if_icmp .ge 38, 3) := by decide +kernel
theorem d_Model_calendar_74 : decode b_Model_calendar 74 = .ok (.iload 5, 2) := by decide +kernel
theorem d_Model_calendar_76 : decode b_Model_calendar 76 = .ok (.ifCond .eq 24, 3) := by decide +kernel
theorem d_Model_calendar_79 : decode b_Model_calendar 79 = .ok (.aload_n 0, 1) := by decide +kernel
theorem d_Model_calendar_80 : decode b_Model_calendar 80 = .ok (.iload_n 3, 1) := by decide +kernel
theorem d_Model_calendar_81 : decode b_Model_calendar 81 = .ok (.iload 6, 2) := by decide +kernel
theorem d_Model_calendar_83 : decode b_Model_calendar 83 = .ok (.invokevirtual 133, 3) := by decide +kernel
theorem d_Model_calendar_86 : decode b_Model_calendar 86 = .ok (.iconst 0, 1) := by decide +kernel
theorem d_Model_calendar_87 : decode b_Model_calendar 87 = .ok (.iload_n 2, 1) := by decide +kernel
theorem d_Model_calendar_88 : decode b_Model_calendar 88 = .ok (.iconst 1, 1) := by decide +kernel
theorem d_Model_calendar_89 : decode b_Model_calendar 89 = .ok (.isub, 1) := by decide +kernel
theorem d_Model_calendar_90 : decode b_Model_calendar 90 = .ok (.invokestatic 118, 3) := by decide +kernel
theorem d_Model_calendar_93 : decode b_Model_calendar 93 = .ok (.ifCond .eq 7, 3) := by decide +kernel
theorem d_Model_calendar_96 : decode b_Model_calendar 96 = .ok (.iconst 1, 1) := by decide +kernel
theorem d_Model_calendar_97 : decode b_Model_calendar 97 = .ok (.goto 4, 3) := by decide +kernel
theorem d_Model_calendar_100 : decode b_Model_calendar 100 = .ok (.iconst 0, 1) := by decide +kernel
theorem d_Model_calendar_101 : decode b_Model_calendar 101 = .ok (.istore 5, 2) := by decide +kernel
theorem d_Model_calendar_103 : decode b_Model_calendar 103 = .ok (.iinc 6 1, 3) := by decide +kernel
theorem d_Model_calendar_106 : decode b_Model_calendar 106 = .ok (.goto (-43), 3) := by decide +kernel
theorem d_Model_calendar_109 : decode b_Model_calendar 109 = .ok (.iload 5, 2) := by decide +kernel
theorem d_Model_calendar_111 : decode b_Model_calendar 111 = .ok (.ifCond .ne 9, 3) := by decide +kernel
theorem d_Model_calendar_114 : decode b_Model_calendar 114 = .ok (.aload_n 0, 1) := by decide +kernel
theorem d_Model_calendar_115 : decode b_Model_calendar 115 = .ok (.iconst 3, 1) := by decide +kernel
theorem d_Model_calendar_116 : decode b_Model_calendar 116 = .ok (.invokevirtual 129, 3) := by decide +kernel
theorem d_Model_calendar_119 : decode b_Model_calendar 119 = .ok (.ireturn, 1) := by decide +kernel
theorem d_Model_calendar_120 : decode b_Model_calendar 120 = .ok (.iconst 0, 1) := by decide +kernel
theorem d_Model_calendar_121 : decode b_Model_calendar 121 = .ok (.istore 6, 2) := by decide +kernel
theorem d_Model_calendar_123 : decode b_Model_calendar 123 = .ok (.iconst 0, 1) := by decide +kernel
theorem d_Model_calendar_124 : decode b_Model_calendar 124 = .ok (.istore 7, 2) := by decide +kernel
theorem d_Model_calendar_126 : decode b_Model_calendar 126 = .ok (.iload 7, 2) := by decide +kernel
theorem d_Model_calendar_128 : decode b_Model_calendar 128 = .ok (.aload_n 0, 1) := by decide +kernel
theorem d_Model_calendar_129 : decode b_Model_calendar 129 = .ok (.getfield 13, 3) := by decide +kernel
theorem d_Model_calendar_132 : decode b_Model_calendar 132 = .ok (.iload_n 3, 1) := by decide +kernel
theorem d_Model_calendar_133 : decode b_Model_calendar 133 = .ok (.iaload, 1) := by decide +kernel
theorem d_Model_calendar_134 : decode b_Model_calendar 134 = .ok (.if_icmp .ge 47, 3) := by decide +kernel
theorem d_Model_calendar_137 : decode b_Model_calendar 137 = .ok (.aload_n 0, 1) := by decide +kernel
theorem d_Model_calendar_138 : decode b_Model_calendar 138 = .ok (.iload_n 3, 1) := by decide +kernel
theorem d_Model_calendar_139 : decode b_Model_calendar 139 = .ok (.iload 7, 2) := by decide +kernel
theorem d_Model_calendar_141 : decode b_Model_calendar 141 = .ok (.invokevirtual 133, 3) := by decide +kernel
theorem d_Model_calendar_144 : decode b_Model_calendar 144 = .ok (.iload_n 1, 1) := by decide +kernel
theorem d_Model_calendar_145 : decode b_Model_calendar 145 = .ok (.iload_n 2, 1) := by decide +kernel
theorem d_Model_calendar_146 : decode b_Model_calendar 146 = .ok (.idiv, 1) := by decide +kernel
theorem d_Model_calendar_147 : decode b_Model_calendar 147 = .ok (.iload 4, 2) := by decide +kernel
theorem d_Model_calendar_149 : decode b_Model_calendar 149 = .ok (.imul, 1) := by decide +kernel
theorem d_Model_calendar_150 : decode b_Model_calendar 150 = .ok (.iadd, 1) := by decide +kernel
theorem d_Model_calendar_151 : decode b_Model_calendar 151 = .ok (.iload_n 2, 1) := by decide +kernel
theorem d_Model_calendar_152 : decode b_Model_calendar 152 = .ok (.irem, 1) := by decide +kernel
theorem d_Model_calendar_153 : decode b_Model_calendar 153 = .ok (.istore 8, 2) := by decide +kernel
theorem d_Model_calendar_155 : decode b_Model_calendar 155 = .ok (.iload 8, 2) := by decide +kernel
theorem d_Model_calendar_157 : decode b_Model_calendar 157 = .ok (.iload_n 2, 1) := by decide +kernel
theorem d_Model_calendar_158 : decode b_Model_calendar 158 = .ok (.iadd, 1) := by decide +kernel
theorem d_Model_calendar_159 : decode b_Model_calendar 159 = .ok (.iload_n 2, 1) := by decide +kernel
theorem d_Model_calendar_160 : decode b_Model_calendar 160 = .ok (.irem, 1) := by decide +kernel
theorem d_Model_calendar_161 : decode b_Model_calendar 161 = .ok (.iload_n 1, 1) := by decide +kernel
theorem d_Model_calendar_162 : decode b_Model_calendar 162 = .ok (.iload_n 2, 1) := by decide +kernel
theorem d_Model_calendar_163 : decode b_Model_calendar 163 = .ok (.irem, 1) := by decide +kernel
theorem d_Model_calendar_164 : decode b_Model_calendar 164 = .ok (.if_icmp .ne 7, 3) := by decide +kernel
theorem d_Model_calendar_167 : decode b_Model_calendar 167 = .ok (.iconst 1, 1) := by decide +kernel
theorem d_Model_calendar_168 : decode b_Model_calendar 168 = .ok (.goto 5, 3) := by decide +kernel
theorem d_Model_calendar_171 : decode b_Model_calendar 171 = .ok (.iload 6, 2) := by decide +kernel
theorem d_Model_calendar_173 : decode b_Model_calendar 173 = .ok (.istore 6, 2) := by decide +kernel
theorem d_Model_calendar_175 : decode b_Model_calendar 175 = .ok (.iinc 7 1, 3) := by decide +kernel
theorem d_Model_calendar_178 : decode b_Model_calendar 178 = .ok (.goto (-52), 3) := by decide +kernel
theorem d_Model_calendar_181 : decode b_Model_calendar 181 = .ok (.iload 6, 2) := by decide +kernel
theorem d_Model_calendar_183 : decode b_Model_calendar 183 = .ok (.ireturn, 1) := by decide +kernel
def f_Model_stands (v1 : Int32) (D : Dt) : Option (Int32 × Dt) :=
  bnd (f_Model_needTuesday 1 v1 D) (fun x1 D2 => (if 0 ≤ x1 then bnd (f_Model_tells (D2 176 38) (D2 176 39) D2) (fun x3 D4 => some (x3, D4)) else some (x1, D2)))
set_option maxHeartbeats 4000000 in
theorem te_Model_stands {Γ : GmT} {G : Dt → Nat → List (Nat × Value) → List Value → Prop} {rr : Int32} {DD : Dt} (C : Cx Γ "RiverTuesdaysModel" b_Model_stands 3 8 (some .int) (some (.int rr)) DD G) {v1 : Int32} {D : Dt} (hf : f_Model_stands v1 D = some (rr, DD)) : G D 0 [(0, .ref (Γ.2.1 176)), (1, .int v1)] [] := by
  unfold f_Model_stands at hf
  refine r_aload_n (pc := 0) C 0 d_Model_stands_0 rfl rfl ?_
  refine r_iconst (pc := 1) C (v := 1) d_Model_stands_1 (by decide) ?_
  refine r_iload_n (pc := 2) C 1 d_Model_stands_2 rfl rfl ?_
  refine r_callVi (pc := 3) (As := [.int 1, .int v1]) (rest := []) C ok_Model_needTuesday Lm_Model_281 k_id176 (by decide) ⟨by decide, by decide⟩ rfl rfl (Nat.le_of_ble_eq_true rfl) d_Model_stands_3 hf (fun x D1 hc => c_Model_needTuesday Γ hc) (fun x1 D2 hf => ?_)
  refine r_istore_n (pc := 6) (lv' := [(2, .int x1), (0, .ref (Γ.2.1 176)), (1, .int v1)]) C d_Model_stands_6 rfl (Nat.le_of_ble_eq_true rfl) rfl ?_
  refine r_iload_n (pc := 7) C 0 d_Model_stands_7 rfl rfl ?_
  refine r_if_ge (pc := 8) C (tgt := 15) d_Model_stands_8 (by decide) hf (fun c8 hf => ?_) (fun c8 hf => ?_)
  · refine r_aload_n (pc := 15) C 1 d_Model_stands_15 rfl rfl ?_
    refine r_aload_n (pc := 16) C 1 d_Model_stands_16 rfl rfl ?_
    refine g_Model_outOf (pc := 17) C k_id176 Lf_Model_265 d_Model_stands_17 ?_
    refine r_aload_n (pc := 20) C 1 d_Model_stands_20 rfl rfl ?_
    refine g_Model_standsOf (pc := 21) C k_id176 Lf_Model_268 d_Model_stands_21 ?_
    refine r_callVi (pc := 24) (As := [.int (D2 176 38), .int (D2 176 39)]) (rest := []) C ok_Model_tells Lm_Model_137 k_id176 (by decide) ⟨by decide, by decide⟩ rfl rfl (Nat.le_of_ble_eq_true rfl) d_Model_stands_24 hf (fun x D1 hc => c_Model_tells Γ hc) (fun x3 D4 hf => ?_)
    exact r_iret (pc := 27) C d_Model_stands_27 hf
  · refine r_iload_n (pc := 11) C 0 d_Model_stands_11 rfl rfl ?_
    refine r_goto (pc := 12) C (tgt := 27) d_Model_stands_12 (by decide) ?_
    exact r_iret (pc := 27) C d_Model_stands_27 hf
theorem c_Model_stands (Γ : GmT) {v1 : Int32} {D : Dt} {rr : Int32} {DD : Dt} (hf : f_Model_stands v1 D = some (rr, DD)) : Mt Γ y_Model_stands b_Model_stands 3 (some .int) 8 [.ref (Γ.2.1 176), .int v1] D (some (.int rr)) DD := Mt_of (by decide) (Nat.le_of_ble_eq_true rfl) (fun G C => te_Model_stands C hf)
def s_Model_tuesday_40 (k40 : Int32 → Int32 → Dt → Option (Int32 × Dt)) (v1 : Int32) (v2 : Int32) (D : Dt) : Option (Int32 × Dt) :=
  (if 8 ≤ v2 then some (D 176 35, D) else bnd (f_Model_has v1 v2 D) (fun x5 D6 => bnd (f_Model_goesBy x5 D6) (fun x7 D8 => bnd (f_Model_meetsHour 0 v2 D8) (fun x9 D10 => k40 v1 (v2 + 1) D10))))
def lp_Model_tuesday_40 (n : Nat) : Int32 → Int32 → Dt → Option (Int32 × Dt) := itr (fun _ _ _ => none) (s_Model_tuesday_40) n
set_option maxHeartbeats 4000000 in
theorem ts_Model_tuesday_40 {Γ : GmT} {G : Dt → Nat → List (Nat × Value) → List Value → Prop} {rr : Int32} {DD : Dt} (C : Cx Γ "RiverTuesdaysModel" b_Model_tuesday 3 6 (some .int) (some (.int rr)) DD G) {k40 : Int32 → Int32 → Dt → Option (Int32 × Dt)} (hk40 : ∀ (v1 : Int32) (v2 : Int32) (D : Dt), k40 v1 v2 D = some (rr, DD) → G D 40 [(0, .ref (Γ.2.1 176)), (1, .int v1), (2, .int v2)] []) {v1 : Int32} {v2 : Int32} {D : Dt} (hf : s_Model_tuesday_40 k40 v1 v2 D = some (rr, DD)) : G D 40 [(0, .ref (Γ.2.1 176)), (1, .int v1), (2, .int v2)] [] := by
  unfold s_Model_tuesday_40 at hf
  refine r_iload_n (pc := 40) C 2 d_Model_tuesday_40 rfl rfl ?_
  refine r_bipush (pc := 41) C (v := 8) d_Model_tuesday_41 (by decide) ?_
  refine r_icmp_ge (pc := 43) C (tgt := 67) d_Model_tuesday_43 (by decide) hf (fun c43 hf => ?_) (fun c43 hf => ?_)
  · refine r_aload_n (pc := 67) C 0 d_Model_tuesday_67 rfl rfl ?_
    refine g_Model_harmOf (pc := 68) C k_id176 Lf_Model_242 d_Model_tuesday_68 ?_
    exact r_iret (pc := 71) C d_Model_tuesday_71 hf
  · refine r_aload_n (pc := 46) C 0 d_Model_tuesday_46 rfl rfl ?_
    refine r_iload_n (pc := 47) C 1 d_Model_tuesday_47 rfl rfl ?_
    refine r_iload_n (pc := 48) C 2 d_Model_tuesday_48 rfl rfl ?_
    refine r_callSi (pc := 49) (As := [.int v1, .int v2]) (rest := [.ref (Γ.2.1 176)]) C ok_Model_has Lm_Model_248 ⟨by decide, by decide⟩ rfl rfl (Nat.le_of_ble_eq_true rfl) d_Model_tuesday_49 hf (fun x D1 hc => c_Model_has Γ hc) (fun x5 D6 hf => ?_)
    refine r_callVv (pc := 52) (As := [.int x5]) (rest := []) C ok_Model_goesBy Lm_Model_232 k_id176 (by decide) ⟨by decide, by decide⟩ rfl rfl (Nat.le_of_ble_eq_true rfl) d_Model_tuesday_52 hf (fun x D1 hc => c_Model_goesBy Γ hc) (fun x7 D8 hf => ?_)
    refine r_aload_n (pc := 55) C 0 d_Model_tuesday_55 rfl rfl ?_
    refine r_iconst (pc := 56) C (v := 0) d_Model_tuesday_56 (by decide) ?_
    refine r_iload_n (pc := 57) C 2 d_Model_tuesday_57 rfl rfl ?_
    refine r_callVv (pc := 58) (As := [.int 0, .int v2]) (rest := []) C ok_Model_meetsHour Lm_Model_258 k_id176 (by decide) ⟨by decide, by decide⟩ rfl rfl (Nat.le_of_ble_eq_true rfl) d_Model_tuesday_58 hf (fun x D1 hc => c_Model_meetsHour Γ hc) (fun x9 D10 hf => ?_)
    refine r_iinc (pc := 61) C (v := v2 + 1) (lv' := [(2, .int (v2 + 1)), (0, .ref (Γ.2.1 176)), (1, .int v1)]) 2 d_Model_tuesday_61 rfl rfl (Nat.le_of_ble_eq_true rfl) rfl ?_
    refine r_goto (pc := 64) C (tgt := 40) d_Model_tuesday_64 (by decide) ?_
    exact r_lv (pc := 40) C [1, 2, 0] rfl (hk40 v1 (v2 + 1) D10 hf)
theorem tl_Model_tuesday_40 {Γ : GmT} {G : Dt → Nat → List (Nat × Value) → List Value → Prop} {rr : Int32} {DD : Dt} (C : Cx Γ "RiverTuesdaysModel" b_Model_tuesday 3 6 (some .int) (some (.int rr)) DD G) : ∀ (n : Nat) (v1 : Int32) (v2 : Int32) (D : Dt), lp_Model_tuesday_40 n v1 v2 D = some (rr, DD) → G D 40 [(0, .ref (Γ.2.1 176)), (1, .int v1), (2, .int v2)] [] := by
  intro n
  induction n with
  | zero =>
    intro v1 v2 D hf
    exact absurd (show (none : Option (Int32 × Dt)) = some (rr, DD) from hf) (by simp)
  | succ n ih =>
    intro v1 v2 D hf
    exact ts_Model_tuesday_40 C (k40 := lp_Model_tuesday_40 n) ih hf
def f_Model_tuesday (v1 : Int32) (D : Dt) : Option (Int32 × Dt) :=
  bnd (f_Model_isPlan v1 D) (fun x1 D2 => (if x1 = 0 then some ((-1), D2) else (if (D2 176 10) = 0 then some ((-4), D2) else (if ((D2 176 26) + 8) ≤ 60 then bnd (f_Model_noTuesday D2) (fun x3 D4 => lp_Model_tuesday_40 FU v1 0 D4) else some ((-2), D2)))))
set_option maxHeartbeats 4000000 in
theorem te_Model_tuesday {Γ : GmT} {G : Dt → Nat → List (Nat × Value) → List Value → Prop} {rr : Int32} {DD : Dt} (C : Cx Γ "RiverTuesdaysModel" b_Model_tuesday 3 6 (some .int) (some (.int rr)) DD G) {v1 : Int32} {D : Dt} (hf : f_Model_tuesday v1 D = some (rr, DD)) : G D 0 [(0, .ref (Γ.2.1 176)), (1, .int v1)] [] := by
  unfold f_Model_tuesday at hf
  refine r_iload_n (pc := 0) C 1 d_Model_tuesday_0 rfl rfl ?_
  refine r_callSi (pc := 1) (As := [.int v1]) (rest := []) C ok_Model_isPlan Lm_Model_275 ⟨by decide, by decide⟩ rfl rfl (Nat.le_of_ble_eq_true rfl) d_Model_tuesday_1 hf (fun x D1 hc => c_Model_isPlan Γ hc) (fun x1 D2 hf => ?_)
  refine r_if_ne (pc := 4) C (tgt := 9) d_Model_tuesday_4 (by decide) hf (fun c4 hf => ?_) (fun c4 hf => ?_)
  · refine r_aload_n (pc := 9) C 0 d_Model_tuesday_9 rfl rfl ?_
    refine g_Model_n (pc := 10) C k_id176 Lf_Model_176 d_Model_tuesday_10 ?_
    refine r_if_ne (pc := 13) C (tgt := 19) d_Model_tuesday_13 (by decide) hf (fun c13 hf => ?_) (fun c13 hf => ?_)
    · refine r_aload_n (pc := 19) C 0 d_Model_tuesday_19 rfl rfl ?_
      refine g_Model_hourMany (pc := 20) C k_id176 Lf_Model_189 d_Model_tuesday_20 ?_
      refine r_bipush (pc := 23) C (v := 8) d_Model_tuesday_23 (by decide) ?_
      refine r_iadd (pc := 25) C d_Model_tuesday_25 ?_
      refine r_bipush (pc := 26) C (v := 60) d_Model_tuesday_26 (by decide) ?_
      refine r_icmp_le (pc := 28) C (tgt := 34) d_Model_tuesday_28 (by decide) hf (fun c28 hf => ?_) (fun c28 hf => ?_)
      · refine r_aload_n (pc := 34) C 0 d_Model_tuesday_34 rfl rfl ?_
        refine r_callVv (pc := 35) (As := []) (rest := []) C ok_Model_noTuesday Lm_Model_252 k_id176 (by decide) ⟨by decide, by decide⟩ rfl rfl (Nat.le_of_ble_eq_true rfl) d_Model_tuesday_35 hf (fun x D1 hc => c_Model_noTuesday Γ hc) (fun x3 D4 hf => ?_)
        refine r_iconst (pc := 38) C (v := 0) d_Model_tuesday_38 (by decide) ?_
        refine r_istore_n (pc := 39) (lv' := [(2, .int 0), (0, .ref (Γ.2.1 176)), (1, .int v1)]) C d_Model_tuesday_39 rfl (Nat.le_of_ble_eq_true rfl) rfl ?_
        exact r_lv (pc := 40) C [1, 2, 0] rfl (tl_Model_tuesday_40 C FU v1 0 D4 hf)
      · refine r_bipush (pc := 31) C (v := (-2)) d_Model_tuesday_31 (by decide) ?_
        exact r_iret (pc := 33) C d_Model_tuesday_33 hf
    · refine r_bipush (pc := 16) C (v := (-4)) d_Model_tuesday_16 (by decide) ?_
      exact r_iret (pc := 18) C d_Model_tuesday_18 hf
  · refine r_iconst (pc := 7) C (v := (-1)) d_Model_tuesday_7 (by decide) ?_
    exact r_iret (pc := 8) C d_Model_tuesday_8 hf
theorem c_Model_tuesday (Γ : GmT) {v1 : Int32} {D : Dt} {rr : Int32} {DD : Dt} (hf : f_Model_tuesday v1 D = some (rr, DD)) : Mt Γ y_Model_tuesday b_Model_tuesday 3 (some .int) 6 [.ref (Γ.2.1 176), .int v1] D (some (.int rr)) DD := Mt_of (by decide) (Nat.le_of_ble_eq_true rfl) (fun G C => te_Model_tuesday C hf)
def b_Model_most_101 (k33 : Int32 → Int32 → Int32 → Int32 → Int32 → Dt → Option (Int32 × Dt)) (v1 : Int32) (v2 : Int32) (v3 : Int32) (v4 : Int32) (v5 : Int32) (D : Dt) : Option (Int32 × Dt) :=
  k33 v1 v2 v3 v4 (v5 + 1) D
set_option maxHeartbeats 4000000 in
theorem tb_Model_most_101 {Γ : GmT} {G : Dt → Nat → List (Nat × Value) → List Value → Prop} {rr : Int32} {DD : Dt} (C : Cx Γ "RiverTuesdaysModel" b_Model_most 6 7 (some .int) (some (.int rr)) DD G) {k33 : Int32 → Int32 → Int32 → Int32 → Int32 → Dt → Option (Int32 × Dt)} (hk33 : ∀ (v1 : Int32) (v2 : Int32) (v3 : Int32) (v4 : Int32) (v5 : Int32) (D : Dt), k33 v1 v2 v3 v4 v5 D = some (rr, DD) → G D 33 [(0, .ref (Γ.2.1 176)), (1, .int v1), (2, .int v2), (3, .int v3), (4, .int v4), (5, .int v5)] []) {v1 : Int32} {v2 : Int32} {v3 : Int32} {v4 : Int32} {v5 : Int32} {D : Dt} (hf : b_Model_most_101 k33 v1 v2 v3 v4 v5 D = some (rr, DD)) : G D 101 [(0, .ref (Γ.2.1 176)), (1, .int v1), (2, .int v2), (3, .int v3), (4, .int v4), (5, .int v5)] [] := by
  unfold b_Model_most_101 at hf
  refine r_iinc (pc := 101) C (v := v5 + 1) (lv' := [(5, .int (v5 + 1)), (0, .ref (Γ.2.1 176)), (1, .int v1), (2, .int v2), (3, .int v3), (4, .int v4)]) 5 d_Model_most_101 rfl rfl (Nat.le_of_ble_eq_true rfl) rfl ?_
  refine r_goto (pc := 104) C (tgt := 33) d_Model_most_104 (by decide) ?_
  exact r_lv (pc := 33) C [1, 2, 3, 4, 5, 0] rfl (hk33 v1 v2 v3 v4 (v5 + 1) D hf)
def b_Model_most_87 (k33 : Int32 → Int32 → Int32 → Int32 → Int32 → Dt → Option (Int32 × Dt)) (v1 : Int32) (v5 : Int32) (D : Dt) : Option (Int32 × Dt) :=
  b_Model_most_101 k33 v1 v5 (D 176 36) (D 176 35) v5 D
set_option maxHeartbeats 4000000 in
theorem tb_Model_most_87 {Γ : GmT} {G : Dt → Nat → List (Nat × Value) → List Value → Prop} {rr : Int32} {DD : Dt} (C : Cx Γ "RiverTuesdaysModel" b_Model_most 6 7 (some .int) (some (.int rr)) DD G) {k33 : Int32 → Int32 → Int32 → Int32 → Int32 → Dt → Option (Int32 × Dt)} (hk33 : ∀ (v1 : Int32) (v2 : Int32) (v3 : Int32) (v4 : Int32) (v5 : Int32) (D : Dt), k33 v1 v2 v3 v4 v5 D = some (rr, DD) → G D 33 [(0, .ref (Γ.2.1 176)), (1, .int v1), (2, .int v2), (3, .int v3), (4, .int v4), (5, .int v5)] []) {v1 : Int32} {v5 : Int32} {D : Dt} (hf : b_Model_most_87 k33 v1 v5 D = some (rr, DD)) : G D 87 [(0, .ref (Γ.2.1 176)), (1, .int v1), (5, .int v5)] [] := by
  unfold b_Model_most_87 at hf
  refine r_iload (pc := 87) C 2 d_Model_most_87 rfl ?_
  refine r_istore_n (pc := 89) (lv' := [(2, .int v5), (0, .ref (Γ.2.1 176)), (1, .int v1), (5, .int v5)]) C d_Model_most_89 rfl (Nat.le_of_ble_eq_true rfl) rfl ?_
  refine r_aload_n (pc := 90) C 1 d_Model_most_90 rfl rfl ?_
  refine g_Model_groundOf (pc := 91) C k_id176 Lf_Model_262 d_Model_most_91 ?_
  refine r_istore_n (pc := 94) (lv' := [(3, .int (D 176 36)), (2, .int v5), (0, .ref (Γ.2.1 176)), (1, .int v1), (5, .int v5)]) C d_Model_most_94 rfl (Nat.le_of_ble_eq_true rfl) rfl ?_
  refine r_aload_n (pc := 95) C 2 d_Model_most_95 rfl rfl ?_
  refine g_Model_harmOf (pc := 96) C k_id176 Lf_Model_242 d_Model_most_96 ?_
  refine r_istore (pc := 99) (lv' := [(4, .int (D 176 35)), (3, .int (D 176 36)), (2, .int v5), (0, .ref (Γ.2.1 176)), (1, .int v1), (5, .int v5)]) C d_Model_most_99 (Nat.le_of_ble_eq_true rfl) rfl ?_
  exact r_lv (pc := 101) C [3, 4, 2, 1, 0, 5] rfl (tb_Model_most_101 C hk33 hf)
def s_Model_most_33 (k33 : Int32 → Int32 → Int32 → Int32 → Int32 → Dt → Option (Int32 × Dt)) (v1 : Int32) (v2 : Int32) (v3 : Int32) (v4 : Int32) (v5 : Int32) (D : Dt) : Option (Int32 × Dt) :=
  (if 256 ≤ v5 then bnd (f_Model_tells v3 v2 D) (fun x3 D4 => some (x3, D4)) else bnd (f_Model_bits v5 D) (fun x5 D6 => (if x5 = v1 then bnd (f_Model_layTuesday v5 D6) (fun x7 D8 => (if v2 = (-9) then b_Model_most_87 k33 v1 v5 D8 else (if v3 < (D8 176 36) then b_Model_most_87 k33 v1 v5 D8 else (if (D8 176 36) = v3 then (if v4 ≤ (D8 176 35) then b_Model_most_101 k33 v1 v2 v3 v4 v5 D8 else b_Model_most_87 k33 v1 v5 D8) else b_Model_most_101 k33 v1 v2 v3 v4 v5 D8)))) else b_Model_most_101 k33 v1 v2 v3 v4 v5 D6)))
def lp_Model_most_33 (n : Nat) : Int32 → Int32 → Int32 → Int32 → Int32 → Dt → Option (Int32 × Dt) := itr (fun _ _ _ _ _ _ => none) (s_Model_most_33) n
set_option maxHeartbeats 4000000 in
theorem ts_Model_most_33 {Γ : GmT} {G : Dt → Nat → List (Nat × Value) → List Value → Prop} {rr : Int32} {DD : Dt} (C : Cx Γ "RiverTuesdaysModel" b_Model_most 6 7 (some .int) (some (.int rr)) DD G) {k33 : Int32 → Int32 → Int32 → Int32 → Int32 → Dt → Option (Int32 × Dt)} (hk33 : ∀ (v1 : Int32) (v2 : Int32) (v3 : Int32) (v4 : Int32) (v5 : Int32) (D : Dt), k33 v1 v2 v3 v4 v5 D = some (rr, DD) → G D 33 [(0, .ref (Γ.2.1 176)), (1, .int v1), (2, .int v2), (3, .int v3), (4, .int v4), (5, .int v5)] []) {v1 : Int32} {v2 : Int32} {v3 : Int32} {v4 : Int32} {v5 : Int32} {D : Dt} (hf : s_Model_most_33 k33 v1 v2 v3 v4 v5 D = some (rr, DD)) : G D 33 [(0, .ref (Γ.2.1 176)), (1, .int v1), (2, .int v2), (3, .int v3), (4, .int v4), (5, .int v5)] [] := by
  unfold s_Model_most_33 at hf
  refine r_iload (pc := 33) C 5 d_Model_most_33 rfl ?_
  refine r_sipush (pc := 35) C (v := 256) d_Model_most_35 (by decide) ?_
  refine r_icmp_ge (pc := 38) C (tgt := 107) d_Model_most_38 (by decide) hf (fun c38 hf => ?_) (fun c38 hf => ?_)
  · refine r_aload_n (pc := 107) C 0 d_Model_most_107 rfl rfl ?_
    refine r_iload_n (pc := 108) C 3 d_Model_most_108 rfl rfl ?_
    refine r_iload_n (pc := 109) C 2 d_Model_most_109 rfl rfl ?_
    refine r_callVi (pc := 110) (As := [.int v3, .int v2]) (rest := []) C ok_Model_tells Lm_Model_137 k_id176 (by decide) ⟨by decide, by decide⟩ rfl rfl (Nat.le_of_ble_eq_true rfl) d_Model_most_110 hf (fun x D1 hc => c_Model_tells Γ hc) (fun x3 D4 hf => ?_)
    exact r_iret (pc := 113) C d_Model_most_113 hf
  · refine r_iload (pc := 41) C 5 d_Model_most_41 rfl ?_
    refine r_callSi (pc := 43) (As := [.int v5]) (rest := []) C ok_Model_bits Lm_Model_285 ⟨by decide, by decide⟩ rfl rfl (Nat.le_of_ble_eq_true rfl) d_Model_most_43 hf (fun x D1 hc => c_Model_bits Γ hc) (fun x5 D6 hf => ?_)
    refine r_iload_n (pc := 46) C 1 d_Model_most_46 rfl rfl ?_
    refine r_icmp_ne (pc := 47) C (tgt := 101) d_Model_most_47 (by decide) hf (fun c47 hf => ?_) (fun c47 hf => ?_)
    · exact r_lv (pc := 101) C [0, 1, 2, 3, 4, 5] rfl (tb_Model_most_101 C hk33 hf)
    · refine r_aload_n (pc := 50) C 0 d_Model_most_50 rfl rfl ?_
      refine r_iload (pc := 51) C 5 d_Model_most_51 rfl ?_
      refine r_callVv (pc := 53) (As := [.int v5]) (rest := []) C ok_Model_layTuesday Lm_Model_278 k_id176 (by decide) ⟨by decide, by decide⟩ rfl rfl (Nat.le_of_ble_eq_true rfl) d_Model_most_53 hf (fun x D1 hc => c_Model_layTuesday Γ hc) (fun x7 D8 hf => ?_)
      refine r_iload_n (pc := 56) C 2 d_Model_most_56 rfl rfl ?_
      refine r_bipush (pc := 57) C (v := (-9)) d_Model_most_57 (by decide) ?_
      refine r_icmp_eq (pc := 59) C (tgt := 87) d_Model_most_59 (by decide) hf (fun c59 hf => ?_) (fun c59 hf => ?_)
      · exact r_lv (pc := 87) C [0, 1, 5] rfl (tb_Model_most_87 C hk33 hf)
      · refine r_aload_n (pc := 62) C 0 d_Model_most_62 rfl rfl ?_
        refine g_Model_groundOf (pc := 63) C k_id176 Lf_Model_262 d_Model_most_63 ?_
        refine r_iload_n (pc := 66) C 3 d_Model_most_66 rfl rfl ?_
        refine r_icmp_gt (pc := 67) C (tgt := 87) d_Model_most_67 (by decide) hf (fun c67 hf => ?_) (fun c67 hf => ?_)
        · exact r_lv (pc := 87) C [0, 1, 5] rfl (tb_Model_most_87 C hk33 hf)
        · refine r_aload_n (pc := 70) C 0 d_Model_most_70 rfl rfl ?_
          refine g_Model_groundOf (pc := 71) C k_id176 Lf_Model_262 d_Model_most_71 ?_
          refine r_iload_n (pc := 74) C 3 d_Model_most_74 rfl rfl ?_
          refine r_icmp_ne (pc := 75) C (tgt := 101) d_Model_most_75 (by decide) hf (fun c75 hf => ?_) (fun c75 hf => ?_)
          · exact r_lv (pc := 101) C [0, 1, 2, 3, 4, 5] rfl (tb_Model_most_101 C hk33 hf)
          · refine r_aload_n (pc := 78) C 0 d_Model_most_78 rfl rfl ?_
            refine g_Model_harmOf (pc := 79) C k_id176 Lf_Model_242 d_Model_most_79 ?_
            refine r_iload (pc := 82) C 4 d_Model_most_82 rfl ?_
            refine r_icmp_ge (pc := 84) C (tgt := 101) d_Model_most_84 (by decide) hf (fun c84 hf => ?_) (fun c84 hf => ?_)
            · exact r_lv (pc := 101) C [0, 1, 2, 3, 4, 5] rfl (tb_Model_most_101 C hk33 hf)
            · exact r_lv (pc := 87) C [0, 1, 5] rfl (tb_Model_most_87 C hk33 hf)
theorem tl_Model_most_33 {Γ : GmT} {G : Dt → Nat → List (Nat × Value) → List Value → Prop} {rr : Int32} {DD : Dt} (C : Cx Γ "RiverTuesdaysModel" b_Model_most 6 7 (some .int) (some (.int rr)) DD G) : ∀ (n : Nat) (v1 : Int32) (v2 : Int32) (v3 : Int32) (v4 : Int32) (v5 : Int32) (D : Dt), lp_Model_most_33 n v1 v2 v3 v4 v5 D = some (rr, DD) → G D 33 [(0, .ref (Γ.2.1 176)), (1, .int v1), (2, .int v2), (3, .int v3), (4, .int v4), (5, .int v5)] [] := by
  intro n
  induction n with
  | zero =>
    intro v1 v2 v3 v4 v5 D hf
    exact absurd (show (none : Option (Int32 × Dt)) = some (rr, DD) from hf) (by simp)
  | succ n ih =>
    intro v1 v2 v3 v4 v5 D hf
    exact ts_Model_most_33 C (k33 := lp_Model_most_33 n) ih hf
def f_Model_most (v1 : Int32) (D : Dt) : Option (Int32 × Dt) :=
  bnd (f_Model_in v1 0 8 D) (fun x1 D2 => (if x1 = 0 then some ((-1), D2) else (if (D2 176 10) = 0 then some ((-4), D2) else lp_Model_most_33 FU v1 (-9) 0 0 0 D2)))
set_option maxHeartbeats 4000000 in
theorem te_Model_most {Γ : GmT} {G : Dt → Nat → List (Nat × Value) → List Value → Prop} {rr : Int32} {DD : Dt} (C : Cx Γ "RiverTuesdaysModel" b_Model_most 6 7 (some .int) (some (.int rr)) DD G) {v1 : Int32} {D : Dt} (hf : f_Model_most v1 D = some (rr, DD)) : G D 0 [(0, .ref (Γ.2.1 176)), (1, .int v1)] [] := by
  unfold f_Model_most at hf
  refine r_iload_n (pc := 0) C 1 d_Model_most_0 rfl rfl ?_
  refine r_iconst (pc := 1) C (v := 0) d_Model_most_1 (by decide) ?_
  refine r_bipush (pc := 2) C (v := 8) d_Model_most_2 (by decide) ?_
  refine r_callSi (pc := 4) (As := [.int v1, .int 0, .int 8]) (rest := []) C ok_Model_in Lm_Model_118 ⟨by decide, by decide⟩ rfl rfl (Nat.le_of_ble_eq_true rfl) d_Model_most_4 hf (fun x D1 hc => c_Model_in Γ hc) (fun x1 D2 hf => ?_)
  refine r_if_ne (pc := 7) C (tgt := 12) d_Model_most_7 (by decide) hf (fun c7 hf => ?_) (fun c7 hf => ?_)
  · refine r_aload_n (pc := 12) C 0 d_Model_most_12 rfl rfl ?_
    refine g_Model_n (pc := 13) C k_id176 Lf_Model_176 d_Model_most_13 ?_
    refine r_if_ne (pc := 16) C (tgt := 22) d_Model_most_16 (by decide) hf (fun c16 hf => ?_) (fun c16 hf => ?_)
    · refine r_bipush (pc := 22) C (v := (-9)) d_Model_most_22 (by decide) ?_
      refine r_istore_n (pc := 24) (lv' := [(2, .int ((-9))), (0, .ref (Γ.2.1 176)), (1, .int v1)]) C d_Model_most_24 rfl (Nat.le_of_ble_eq_true rfl) rfl ?_
      refine r_iconst (pc := 25) C (v := 0) d_Model_most_25 (by decide) ?_
      refine r_istore_n (pc := 26) (lv' := [(3, .int 0), (2, .int ((-9))), (0, .ref (Γ.2.1 176)), (1, .int v1)]) C d_Model_most_26 rfl (Nat.le_of_ble_eq_true rfl) rfl ?_
      refine r_iconst (pc := 27) C (v := 0) d_Model_most_27 (by decide) ?_
      refine r_istore (pc := 28) (lv' := [(4, .int 0), (3, .int 0), (2, .int ((-9))), (0, .ref (Γ.2.1 176)), (1, .int v1)]) C d_Model_most_28 (Nat.le_of_ble_eq_true rfl) rfl ?_
      refine r_iconst (pc := 30) C (v := 0) d_Model_most_30 (by decide) ?_
      refine r_istore (pc := 31) (lv' := [(5, .int 0), (4, .int 0), (3, .int 0), (2, .int ((-9))), (0, .ref (Γ.2.1 176)), (1, .int v1)]) C d_Model_most_31 (Nat.le_of_ble_eq_true rfl) rfl ?_
      exact r_lv (pc := 33) C [4, 5, 3, 2, 1, 0] rfl (tl_Model_most_33 C FU v1 (-9) 0 0 0 D2 hf)
    · refine r_bipush (pc := 19) C (v := (-4)) d_Model_most_19 (by decide) ?_
      exact r_iret (pc := 21) C d_Model_most_21 hf
  · refine r_iconst (pc := 10) C (v := (-1)) d_Model_most_10 (by decide) ?_
    exact r_iret (pc := 11) C d_Model_most_11 hf
theorem c_Model_most (Γ : GmT) {v1 : Int32} {D : Dt} {rr : Int32} {DD : Dt} (hf : f_Model_most v1 D = some (rr, DD)) : Mt Γ y_Model_most b_Model_most 6 (some .int) 7 [.ref (Γ.2.1 176), .int v1] D (some (.int rr)) DD := Mt_of (by decide) (Nat.le_of_ble_eq_true rfl) (fun G C => te_Model_most C hf)
def b_Model_least_106 (k30 : Int32 → Int32 → Int32 → Int32 → Dt → Option (Int32 × Dt)) (v1 : Int32) (v2 : Int32) (v3 : Int32) (v4 : Int32) (D : Dt) : Option (Int32 × Dt) :=
  k30 v1 v2 v3 (v4 + 1) D
set_option maxHeartbeats 4000000 in
theorem tb_Model_least_106 {Γ : GmT} {G : Dt → Nat → List (Nat × Value) → List Value → Prop} {rr : Int32} {DD : Dt} (C : Cx Γ "RiverTuesdaysModel" b_Model_least 6 7 (some .int) (some (.int rr)) DD G) {k30 : Int32 → Int32 → Int32 → Int32 → Dt → Option (Int32 × Dt)} (hk30 : ∀ (v1 : Int32) (v2 : Int32) (v3 : Int32) (v4 : Int32) (D : Dt), k30 v1 v2 v3 v4 D = some (rr, DD) → G D 30 [(0, .ref (Γ.2.1 176)), (1, .int v1), (2, .int v2), (3, .int v3), (4, .int v4)] []) {v1 : Int32} {v2 : Int32} {v3 : Int32} {v4 : Int32} {D : Dt} (hf : b_Model_least_106 k30 v1 v2 v3 v4 D = some (rr, DD)) : G D 106 [(0, .ref (Γ.2.1 176)), (1, .int v1), (2, .int v2), (3, .int v3), (4, .int v4)] [] := by
  unfold b_Model_least_106 at hf
  refine r_iinc (pc := 106) C (v := v4 + 1) (lv' := [(4, .int (v4 + 1)), (0, .ref (Γ.2.1 176)), (1, .int v1), (2, .int v2), (3, .int v3)]) 4 d_Model_least_106 rfl rfl (Nat.le_of_ble_eq_true rfl) rfl ?_
  refine r_goto (pc := 109) C (tgt := 30) d_Model_least_109 (by decide) ?_
  exact r_lv (pc := 30) C [1, 2, 3, 4, 0] rfl (hk30 v1 v2 v3 (v4 + 1) D hf)
def b_Model_least_83 (k30 : Int32 → Int32 → Int32 → Int32 → Dt → Option (Int32 × Dt)) (v1 : Int32) (v2 : Int32) (v3 : Int32) (v4 : Int32) (s0 : Int32) (D : Dt) : Option (Int32 × Dt) :=
  (if (D 176 36) < v1 then b_Model_least_106 k30 v1 v2 v3 v4 D else (if s0 = 0 then b_Model_least_106 k30 v1 v2 v3 v4 D else b_Model_least_106 k30 v1 v4 (D 176 35) v4 D))
set_option maxHeartbeats 4000000 in
theorem tb_Model_least_83 {Γ : GmT} {G : Dt → Nat → List (Nat × Value) → List Value → Prop} {rr : Int32} {DD : Dt} (C : Cx Γ "RiverTuesdaysModel" b_Model_least 6 7 (some .int) (some (.int rr)) DD G) {k30 : Int32 → Int32 → Int32 → Int32 → Dt → Option (Int32 × Dt)} (hk30 : ∀ (v1 : Int32) (v2 : Int32) (v3 : Int32) (v4 : Int32) (D : Dt), k30 v1 v2 v3 v4 D = some (rr, DD) → G D 30 [(0, .ref (Γ.2.1 176)), (1, .int v1), (2, .int v2), (3, .int v3), (4, .int v4)] []) {v1 : Int32} {v2 : Int32} {v3 : Int32} {v4 : Int32} {s0 : Int32} {D : Dt} (hf : b_Model_least_83 k30 v1 v2 v3 v4 s0 D = some (rr, DD)) : G D 83 [(0, .ref (Γ.2.1 176)), (1, .int v1), (2, .int v2), (3, .int v3), (4, .int v4)] [.int s0] := by
  unfold b_Model_least_83 at hf
  refine r_istore (pc := 83) (lv' := [(5, .int s0), (0, .ref (Γ.2.1 176)), (1, .int v1), (2, .int v2), (3, .int v3), (4, .int v4)]) C d_Model_least_83 (Nat.le_of_ble_eq_true rfl) rfl ?_
  refine r_aload_n (pc := 85) C 1 d_Model_least_85 rfl rfl ?_
  refine g_Model_groundOf (pc := 86) C k_id176 Lf_Model_262 d_Model_least_86 ?_
  refine r_iload_n (pc := 89) C 2 d_Model_least_89 rfl rfl ?_
  refine r_icmp_lt (pc := 90) C (tgt := 106) d_Model_least_90 (by decide) hf (fun c90 hf => ?_) (fun c90 hf => ?_)
  · exact r_lv (pc := 106) C [1, 2, 3, 4, 5] rfl (tb_Model_least_106 C hk30 hf)
  · refine r_iload (pc := 93) C 0 d_Model_least_93 rfl ?_
    refine r_if_eq (pc := 95) C (tgt := 106) d_Model_least_95 (by decide) hf (fun c95 hf => ?_) (fun c95 hf => ?_)
    · exact r_lv (pc := 106) C [1, 2, 3, 4, 5] rfl (tb_Model_least_106 C hk30 hf)
    · refine r_iload (pc := 98) C 5 d_Model_least_98 rfl ?_
      refine r_istore_n (pc := 100) (lv' := [(2, .int v4), (5, .int s0), (0, .ref (Γ.2.1 176)), (1, .int v1), (3, .int v3), (4, .int v4)]) C d_Model_least_100 rfl (Nat.le_of_ble_eq_true rfl) rfl ?_
      refine r_aload_n (pc := 101) C 2 d_Model_least_101 rfl rfl ?_
      refine g_Model_harmOf (pc := 102) C k_id176 Lf_Model_242 d_Model_least_102 ?_
      refine r_istore_n (pc := 105) (lv' := [(3, .int (D 176 35)), (2, .int v4), (5, .int s0), (0, .ref (Γ.2.1 176)), (1, .int v1), (4, .int v4)]) C d_Model_least_105 rfl (Nat.le_of_ble_eq_true rfl) rfl ?_
      exact r_lv (pc := 106) C [3, 4, 1, 0, 5] rfl (tb_Model_least_106 C hk30 hf)
def b_Model_least_78 (k30 : Int32 → Int32 → Int32 → Int32 → Dt → Option (Int32 × Dt)) (v1 : Int32) (v2 : Int32) (v3 : Int32) (v4 : Int32) (D : Dt) : Option (Int32 × Dt) :=
  b_Model_least_83 k30 v1 v2 v3 v4 1 D
set_option maxHeartbeats 4000000 in
theorem tb_Model_least_78 {Γ : GmT} {G : Dt → Nat → List (Nat × Value) → List Value → Prop} {rr : Int32} {DD : Dt} (C : Cx Γ "RiverTuesdaysModel" b_Model_least 6 7 (some .int) (some (.int rr)) DD G) {k30 : Int32 → Int32 → Int32 → Int32 → Dt → Option (Int32 × Dt)} (hk30 : ∀ (v1 : Int32) (v2 : Int32) (v3 : Int32) (v4 : Int32) (D : Dt), k30 v1 v2 v3 v4 D = some (rr, DD) → G D 30 [(0, .ref (Γ.2.1 176)), (1, .int v1), (2, .int v2), (3, .int v3), (4, .int v4)] []) {v1 : Int32} {v2 : Int32} {v3 : Int32} {v4 : Int32} {D : Dt} (hf : b_Model_least_78 k30 v1 v2 v3 v4 D = some (rr, DD)) : G D 78 [(0, .ref (Γ.2.1 176)), (1, .int v1), (2, .int v2), (3, .int v3), (4, .int v4)] [] := by
  unfold b_Model_least_78 at hf
  refine r_iconst (pc := 78) C (v := 1) d_Model_least_78 (by decide) ?_
  refine r_goto (pc := 79) C (tgt := 83) d_Model_least_79 (by decide) ?_
  exact r_lv (pc := 83) C [0, 1, 2, 3, 4] rfl (tb_Model_least_83 C hk30 hf)
def b_Model_least_82 (k30 : Int32 → Int32 → Int32 → Int32 → Dt → Option (Int32 × Dt)) (v1 : Int32) (v2 : Int32) (v3 : Int32) (v4 : Int32) (D : Dt) : Option (Int32 × Dt) :=
  b_Model_least_83 k30 v1 v2 v3 v4 0 D
set_option maxHeartbeats 4000000 in
theorem tb_Model_least_82 {Γ : GmT} {G : Dt → Nat → List (Nat × Value) → List Value → Prop} {rr : Int32} {DD : Dt} (C : Cx Γ "RiverTuesdaysModel" b_Model_least 6 7 (some .int) (some (.int rr)) DD G) {k30 : Int32 → Int32 → Int32 → Int32 → Dt → Option (Int32 × Dt)} (hk30 : ∀ (v1 : Int32) (v2 : Int32) (v3 : Int32) (v4 : Int32) (D : Dt), k30 v1 v2 v3 v4 D = some (rr, DD) → G D 30 [(0, .ref (Γ.2.1 176)), (1, .int v1), (2, .int v2), (3, .int v3), (4, .int v4)] []) {v1 : Int32} {v2 : Int32} {v3 : Int32} {v4 : Int32} {D : Dt} (hf : b_Model_least_82 k30 v1 v2 v3 v4 D = some (rr, DD)) : G D 82 [(0, .ref (Γ.2.1 176)), (1, .int v1), (2, .int v2), (3, .int v3), (4, .int v4)] [] := by
  unfold b_Model_least_82 at hf
  refine r_iconst (pc := 82) C (v := 0) d_Model_least_82 (by decide) ?_
  exact r_lv (pc := 83) C [0, 1, 2, 3, 4] rfl (tb_Model_least_83 C hk30 hf)
def s_Model_least_30 (k30 : Int32 → Int32 → Int32 → Int32 → Dt → Option (Int32 × Dt)) (v1 : Int32) (v2 : Int32) (v3 : Int32) (v4 : Int32) (D : Dt) : Option (Int32 × Dt) :=
  (if 256 ≤ v4 then (if v2 = (-9) then some ((-9), D) else bnd (f_Model_tells v3 v2 D) (fun x3 D4 => some (x3, D4))) else bnd (f_Model_layTuesday v4 D) (fun x5 D6 => (if v2 = (-9) then b_Model_least_78 k30 v1 v2 v3 v4 D6 else (if (D6 176 35) < v3 then b_Model_least_78 k30 v1 v2 v3 v4 D6 else (if (D6 176 35) = v3 then bnd (f_Model_bits v4 D6) (fun x7 D8 => bnd (f_Model_bits v2 D8) (fun x9 D10 => (if x9 ≤ x7 then b_Model_least_82 k30 v1 v2 v3 v4 D10 else b_Model_least_78 k30 v1 v2 v3 v4 D10))) else b_Model_least_82 k30 v1 v2 v3 v4 D6)))))
def lp_Model_least_30 (n : Nat) : Int32 → Int32 → Int32 → Int32 → Dt → Option (Int32 × Dt) := itr (fun _ _ _ _ _ => none) (s_Model_least_30) n
set_option maxHeartbeats 4000000 in
theorem ts_Model_least_30 {Γ : GmT} {G : Dt → Nat → List (Nat × Value) → List Value → Prop} {rr : Int32} {DD : Dt} (C : Cx Γ "RiverTuesdaysModel" b_Model_least 6 7 (some .int) (some (.int rr)) DD G) {k30 : Int32 → Int32 → Int32 → Int32 → Dt → Option (Int32 × Dt)} (hk30 : ∀ (v1 : Int32) (v2 : Int32) (v3 : Int32) (v4 : Int32) (D : Dt), k30 v1 v2 v3 v4 D = some (rr, DD) → G D 30 [(0, .ref (Γ.2.1 176)), (1, .int v1), (2, .int v2), (3, .int v3), (4, .int v4)] []) {v1 : Int32} {v2 : Int32} {v3 : Int32} {v4 : Int32} {D : Dt} (hf : s_Model_least_30 k30 v1 v2 v3 v4 D = some (rr, DD)) : G D 30 [(0, .ref (Γ.2.1 176)), (1, .int v1), (2, .int v2), (3, .int v3), (4, .int v4)] [] := by
  unfold s_Model_least_30 at hf
  refine r_iload (pc := 30) C 4 d_Model_least_30 rfl ?_
  refine r_sipush (pc := 32) C (v := 256) d_Model_least_32 (by decide) ?_
  refine r_icmp_ge (pc := 35) C (tgt := 112) d_Model_least_35 (by decide) hf (fun c35 hf => ?_) (fun c35 hf => ?_)
  · refine r_iload_n (pc := 112) C 2 d_Model_least_112 rfl rfl ?_
    refine r_bipush (pc := 113) C (v := (-9)) d_Model_least_113 (by decide) ?_
    refine r_icmp_ne (pc := 115) C (tgt := 123) d_Model_least_115 (by decide) hf (fun c115 hf => ?_) (fun c115 hf => ?_)
    · refine r_aload_n (pc := 123) C 0 d_Model_least_123 rfl rfl ?_
      refine r_iload_n (pc := 124) C 3 d_Model_least_124 rfl rfl ?_
      refine r_iload_n (pc := 125) C 2 d_Model_least_125 rfl rfl ?_
      refine r_callVi (pc := 126) (As := [.int v3, .int v2]) (rest := []) C ok_Model_tells Lm_Model_137 k_id176 (by decide) ⟨by decide, by decide⟩ rfl rfl (Nat.le_of_ble_eq_true rfl) d_Model_least_126 hf (fun x D1 hc => c_Model_tells Γ hc) (fun x3 D4 hf => ?_)
      exact r_iret (pc := 129) C d_Model_least_129 hf
    · refine r_bipush (pc := 118) C (v := (-9)) d_Model_least_118 (by decide) ?_
      refine r_goto (pc := 120) C (tgt := 129) d_Model_least_120 (by decide) ?_
      exact r_iret (pc := 129) C d_Model_least_129 hf
  · refine r_aload_n (pc := 38) C 0 d_Model_least_38 rfl rfl ?_
    refine r_iload (pc := 39) C 4 d_Model_least_39 rfl ?_
    refine r_callVv (pc := 41) (As := [.int v4]) (rest := []) C ok_Model_layTuesday Lm_Model_278 k_id176 (by decide) ⟨by decide, by decide⟩ rfl rfl (Nat.le_of_ble_eq_true rfl) d_Model_least_41 hf (fun x D1 hc => c_Model_layTuesday Γ hc) (fun x5 D6 hf => ?_)
    refine r_iload_n (pc := 44) C 2 d_Model_least_44 rfl rfl ?_
    refine r_bipush (pc := 45) C (v := (-9)) d_Model_least_45 (by decide) ?_
    refine r_icmp_eq (pc := 47) C (tgt := 78) d_Model_least_47 (by decide) hf (fun c47 hf => ?_) (fun c47 hf => ?_)
    · exact r_lv (pc := 78) C [0, 1, 2, 3, 4] rfl (tb_Model_least_78 C hk30 hf)
    · refine r_aload_n (pc := 50) C 0 d_Model_least_50 rfl rfl ?_
      refine g_Model_harmOf (pc := 51) C k_id176 Lf_Model_242 d_Model_least_51 ?_
      refine r_iload_n (pc := 54) C 3 d_Model_least_54 rfl rfl ?_
      refine r_icmp_lt (pc := 55) C (tgt := 78) d_Model_least_55 (by decide) hf (fun c55 hf => ?_) (fun c55 hf => ?_)
      · exact r_lv (pc := 78) C [0, 1, 2, 3, 4] rfl (tb_Model_least_78 C hk30 hf)
      · refine r_aload_n (pc := 58) C 0 d_Model_least_58 rfl rfl ?_
        refine g_Model_harmOf (pc := 59) C k_id176 Lf_Model_242 d_Model_least_59 ?_
        refine r_iload_n (pc := 62) C 3 d_Model_least_62 rfl rfl ?_
        refine r_icmp_ne (pc := 63) C (tgt := 82) d_Model_least_63 (by decide) hf (fun c63 hf => ?_) (fun c63 hf => ?_)
        · exact r_lv (pc := 82) C [0, 1, 2, 3, 4] rfl (tb_Model_least_82 C hk30 hf)
        · refine r_iload (pc := 66) C 4 d_Model_least_66 rfl ?_
          refine r_callSi (pc := 68) (As := [.int v4]) (rest := []) C ok_Model_bits Lm_Model_285 ⟨by decide, by decide⟩ rfl rfl (Nat.le_of_ble_eq_true rfl) d_Model_least_68 hf (fun x D1 hc => c_Model_bits Γ hc) (fun x7 D8 hf => ?_)
          refine r_iload_n (pc := 71) C 2 d_Model_least_71 rfl rfl ?_
          refine r_callSi (pc := 72) (As := [.int v2]) (rest := [.int x7]) C ok_Model_bits Lm_Model_285 ⟨by decide, by decide⟩ rfl rfl (Nat.le_of_ble_eq_true rfl) d_Model_least_72 hf (fun x D1 hc => c_Model_bits Γ hc) (fun x9 D10 hf => ?_)
          refine r_icmp_ge (pc := 75) C (tgt := 82) d_Model_least_75 (by decide) hf (fun c75 hf => ?_) (fun c75 hf => ?_)
          · exact r_lv (pc := 82) C [0, 1, 2, 3, 4] rfl (tb_Model_least_82 C hk30 hf)
          · exact r_lv (pc := 78) C [0, 1, 2, 3, 4] rfl (tb_Model_least_78 C hk30 hf)
theorem tl_Model_least_30 {Γ : GmT} {G : Dt → Nat → List (Nat × Value) → List Value → Prop} {rr : Int32} {DD : Dt} (C : Cx Γ "RiverTuesdaysModel" b_Model_least 6 7 (some .int) (some (.int rr)) DD G) : ∀ (n : Nat) (v1 : Int32) (v2 : Int32) (v3 : Int32) (v4 : Int32) (D : Dt), lp_Model_least_30 n v1 v2 v3 v4 D = some (rr, DD) → G D 30 [(0, .ref (Γ.2.1 176)), (1, .int v1), (2, .int v2), (3, .int v3), (4, .int v4)] [] := by
  intro n
  induction n with
  | zero =>
    intro v1 v2 v3 v4 D hf
    exact absurd (show (none : Option (Int32 × Dt)) = some (rr, DD) from hf) (by simp)
  | succ n ih =>
    intro v1 v2 v3 v4 D hf
    exact ts_Model_least_30 C (k30 := lp_Model_least_30 n) ih hf
def f_Model_least (v1 : Int32) (D : Dt) : Option (Int32 × Dt) :=
  bnd (f_Model_in v1 0 99 D) (fun x1 D2 => (if x1 = 0 then some ((-1), D2) else (if (D2 176 10) = 0 then some ((-4), D2) else lp_Model_least_30 FU v1 (-9) 0 0 D2)))
set_option maxHeartbeats 4000000 in
theorem te_Model_least {Γ : GmT} {G : Dt → Nat → List (Nat × Value) → List Value → Prop} {rr : Int32} {DD : Dt} (C : Cx Γ "RiverTuesdaysModel" b_Model_least 6 7 (some .int) (some (.int rr)) DD G) {v1 : Int32} {D : Dt} (hf : f_Model_least v1 D = some (rr, DD)) : G D 0 [(0, .ref (Γ.2.1 176)), (1, .int v1)] [] := by
  unfold f_Model_least at hf
  refine r_iload_n (pc := 0) C 1 d_Model_least_0 rfl rfl ?_
  refine r_iconst (pc := 1) C (v := 0) d_Model_least_1 (by decide) ?_
  refine r_bipush (pc := 2) C (v := 99) d_Model_least_2 (by decide) ?_
  refine r_callSi (pc := 4) (As := [.int v1, .int 0, .int 99]) (rest := []) C ok_Model_in Lm_Model_118 ⟨by decide, by decide⟩ rfl rfl (Nat.le_of_ble_eq_true rfl) d_Model_least_4 hf (fun x D1 hc => c_Model_in Γ hc) (fun x1 D2 hf => ?_)
  refine r_if_ne (pc := 7) C (tgt := 12) d_Model_least_7 (by decide) hf (fun c7 hf => ?_) (fun c7 hf => ?_)
  · refine r_aload_n (pc := 12) C 0 d_Model_least_12 rfl rfl ?_
    refine g_Model_n (pc := 13) C k_id176 Lf_Model_176 d_Model_least_13 ?_
    refine r_if_ne (pc := 16) C (tgt := 22) d_Model_least_16 (by decide) hf (fun c16 hf => ?_) (fun c16 hf => ?_)
    · refine r_bipush (pc := 22) C (v := (-9)) d_Model_least_22 (by decide) ?_
      refine r_istore_n (pc := 24) (lv' := [(2, .int ((-9))), (0, .ref (Γ.2.1 176)), (1, .int v1)]) C d_Model_least_24 rfl (Nat.le_of_ble_eq_true rfl) rfl ?_
      refine r_iconst (pc := 25) C (v := 0) d_Model_least_25 (by decide) ?_
      refine r_istore_n (pc := 26) (lv' := [(3, .int 0), (2, .int ((-9))), (0, .ref (Γ.2.1 176)), (1, .int v1)]) C d_Model_least_26 rfl (Nat.le_of_ble_eq_true rfl) rfl ?_
      refine r_iconst (pc := 27) C (v := 0) d_Model_least_27 (by decide) ?_
      refine r_istore (pc := 28) (lv' := [(4, .int 0), (3, .int 0), (2, .int ((-9))), (0, .ref (Γ.2.1 176)), (1, .int v1)]) C d_Model_least_28 (Nat.le_of_ble_eq_true rfl) rfl ?_
      exact r_lv (pc := 30) C [3, 4, 2, 1, 0] rfl (tl_Model_least_30 C FU v1 (-9) 0 0 D2 hf)
    · refine r_bipush (pc := 19) C (v := (-4)) d_Model_least_19 (by decide) ?_
      exact r_iret (pc := 21) C d_Model_least_21 hf
  · refine r_iconst (pc := 10) C (v := (-1)) d_Model_least_10 (by decide) ?_
    exact r_iret (pc := 11) C d_Model_least_11 hf
theorem c_Model_least (Γ : GmT) {v1 : Int32} {D : Dt} {rr : Int32} {DD : Dt} (hf : f_Model_least v1 D = some (rr, DD)) : Mt Γ y_Model_least b_Model_least 6 (some .int) 7 [.ref (Γ.2.1 176), .int v1] D (some (.int rr)) DD := Mt_of (by decide) (Nat.le_of_ble_eq_true rfl) (fun G C => te_Model_least C hf)
def b_Model_dry_57 (k15 : Int32 → Int32 → Dt → Option (Int32 × Dt)) (v1 : Int32) (v2 : Int32) (D : Dt) : Option (Int32 × Dt) :=
  k15 v1 (v2 + 1) D
set_option maxHeartbeats 4000000 in
theorem tb_Model_dry_57 {Γ : GmT} {G : Dt → Nat → List (Nat × Value) → List Value → Prop} {rr : Int32} {DD : Dt} (C : Cx Γ "RiverTuesdaysModel" b_Model_dry 3 7 (some .int) (some (.int rr)) DD G) {k15 : Int32 → Int32 → Dt → Option (Int32 × Dt)} (hk15 : ∀ (v1 : Int32) (v2 : Int32) (D : Dt), k15 v1 v2 D = some (rr, DD) → G D 15 [(0, .ref (Γ.2.1 176)), (1, .int v1), (2, .int v2)] []) {v1 : Int32} {v2 : Int32} {D : Dt} (hf : b_Model_dry_57 k15 v1 v2 D = some (rr, DD)) : G D 57 [(0, .ref (Γ.2.1 176)), (1, .int v1), (2, .int v2)] [] := by
  unfold b_Model_dry_57 at hf
  refine r_iinc (pc := 57) C (v := v2 + 1) (lv' := [(2, .int (v2 + 1)), (0, .ref (Γ.2.1 176)), (1, .int v1)]) 2 d_Model_dry_57 rfl rfl (Nat.le_of_ble_eq_true rfl) rfl ?_
  refine r_goto (pc := 60) C (tgt := 15) d_Model_dry_60 (by decide) ?_
  exact r_lv (pc := 15) C [1, 2, 0] rfl (hk15 v1 (v2 + 1) D hf)
def b_Model_dry_56 (k15 : Int32 → Int32 → Dt → Option (Int32 × Dt)) (v2 : Int32) (s0 : Int32) (D : Dt) : Option (Int32 × Dt) :=
  b_Model_dry_57 k15 s0 v2 D
set_option maxHeartbeats 4000000 in
theorem tb_Model_dry_56 {Γ : GmT} {G : Dt → Nat → List (Nat × Value) → List Value → Prop} {rr : Int32} {DD : Dt} (C : Cx Γ "RiverTuesdaysModel" b_Model_dry 3 7 (some .int) (some (.int rr)) DD G) {k15 : Int32 → Int32 → Dt → Option (Int32 × Dt)} (hk15 : ∀ (v1 : Int32) (v2 : Int32) (D : Dt), k15 v1 v2 D = some (rr, DD) → G D 15 [(0, .ref (Γ.2.1 176)), (1, .int v1), (2, .int v2)] []) {v2 : Int32} {s0 : Int32} {D : Dt} (hf : b_Model_dry_56 k15 v2 s0 D = some (rr, DD)) : G D 56 [(0, .ref (Γ.2.1 176)), (2, .int v2)] [.int s0] := by
  unfold b_Model_dry_56 at hf
  refine r_istore_n (pc := 56) (lv' := [(1, .int s0), (0, .ref (Γ.2.1 176)), (2, .int v2)]) C d_Model_dry_56 rfl (Nat.le_of_ble_eq_true rfl) rfl ?_
  exact r_lv (pc := 57) C [1, 0, 2] rfl (tb_Model_dry_57 C hk15 hf)
def b_Model_dry_39 (k15 : Int32 → Int32 → Dt → Option (Int32 × Dt)) (v1 : Int32) (v2 : Int32) (D : Dt) : Option (Int32 × Dt) :=
  bnd (f_Model_layTuesday v2 D) (fun x5 D6 => (if (D6 176 35) = 0 then b_Model_dry_56 k15 v2 v2 D6 else b_Model_dry_56 k15 v2 v1 D6))
set_option maxHeartbeats 4000000 in
theorem tb_Model_dry_39 {Γ : GmT} {G : Dt → Nat → List (Nat × Value) → List Value → Prop} {rr : Int32} {DD : Dt} (C : Cx Γ "RiverTuesdaysModel" b_Model_dry 3 7 (some .int) (some (.int rr)) DD G) {k15 : Int32 → Int32 → Dt → Option (Int32 × Dt)} (hk15 : ∀ (v1 : Int32) (v2 : Int32) (D : Dt), k15 v1 v2 D = some (rr, DD) → G D 15 [(0, .ref (Γ.2.1 176)), (1, .int v1), (2, .int v2)] []) {v1 : Int32} {v2 : Int32} {D : Dt} (hf : b_Model_dry_39 k15 v1 v2 D = some (rr, DD)) : G D 39 [(0, .ref (Γ.2.1 176)), (1, .int v1), (2, .int v2)] [] := by
  unfold b_Model_dry_39 at hf
  refine r_aload_n (pc := 39) C 0 d_Model_dry_39 rfl rfl ?_
  refine r_iload_n (pc := 40) C 2 d_Model_dry_40 rfl rfl ?_
  refine r_callVv (pc := 41) (As := [.int v2]) (rest := []) C ok_Model_layTuesday Lm_Model_278 k_id176 (by decide) ⟨by decide, by decide⟩ rfl rfl (Nat.le_of_ble_eq_true rfl) d_Model_dry_41 hf (fun x D1 hc => c_Model_layTuesday Γ hc) (fun x5 D6 hf => ?_)
  refine r_aload_n (pc := 44) C 0 d_Model_dry_44 rfl rfl ?_
  refine g_Model_harmOf (pc := 45) C k_id176 Lf_Model_242 d_Model_dry_45 ?_
  refine r_if_ne (pc := 48) C (tgt := 55) d_Model_dry_48 (by decide) hf (fun c48 hf => ?_) (fun c48 hf => ?_)
  · refine r_iload_n (pc := 55) C 1 d_Model_dry_55 rfl rfl ?_
    exact r_lv (pc := 56) C [0, 2] rfl (tb_Model_dry_56 C hk15 hf)
  · refine r_iload_n (pc := 51) C 2 d_Model_dry_51 rfl rfl ?_
    refine r_goto (pc := 52) C (tgt := 56) d_Model_dry_52 (by decide) ?_
    exact r_lv (pc := 56) C [0, 2] rfl (tb_Model_dry_56 C hk15 hf)
def s_Model_dry_15 (k15 : Int32 → Int32 → Dt → Option (Int32 × Dt)) (v1 : Int32) (v2 : Int32) (D : Dt) : Option (Int32 × Dt) :=
  (if 256 ≤ v2 then (if v1 = (-9) then some ((-9), D) else bnd (f_Model_bits v1 D) (fun x1 D2 => bnd (f_Model_tells v1 x1 D2) (fun x3 D4 => some (x3, D4)))) else (if v1 = (-9) then b_Model_dry_39 k15 v1 v2 D else bnd (f_Model_bits v2 D) (fun x7 D8 => bnd (f_Model_bits v1 D8) (fun x9 D10 => (if x7 ≤ x9 then b_Model_dry_57 k15 v1 v2 D10 else b_Model_dry_39 k15 v1 v2 D10)))))
def lp_Model_dry_15 (n : Nat) : Int32 → Int32 → Dt → Option (Int32 × Dt) := itr (fun _ _ _ => none) (s_Model_dry_15) n
set_option maxHeartbeats 4000000 in
theorem ts_Model_dry_15 {Γ : GmT} {G : Dt → Nat → List (Nat × Value) → List Value → Prop} {rr : Int32} {DD : Dt} (C : Cx Γ "RiverTuesdaysModel" b_Model_dry 3 7 (some .int) (some (.int rr)) DD G) {k15 : Int32 → Int32 → Dt → Option (Int32 × Dt)} (hk15 : ∀ (v1 : Int32) (v2 : Int32) (D : Dt), k15 v1 v2 D = some (rr, DD) → G D 15 [(0, .ref (Γ.2.1 176)), (1, .int v1), (2, .int v2)] []) {v1 : Int32} {v2 : Int32} {D : Dt} (hf : s_Model_dry_15 k15 v1 v2 D = some (rr, DD)) : G D 15 [(0, .ref (Γ.2.1 176)), (1, .int v1), (2, .int v2)] [] := by
  unfold s_Model_dry_15 at hf
  refine r_iload_n (pc := 15) C 2 d_Model_dry_15 rfl rfl ?_
  refine r_sipush (pc := 16) C (v := 256) d_Model_dry_16 (by decide) ?_
  refine r_icmp_ge (pc := 19) C (tgt := 63) d_Model_dry_19 (by decide) hf (fun c19 hf => ?_) (fun c19 hf => ?_)
  · refine r_iload_n (pc := 63) C 1 d_Model_dry_63 rfl rfl ?_
    refine r_bipush (pc := 64) C (v := (-9)) d_Model_dry_64 (by decide) ?_
    refine r_icmp_ne (pc := 66) C (tgt := 74) d_Model_dry_66 (by decide) hf (fun c66 hf => ?_) (fun c66 hf => ?_)
    · refine r_aload_n (pc := 74) C 0 d_Model_dry_74 rfl rfl ?_
      refine r_iload_n (pc := 75) C 1 d_Model_dry_75 rfl rfl ?_
      refine r_iload_n (pc := 76) C 1 d_Model_dry_76 rfl rfl ?_
      refine r_callSi (pc := 77) (As := [.int v1]) (rest := [.int v1, .ref (Γ.2.1 176)]) C ok_Model_bits Lm_Model_285 ⟨by decide, by decide⟩ rfl rfl (Nat.le_of_ble_eq_true rfl) d_Model_dry_77 hf (fun x D1 hc => c_Model_bits Γ hc) (fun x1 D2 hf => ?_)
      refine r_callVi (pc := 80) (As := [.int v1, .int x1]) (rest := []) C ok_Model_tells Lm_Model_137 k_id176 (by decide) ⟨by decide, by decide⟩ rfl rfl (Nat.le_of_ble_eq_true rfl) d_Model_dry_80 hf (fun x D1 hc => c_Model_tells Γ hc) (fun x3 D4 hf => ?_)
      exact r_iret (pc := 83) C d_Model_dry_83 hf
    · refine r_bipush (pc := 69) C (v := (-9)) d_Model_dry_69 (by decide) ?_
      refine r_goto (pc := 71) C (tgt := 83) d_Model_dry_71 (by decide) ?_
      exact r_iret (pc := 83) C d_Model_dry_83 hf
  · refine r_iload_n (pc := 22) C 1 d_Model_dry_22 rfl rfl ?_
    refine r_bipush (pc := 23) C (v := (-9)) d_Model_dry_23 (by decide) ?_
    refine r_icmp_eq (pc := 25) C (tgt := 39) d_Model_dry_25 (by decide) hf (fun c25 hf => ?_) (fun c25 hf => ?_)
    · exact r_lv (pc := 39) C [0, 1, 2] rfl (tb_Model_dry_39 C hk15 hf)
    · refine r_iload_n (pc := 28) C 2 d_Model_dry_28 rfl rfl ?_
      refine r_callSi (pc := 29) (As := [.int v2]) (rest := []) C ok_Model_bits Lm_Model_285 ⟨by decide, by decide⟩ rfl rfl (Nat.le_of_ble_eq_true rfl) d_Model_dry_29 hf (fun x D1 hc => c_Model_bits Γ hc) (fun x7 D8 hf => ?_)
      refine r_iload_n (pc := 32) C 1 d_Model_dry_32 rfl rfl ?_
      refine r_callSi (pc := 33) (As := [.int v1]) (rest := [.int x7]) C ok_Model_bits Lm_Model_285 ⟨by decide, by decide⟩ rfl rfl (Nat.le_of_ble_eq_true rfl) d_Model_dry_33 hf (fun x D1 hc => c_Model_bits Γ hc) (fun x9 D10 hf => ?_)
      refine r_icmp_le (pc := 36) C (tgt := 57) d_Model_dry_36 (by decide) hf (fun c36 hf => ?_) (fun c36 hf => ?_)
      · exact r_lv (pc := 57) C [0, 1, 2] rfl (tb_Model_dry_57 C hk15 hf)
      · exact r_lv (pc := 39) C [0, 1, 2] rfl (tb_Model_dry_39 C hk15 hf)
theorem tl_Model_dry_15 {Γ : GmT} {G : Dt → Nat → List (Nat × Value) → List Value → Prop} {rr : Int32} {DD : Dt} (C : Cx Γ "RiverTuesdaysModel" b_Model_dry 3 7 (some .int) (some (.int rr)) DD G) : ∀ (n : Nat) (v1 : Int32) (v2 : Int32) (D : Dt), lp_Model_dry_15 n v1 v2 D = some (rr, DD) → G D 15 [(0, .ref (Γ.2.1 176)), (1, .int v1), (2, .int v2)] [] := by
  intro n
  induction n with
  | zero =>
    intro v1 v2 D hf
    exact absurd (show (none : Option (Int32 × Dt)) = some (rr, DD) from hf) (by simp)
  | succ n ih =>
    intro v1 v2 D hf
    exact ts_Model_dry_15 C (k15 := lp_Model_dry_15 n) ih hf
def f_Model_dry (D : Dt) : Option (Int32 × Dt) :=
  (if (D 176 10) = 0 then some ((-4), D) else lp_Model_dry_15 FU (-9) 0 D)
set_option maxHeartbeats 4000000 in
theorem te_Model_dry {Γ : GmT} {G : Dt → Nat → List (Nat × Value) → List Value → Prop} {rr : Int32} {DD : Dt} (C : Cx Γ "RiverTuesdaysModel" b_Model_dry 3 7 (some .int) (some (.int rr)) DD G) {D : Dt} (hf : f_Model_dry D = some (rr, DD)) : G D 0 [(0, .ref (Γ.2.1 176))] [] := by
  unfold f_Model_dry at hf
  refine r_aload_n (pc := 0) C 0 d_Model_dry_0 rfl rfl ?_
  refine g_Model_n (pc := 1) C k_id176 Lf_Model_176 d_Model_dry_1 ?_
  refine r_if_ne (pc := 4) C (tgt := 10) d_Model_dry_4 (by decide) hf (fun c4 hf => ?_) (fun c4 hf => ?_)
  · refine r_bipush (pc := 10) C (v := (-9)) d_Model_dry_10 (by decide) ?_
    refine r_istore_n (pc := 12) (lv' := [(1, .int ((-9))), (0, .ref (Γ.2.1 176))]) C d_Model_dry_12 rfl (Nat.le_of_ble_eq_true rfl) rfl ?_
    refine r_iconst (pc := 13) C (v := 0) d_Model_dry_13 (by decide) ?_
    refine r_istore_n (pc := 14) (lv' := [(2, .int 0), (1, .int ((-9))), (0, .ref (Γ.2.1 176))]) C d_Model_dry_14 rfl (Nat.le_of_ble_eq_true rfl) rfl ?_
    exact r_lv (pc := 15) C [2, 1, 0] rfl (tl_Model_dry_15 C FU (-9) 0 D hf)
  · refine r_bipush (pc := 7) C (v := (-4)) d_Model_dry_7 (by decide) ?_
    exact r_iret (pc := 9) C d_Model_dry_9 hf
theorem c_Model_dry (Γ : GmT) {D : Dt} {rr : Int32} {DD : Dt} (hf : f_Model_dry D = some (rr, DD)) : Mt Γ y_Model_dry b_Model_dry 3 (some .int) 7 [.ref (Γ.2.1 176)] D (some (.int rr)) DD := Mt_of (by decide) (Nat.le_of_ble_eq_true rfl) (fun G C => te_Model_dry C hf)
def b_Model_fitsMarks_47 (k4 : Int32 → Int32 → Int32 → Dt → Option (Int32 × Dt)) (v1 : Int32) (v3 : Int32) (s0 : Int32) (D : Dt) : Option (Int32 × Dt) :=
  k4 v1 s0 (v3 + 1) D
set_option maxHeartbeats 4000000 in
theorem tb_Model_fitsMarks_47 {Γ : GmT} {G : Dt → Nat → List (Nat × Value) → List Value → Prop} {rr : Int32} {DD : Dt} (C : Cx Γ "RiverTuesdaysModel" b_Model_fitsMarks 4 2 (some .boolean) (some (.int rr)) DD G) {k4 : Int32 → Int32 → Int32 → Dt → Option (Int32 × Dt)} (hk4 : ∀ (v1 : Int32) (v2 : Int32) (v3 : Int32) (D : Dt), k4 v1 v2 v3 D = some (rr, DD) → G D 4 [(0, .ref (Γ.2.1 176)), (1, .int v1), (2, .int v2), (3, .int v3)] []) {v1 : Int32} {v3 : Int32} {s0 : Int32} {D : Dt} (hf : b_Model_fitsMarks_47 k4 v1 v3 s0 D = some (rr, DD)) : G D 47 [(0, .ref (Γ.2.1 176)), (1, .int v1), (3, .int v3)] [.int s0] := by
  unfold b_Model_fitsMarks_47 at hf
  refine r_istore_n (pc := 47) (lv' := [(2, .int s0), (0, .ref (Γ.2.1 176)), (1, .int v1), (3, .int v3)]) C d_Model_fitsMarks_47 rfl (Nat.le_of_ble_eq_true rfl) rfl ?_
  refine r_iinc (pc := 48) C (v := v3 + 1) (lv' := [(3, .int (v3 + 1)), (2, .int s0), (0, .ref (Γ.2.1 176)), (1, .int v1)]) 3 d_Model_fitsMarks_48 rfl rfl (Nat.le_of_ble_eq_true rfl) rfl ?_
  refine r_goto (pc := 51) C (tgt := 4) d_Model_fitsMarks_51 (by decide) ?_
  exact r_lv (pc := 4) C [2, 3, 1, 0] rfl (hk4 v1 s0 (v3 + 1) D hf)
def b_Model_fitsMarks_46 (k4 : Int32 → Int32 → Int32 → Dt → Option (Int32 × Dt)) (v1 : Int32) (v3 : Int32) (D : Dt) : Option (Int32 × Dt) :=
  b_Model_fitsMarks_47 k4 v1 v3 0 D
set_option maxHeartbeats 4000000 in
theorem tb_Model_fitsMarks_46 {Γ : GmT} {G : Dt → Nat → List (Nat × Value) → List Value → Prop} {rr : Int32} {DD : Dt} (C : Cx Γ "RiverTuesdaysModel" b_Model_fitsMarks 4 2 (some .boolean) (some (.int rr)) DD G) {k4 : Int32 → Int32 → Int32 → Dt → Option (Int32 × Dt)} (hk4 : ∀ (v1 : Int32) (v2 : Int32) (v3 : Int32) (D : Dt), k4 v1 v2 v3 D = some (rr, DD) → G D 4 [(0, .ref (Γ.2.1 176)), (1, .int v1), (2, .int v2), (3, .int v3)] []) {v1 : Int32} {v3 : Int32} {D : Dt} (hf : b_Model_fitsMarks_46 k4 v1 v3 D = some (rr, DD)) : G D 46 [(0, .ref (Γ.2.1 176)), (1, .int v1), (3, .int v3)] [] := by
  unfold b_Model_fitsMarks_46 at hf
  refine r_iconst (pc := 46) C (v := 0) d_Model_fitsMarks_46 (by decide) ?_
  exact r_lv (pc := 47) C [0, 1, 2] rfl (tb_Model_fitsMarks_47 C hk4 hf)
def b_Model_fitsMarks_42 (k4 : Int32 → Int32 → Int32 → Dt → Option (Int32 × Dt)) (v1 : Int32) (v3 : Int32) (D : Dt) : Option (Int32 × Dt) :=
  b_Model_fitsMarks_47 k4 v1 v3 1 D
set_option maxHeartbeats 4000000 in
theorem tb_Model_fitsMarks_42 {Γ : GmT} {G : Dt → Nat → List (Nat × Value) → List Value → Prop} {rr : Int32} {DD : Dt} (C : Cx Γ "RiverTuesdaysModel" b_Model_fitsMarks 4 2 (some .boolean) (some (.int rr)) DD G) {k4 : Int32 → Int32 → Int32 → Dt → Option (Int32 × Dt)} (hk4 : ∀ (v1 : Int32) (v2 : Int32) (v3 : Int32) (D : Dt), k4 v1 v2 v3 D = some (rr, DD) → G D 4 [(0, .ref (Γ.2.1 176)), (1, .int v1), (2, .int v2), (3, .int v3)] []) {v1 : Int32} {v3 : Int32} {D : Dt} (hf : b_Model_fitsMarks_42 k4 v1 v3 D = some (rr, DD)) : G D 42 [(0, .ref (Γ.2.1 176)), (1, .int v1), (3, .int v3)] [] := by
  unfold b_Model_fitsMarks_42 at hf
  refine r_iconst (pc := 42) C (v := 1) d_Model_fitsMarks_42 (by decide) ?_
  refine r_goto (pc := 43) C (tgt := 47) d_Model_fitsMarks_43 (by decide) ?_
  exact r_lv (pc := 47) C [0, 1, 2] rfl (tb_Model_fitsMarks_47 C hk4 hf)
def s_Model_fitsMarks_4 (k4 : Int32 → Int32 → Int32 → Dt → Option (Int32 × Dt)) (v1 : Int32) (v2 : Int32) (v3 : Int32) (D : Dt) : Option (Int32 × Dt) :=
  (if (D 176 10) ≤ v3 then (if v2 = 0 ∨ v2 = 1 then some (v2, D) else none) else (if v2 = 0 then b_Model_fitsMarks_46 k4 v1 v3 D else bnd (f_Model_rowAt v1 v3 D) (fun x1 D2 => (if x1 = (-9) then b_Model_fitsMarks_42 k4 v1 v3 D2 else bnd (f_Model_rowAt v1 v3 D2) (fun x3 D4 => (if inb v3 8 = true then (if x3 = (D4 202 v3.toNatClampNeg) then b_Model_fitsMarks_42 k4 v1 v3 D4 else b_Model_fitsMarks_46 k4 v1 v3 D4) else none))))))
def lp_Model_fitsMarks_4 (n : Nat) : Int32 → Int32 → Int32 → Dt → Option (Int32 × Dt) := itr (fun _ _ _ _ => none) (s_Model_fitsMarks_4) n
set_option maxHeartbeats 4000000 in
theorem ts_Model_fitsMarks_4 {Γ : GmT} {G : Dt → Nat → List (Nat × Value) → List Value → Prop} {rr : Int32} {DD : Dt} (C : Cx Γ "RiverTuesdaysModel" b_Model_fitsMarks 4 2 (some .boolean) (some (.int rr)) DD G) {k4 : Int32 → Int32 → Int32 → Dt → Option (Int32 × Dt)} (hk4 : ∀ (v1 : Int32) (v2 : Int32) (v3 : Int32) (D : Dt), k4 v1 v2 v3 D = some (rr, DD) → G D 4 [(0, .ref (Γ.2.1 176)), (1, .int v1), (2, .int v2), (3, .int v3)] []) {v1 : Int32} {v2 : Int32} {v3 : Int32} {D : Dt} (hf : s_Model_fitsMarks_4 k4 v1 v2 v3 D = some (rr, DD)) : G D 4 [(0, .ref (Γ.2.1 176)), (1, .int v1), (2, .int v2), (3, .int v3)] [] := by
  unfold s_Model_fitsMarks_4 at hf
  refine r_iload_n (pc := 4) C 3 d_Model_fitsMarks_4 rfl rfl ?_
  refine r_aload_n (pc := 5) C 0 d_Model_fitsMarks_5 rfl rfl ?_
  refine g_Model_n (pc := 6) C k_id176 Lf_Model_176 d_Model_fitsMarks_6 ?_
  refine r_icmp_ge (pc := 9) C (tgt := 54) d_Model_fitsMarks_9 (by decide) hf (fun c9 hf => ?_) (fun c9 hf => ?_)
  · refine r_iload_n (pc := 54) C 2 d_Model_fitsMarks_54 rfl rfl ?_
    exact r_zretc (pc := 55) C d_Model_fitsMarks_55 hf
  · refine r_iload_n (pc := 12) C 2 d_Model_fitsMarks_12 rfl rfl ?_
    refine r_if_eq (pc := 13) C (tgt := 46) d_Model_fitsMarks_13 (by decide) hf (fun c13 hf => ?_) (fun c13 hf => ?_)
    · exact r_lv (pc := 46) C [0, 1, 3] rfl (tb_Model_fitsMarks_46 C hk4 hf)
    · refine r_aload_n (pc := 16) C 0 d_Model_fitsMarks_16 rfl rfl ?_
      refine r_iload_n (pc := 17) C 1 d_Model_fitsMarks_17 rfl rfl ?_
      refine r_iload_n (pc := 18) C 3 d_Model_fitsMarks_18 rfl rfl ?_
      refine r_callVi (pc := 19) (As := [.int v1, .int v3]) (rest := []) C ok_Model_rowAt Lm_Model_133 k_id176 (by decide) ⟨by decide, by decide⟩ rfl rfl (Nat.le_of_ble_eq_true rfl) d_Model_fitsMarks_19 hf (fun x D1 hc => c_Model_rowAt Γ hc) (fun x1 D2 hf => ?_)
      refine r_bipush (pc := 22) C (v := (-9)) d_Model_fitsMarks_22 (by decide) ?_
      refine r_icmp_eq (pc := 24) C (tgt := 42) d_Model_fitsMarks_24 (by decide) hf (fun c24 hf => ?_) (fun c24 hf => ?_)
      · exact r_lv (pc := 42) C [0, 1, 3] rfl (tb_Model_fitsMarks_42 C hk4 hf)
      · refine r_aload_n (pc := 27) C 0 d_Model_fitsMarks_27 rfl rfl ?_
        refine r_iload_n (pc := 28) C 1 d_Model_fitsMarks_28 rfl rfl ?_
        refine r_iload_n (pc := 29) C 3 d_Model_fitsMarks_29 rfl rfl ?_
        refine r_callVi (pc := 30) (As := [.int v1, .int v3]) (rest := []) C ok_Model_rowAt Lm_Model_133 k_id176 (by decide) ⟨by decide, by decide⟩ rfl rfl (Nat.le_of_ble_eq_true rfl) d_Model_fitsMarks_30 hf (fun x D1 hc => c_Model_rowAt Γ hc) (fun x3 D4 hf => ?_)
        refine r_aload_n (pc := 33) C 0 d_Model_fitsMarks_33 rfl rfl ?_
        refine g_Model_marksOf (pc := 34) C k_id176 Lf_Model_87 d_Model_fitsMarks_34 ?_
        refine r_iload_n (pc := 37) C 3 d_Model_fitsMarks_37 rfl rfl ?_
        refine r_iald (pc := 38) C kq_Model_marksOf d_Model_fitsMarks_38 hf (fun hf => ?_)
        refine r_icmp_ne (pc := 39) C (tgt := 46) d_Model_fitsMarks_39 (by decide) hf (fun c39 hf => ?_) (fun c39 hf => ?_)
        · exact r_lv (pc := 46) C [0, 1, 3] rfl (tb_Model_fitsMarks_46 C hk4 hf)
        · exact r_lv (pc := 42) C [0, 1, 3] rfl (tb_Model_fitsMarks_42 C hk4 hf)
theorem tl_Model_fitsMarks_4 {Γ : GmT} {G : Dt → Nat → List (Nat × Value) → List Value → Prop} {rr : Int32} {DD : Dt} (C : Cx Γ "RiverTuesdaysModel" b_Model_fitsMarks 4 2 (some .boolean) (some (.int rr)) DD G) : ∀ (n : Nat) (v1 : Int32) (v2 : Int32) (v3 : Int32) (D : Dt), lp_Model_fitsMarks_4 n v1 v2 v3 D = some (rr, DD) → G D 4 [(0, .ref (Γ.2.1 176)), (1, .int v1), (2, .int v2), (3, .int v3)] [] := by
  intro n
  induction n with
  | zero =>
    intro v1 v2 v3 D hf
    exact absurd (show (none : Option (Int32 × Dt)) = some (rr, DD) from hf) (by simp)
  | succ n ih =>
    intro v1 v2 v3 D hf
    exact ts_Model_fitsMarks_4 C (k4 := lp_Model_fitsMarks_4 n) ih hf
def f_Model_fitsMarks (v1 : Int32) (D : Dt) : Option (Int32 × Dt) :=
  lp_Model_fitsMarks_4 FU v1 1 0 D
set_option maxHeartbeats 4000000 in
theorem te_Model_fitsMarks {Γ : GmT} {G : Dt → Nat → List (Nat × Value) → List Value → Prop} {rr : Int32} {DD : Dt} (C : Cx Γ "RiverTuesdaysModel" b_Model_fitsMarks 4 2 (some .boolean) (some (.int rr)) DD G) {v1 : Int32} {D : Dt} (hf : f_Model_fitsMarks v1 D = some (rr, DD)) : G D 0 [(0, .ref (Γ.2.1 176)), (1, .int v1)] [] := by
  unfold f_Model_fitsMarks at hf
  refine r_iconst (pc := 0) C (v := 1) d_Model_fitsMarks_0 (by decide) ?_
  refine r_istore_n (pc := 1) (lv' := [(2, .int 1), (0, .ref (Γ.2.1 176)), (1, .int v1)]) C d_Model_fitsMarks_1 rfl (Nat.le_of_ble_eq_true rfl) rfl ?_
  refine r_iconst (pc := 2) C (v := 0) d_Model_fitsMarks_2 (by decide) ?_
  refine r_istore_n (pc := 3) (lv' := [(3, .int 0), (2, .int 1), (0, .ref (Γ.2.1 176)), (1, .int v1)]) C d_Model_fitsMarks_3 rfl (Nat.le_of_ble_eq_true rfl) rfl ?_
  exact r_lv (pc := 4) C [2, 3, 1, 0] rfl (tl_Model_fitsMarks_4 C FU v1 1 0 D hf)
theorem c_Model_fitsMarks (Γ : GmT) {v1 : Int32} {D : Dt} {rr : Int32} {DD : Dt} (hf : f_Model_fitsMarks v1 D = some (rr, DD)) : Mt Γ y_Model_fitsMarks b_Model_fitsMarks 4 (some .boolean) 2 [.ref (Γ.2.1 176), .int v1] D (some (.int rr)) DD := Mt_of (by decide) (Nat.le_of_ble_eq_true rfl) (fun G C => te_Model_fitsMarks C hf)
def b_Model_needMarks_228 (k145 : Int32 → Int32 → Dt → Option (Int32 × Dt)) (v1 : Int32) (v3 : Int32) (D : Dt) : Option (Int32 × Dt) :=
  k145 v1 (v3 + 1) D
set_option maxHeartbeats 4000000 in
theorem tb_Model_needMarks_228 {Γ : GmT} {G : Dt → Nat → List (Nat × Value) → List Value → Prop} {rr : Int32} {DD : Dt} (C : Cx Γ "RiverTuesdaysModel" b_Model_needMarks 4 7 (some .int) (some (.int rr)) DD G) {k145 : Int32 → Int32 → Dt → Option (Int32 × Dt)} (hk145 : ∀ (v1 : Int32) (v3 : Int32) (D : Dt), k145 v1 v3 D = some (rr, DD) → G D 145 [(0, .ref (Γ.2.1 176)), (1, .int v1), (3, .int v3)] []) {v1 : Int32} {v3 : Int32} {D : Dt} (hf : b_Model_needMarks_228 k145 v1 v3 D = some (rr, DD)) : G D 228 [(0, .ref (Γ.2.1 176)), (1, .int v1), (3, .int v3)] [] := by
  unfold b_Model_needMarks_228 at hf
  refine r_iinc (pc := 228) C (v := v3 + 1) (lv' := [(3, .int (v3 + 1)), (0, .ref (Γ.2.1 176)), (1, .int v1)]) 2 d_Model_needMarks_228 rfl rfl (Nat.le_of_ble_eq_true rfl) rfl ?_
  refine r_goto (pc := 231) C (tgt := 145) d_Model_needMarks_231 (by decide) ?_
  exact r_lv (pc := 145) C [1, 2, 0] rfl (hk145 v1 (v3 + 1) D hf)
def b_Model_needMarks_193 (k145 : Int32 → Int32 → Dt → Option (Int32 × Dt)) (v1 : Int32) (v3 : Int32) (s0 : Int32) (D : Dt) : Option (Int32 × Dt) :=
  nm (wr D 176 45 s0) (fun D12 => nm (wr D12 176 44 ((D12 176 44) + 1)) (fun D13 => nm (wr D13 176 46 ((D13 176 46) &&& v3)) (fun D14 => nm (wr D14 176 47 ((D14 176 47) &&& (v3 ^^^ (-1)))) (fun D15 => b_Model_needMarks_228 k145 v1 v3 D15))))
set_option maxHeartbeats 4000000 in
theorem tb_Model_needMarks_193 {Γ : GmT} {G : Dt → Nat → List (Nat × Value) → List Value → Prop} {rr : Int32} {DD : Dt} (C : Cx Γ "RiverTuesdaysModel" b_Model_needMarks 4 7 (some .int) (some (.int rr)) DD G) {k145 : Int32 → Int32 → Dt → Option (Int32 × Dt)} (hk145 : ∀ (v1 : Int32) (v3 : Int32) (D : Dt), k145 v1 v3 D = some (rr, DD) → G D 145 [(0, .ref (Γ.2.1 176)), (1, .int v1), (3, .int v3)] []) {v1 : Int32} {v3 : Int32} {s0 : Int32} {D : Dt} (hf : b_Model_needMarks_193 k145 v1 v3 s0 D = some (rr, DD)) : G D 193 [(0, .ref (Γ.2.1 176)), (1, .int v1), (3, .int v3)] [.int s0, .ref (Γ.2.1 176)] := by
  unfold b_Model_needMarks_193 at hf
  refine p_Model_fitFirst (pc := 193) C k_id176 Lf_Model_294 d_Model_needMarks_193 ?_
  refine r_nmD hf (fun D12 hf => ?_)
  refine r_aload_n (pc := 196) C 0 d_Model_needMarks_196 rfl rfl ?_
  refine r_dup (pc := 197) C d_Model_needMarks_197 rfl ?_
  refine g_Model_fitMany (pc := 198) C k_id176 Lf_Model_291 d_Model_needMarks_198 ?_
  refine r_iconst (pc := 201) C (v := 1) d_Model_needMarks_201 (by decide) ?_
  refine r_iadd (pc := 202) C d_Model_needMarks_202 ?_
  refine p_Model_fitMany (pc := 203) C k_id176 Lf_Model_291 d_Model_needMarks_203 ?_
  refine r_nmD hf (fun D13 hf => ?_)
  refine r_aload_n (pc := 206) C 0 d_Model_needMarks_206 rfl rfl ?_
  refine r_dup (pc := 207) C d_Model_needMarks_207 rfl ?_
  refine g_Model_fitAll (pc := 208) C k_id176 Lf_Model_297 d_Model_needMarks_208 ?_
  refine r_iload_n (pc := 211) C 2 d_Model_needMarks_211 rfl rfl ?_
  refine r_iand (pc := 212) C d_Model_needMarks_212 ?_
  refine p_Model_fitAll (pc := 213) C k_id176 Lf_Model_297 d_Model_needMarks_213 ?_
  refine r_nmD hf (fun D14 hf => ?_)
  refine r_aload_n (pc := 216) C 0 d_Model_needMarks_216 rfl rfl ?_
  refine r_dup (pc := 217) C d_Model_needMarks_217 rfl ?_
  refine g_Model_fitNone (pc := 218) C k_id176 Lf_Model_300 d_Model_needMarks_218 ?_
  refine r_iload_n (pc := 221) C 2 d_Model_needMarks_221 rfl rfl ?_
  refine r_iconst (pc := 222) C (v := (-1)) d_Model_needMarks_222 (by decide) ?_
  refine r_ixor (pc := 223) C d_Model_needMarks_223 ?_
  refine r_iand (pc := 224) C d_Model_needMarks_224 ?_
  refine p_Model_fitNone (pc := 225) C k_id176 Lf_Model_300 d_Model_needMarks_225 ?_
  refine r_nmD hf (fun D15 hf => ?_)
  exact r_lv (pc := 228) C [0, 1, 2] rfl (tb_Model_needMarks_228 C hk145 hf)
def s_Model_needMarks_145 (k145 : Int32 → Int32 → Dt → Option (Int32 × Dt)) (v1 : Int32) (v3 : Int32) (D : Dt) : Option (Int32 × Dt) :=
  (if 256 ≤ v3 then some (0, D) else bnd (f_Model_layTuesday v3 D) (fun x7 D8 => bnd (f_Model_fitsMarks v1 D8) (fun x9 D10 => (if inb v3 256 = true then nm (wr D10 203 v3.toNatClampNeg (vp_nar .boolean x9)) (fun D11 => (if inb v3 256 = true then (if (D11 203 v3.toNatClampNeg) = 0 then b_Model_needMarks_228 k145 v1 v3 D11 else (if (D11 176 44) = 0 then b_Model_needMarks_193 k145 v1 v3 v3 D11 else b_Model_needMarks_193 k145 v1 v3 (D11 176 45) D11)) else none)) else none))))
def lp_Model_needMarks_145 (n : Nat) : Int32 → Int32 → Dt → Option (Int32 × Dt) := itr (fun _ _ _ => none) (s_Model_needMarks_145) n
set_option maxHeartbeats 4000000 in
theorem ts_Model_needMarks_145 {Γ : GmT} {G : Dt → Nat → List (Nat × Value) → List Value → Prop} {rr : Int32} {DD : Dt} (C : Cx Γ "RiverTuesdaysModel" b_Model_needMarks 4 7 (some .int) (some (.int rr)) DD G) {k145 : Int32 → Int32 → Dt → Option (Int32 × Dt)} (hk145 : ∀ (v1 : Int32) (v3 : Int32) (D : Dt), k145 v1 v3 D = some (rr, DD) → G D 145 [(0, .ref (Γ.2.1 176)), (1, .int v1), (3, .int v3)] []) {v1 : Int32} {v3 : Int32} {D : Dt} (hf : s_Model_needMarks_145 k145 v1 v3 D = some (rr, DD)) : G D 145 [(0, .ref (Γ.2.1 176)), (1, .int v1), (3, .int v3)] [] := by
  unfold s_Model_needMarks_145 at hf
  refine r_iload_n (pc := 145) C 2 d_Model_needMarks_145 rfl rfl ?_
  refine r_sipush (pc := 146) C (v := 256) d_Model_needMarks_146 (by decide) ?_
  refine r_icmp_ge (pc := 149) C (tgt := 234) d_Model_needMarks_149 (by decide) hf (fun c149 hf => ?_) (fun c149 hf => ?_)
  · refine r_iconst (pc := 234) C (v := 0) d_Model_needMarks_234 (by decide) ?_
    exact r_iret (pc := 235) C d_Model_needMarks_235 hf
  · refine r_aload_n (pc := 152) C 0 d_Model_needMarks_152 rfl rfl ?_
    refine r_iload_n (pc := 153) C 2 d_Model_needMarks_153 rfl rfl ?_
    refine r_callVv (pc := 154) (As := [.int v3]) (rest := []) C ok_Model_layTuesday Lm_Model_278 k_id176 (by decide) ⟨by decide, by decide⟩ rfl rfl (Nat.le_of_ble_eq_true rfl) d_Model_needMarks_154 hf (fun x D1 hc => c_Model_layTuesday Γ hc) (fun x7 D8 hf => ?_)
    refine r_aload_n (pc := 157) C 0 d_Model_needMarks_157 rfl rfl ?_
    refine g_Model_fitting (pc := 158) C k_id176 Lf_Model_90 d_Model_needMarks_158 ?_
    refine r_iload_n (pc := 161) C 2 d_Model_needMarks_161 rfl rfl ?_
    refine r_aload_n (pc := 162) C 0 d_Model_needMarks_162 rfl rfl ?_
    refine r_iload_n (pc := 163) C 1 d_Model_needMarks_163 rfl rfl ?_
    refine r_callVi (pc := 164) (As := [.int v1]) (rest := [.int v3, .ref (Γ.2.1 203)]) C ok_Model_fitsMarks Lm_Model_303 k_id176 (by decide) ⟨by decide, by decide⟩ rfl rfl (Nat.le_of_ble_eq_true rfl) d_Model_needMarks_164 hf (fun x D1 hc => c_Model_fitsMarks Γ hc) (fun x9 D10 hf => ?_)
    refine r_zast (pc := 167) C kq_Model_fitting d_Model_needMarks_167 hf (fun hf => ?_)
    refine r_nmD hf (fun D11 hf => ?_)
    refine r_aload_n (pc := 168) C 0 d_Model_needMarks_168 rfl rfl ?_
    refine g_Model_fitting (pc := 169) C k_id176 Lf_Model_90 d_Model_needMarks_169 ?_
    refine r_iload_n (pc := 172) C 2 d_Model_needMarks_172 rfl rfl ?_
    refine r_zald (pc := 173) C kq_Model_fitting d_Model_needMarks_173 hf (fun hf => ?_)
    refine r_if_eq (pc := 174) C (tgt := 228) d_Model_needMarks_174 (by decide) hf (fun c174 hf => ?_) (fun c174 hf => ?_)
    · exact r_lv (pc := 228) C [0, 1, 2] rfl (tb_Model_needMarks_228 C hk145 hf)
    · refine r_aload_n (pc := 177) C 0 d_Model_needMarks_177 rfl rfl ?_
      refine r_aload_n (pc := 178) C 0 d_Model_needMarks_178 rfl rfl ?_
      refine g_Model_fitMany (pc := 179) C k_id176 Lf_Model_291 d_Model_needMarks_179 ?_
      refine r_if_ne (pc := 182) C (tgt := 189) d_Model_needMarks_182 (by decide) hf (fun c182 hf => ?_) (fun c182 hf => ?_)
      · refine r_aload_n (pc := 189) C 0 d_Model_needMarks_189 rfl rfl ?_
        refine g_Model_fitFirst (pc := 190) C k_id176 Lf_Model_294 d_Model_needMarks_190 ?_
        exact r_lv (pc := 193) C [0, 1, 2] rfl (tb_Model_needMarks_193 C hk145 hf)
      · refine r_iload_n (pc := 185) C 2 d_Model_needMarks_185 rfl rfl ?_
        refine r_goto (pc := 186) C (tgt := 193) d_Model_needMarks_186 (by decide) ?_
        exact r_lv (pc := 193) C [0, 1, 2] rfl (tb_Model_needMarks_193 C hk145 hf)
theorem tl_Model_needMarks_145 {Γ : GmT} {G : Dt → Nat → List (Nat × Value) → List Value → Prop} {rr : Int32} {DD : Dt} (C : Cx Γ "RiverTuesdaysModel" b_Model_needMarks 4 7 (some .int) (some (.int rr)) DD G) : ∀ (n : Nat) (v1 : Int32) (v3 : Int32) (D : Dt), lp_Model_needMarks_145 n v1 v3 D = some (rr, DD) → G D 145 [(0, .ref (Γ.2.1 176)), (1, .int v1), (3, .int v3)] [] := by
  intro n
  induction n with
  | zero =>
    intro v1 v3 D hf
    exact absurd (show (none : Option (Int32 × Dt)) = some (rr, DD) from hf) (by simp)
  | succ n ih =>
    intro v1 v3 D hf
    exact ts_Model_needMarks_145 C (k145 := lp_Model_needMarks_145 n) ih hf
def b_Model_needMarks_101 (k57 : Int32 → Int32 → Int32 → Dt → Option (Int32 × Dt)) (v1 : Int32) (v3 : Int32) (s0 : Int32) (D : Dt) : Option (Int32 × Dt) :=
  k57 v1 s0 (v3 + 1) D
set_option maxHeartbeats 4000000 in
theorem tb_Model_needMarks_101 {Γ : GmT} {G : Dt → Nat → List (Nat × Value) → List Value → Prop} {rr : Int32} {DD : Dt} (C : Cx Γ "RiverTuesdaysModel" b_Model_needMarks 4 7 (some .int) (some (.int rr)) DD G) {k57 : Int32 → Int32 → Int32 → Dt → Option (Int32 × Dt)} (hk57 : ∀ (v1 : Int32) (v2 : Int32) (v3 : Int32) (D : Dt), k57 v1 v2 v3 D = some (rr, DD) → G D 57 [(0, .ref (Γ.2.1 176)), (1, .int v1), (2, .int v2), (3, .int v3)] []) {v1 : Int32} {v3 : Int32} {s0 : Int32} {D : Dt} (hf : b_Model_needMarks_101 k57 v1 v3 s0 D = some (rr, DD)) : G D 101 [(0, .ref (Γ.2.1 176)), (1, .int v1), (3, .int v3)] [.int s0] := by
  unfold b_Model_needMarks_101 at hf
  refine r_istore_n (pc := 101) (lv' := [(2, .int s0), (0, .ref (Γ.2.1 176)), (1, .int v1), (3, .int v3)]) C d_Model_needMarks_101 rfl (Nat.le_of_ble_eq_true rfl) rfl ?_
  refine r_iinc (pc := 102) C (v := v3 + 1) (lv' := [(3, .int (v3 + 1)), (2, .int s0), (0, .ref (Γ.2.1 176)), (1, .int v1)]) 3 d_Model_needMarks_102 rfl rfl (Nat.le_of_ble_eq_true rfl) rfl ?_
  refine r_goto (pc := 105) C (tgt := 57) d_Model_needMarks_105 (by decide) ?_
  exact r_lv (pc := 57) C [2, 3, 1, 0] rfl (hk57 v1 s0 (v3 + 1) D hf)
def b_Model_needMarks_100 (k57 : Int32 → Int32 → Int32 → Dt → Option (Int32 × Dt)) (v1 : Int32) (v3 : Int32) (D : Dt) : Option (Int32 × Dt) :=
  b_Model_needMarks_101 k57 v1 v3 0 D
set_option maxHeartbeats 4000000 in
theorem tb_Model_needMarks_100 {Γ : GmT} {G : Dt → Nat → List (Nat × Value) → List Value → Prop} {rr : Int32} {DD : Dt} (C : Cx Γ "RiverTuesdaysModel" b_Model_needMarks 4 7 (some .int) (some (.int rr)) DD G) {k57 : Int32 → Int32 → Int32 → Dt → Option (Int32 × Dt)} (hk57 : ∀ (v1 : Int32) (v2 : Int32) (v3 : Int32) (D : Dt), k57 v1 v2 v3 D = some (rr, DD) → G D 57 [(0, .ref (Γ.2.1 176)), (1, .int v1), (2, .int v2), (3, .int v3)] []) {v1 : Int32} {v3 : Int32} {D : Dt} (hf : b_Model_needMarks_100 k57 v1 v3 D = some (rr, DD)) : G D 100 [(0, .ref (Γ.2.1 176)), (1, .int v1), (3, .int v3)] [] := by
  unfold b_Model_needMarks_100 at hf
  refine r_iconst (pc := 100) C (v := 0) d_Model_needMarks_100 (by decide) ?_
  exact r_lv (pc := 101) C [0, 1, 2] rfl (tb_Model_needMarks_101 C hk57 hf)
def b_Model_needMarks_96 (k57 : Int32 → Int32 → Int32 → Dt → Option (Int32 × Dt)) (v1 : Int32) (v3 : Int32) (D : Dt) : Option (Int32 × Dt) :=
  b_Model_needMarks_101 k57 v1 v3 1 D
set_option maxHeartbeats 4000000 in
theorem tb_Model_needMarks_96 {Γ : GmT} {G : Dt → Nat → List (Nat × Value) → List Value → Prop} {rr : Int32} {DD : Dt} (C : Cx Γ "RiverTuesdaysModel" b_Model_needMarks 4 7 (some .int) (some (.int rr)) DD G) {k57 : Int32 → Int32 → Int32 → Dt → Option (Int32 × Dt)} (hk57 : ∀ (v1 : Int32) (v2 : Int32) (v3 : Int32) (D : Dt), k57 v1 v2 v3 D = some (rr, DD) → G D 57 [(0, .ref (Γ.2.1 176)), (1, .int v1), (2, .int v2), (3, .int v3)] []) {v1 : Int32} {v3 : Int32} {D : Dt} (hf : b_Model_needMarks_96 k57 v1 v3 D = some (rr, DD)) : G D 96 [(0, .ref (Γ.2.1 176)), (1, .int v1), (3, .int v3)] [] := by
  unfold b_Model_needMarks_96 at hf
  refine r_iconst (pc := 96) C (v := 1) d_Model_needMarks_96 (by decide) ?_
  refine r_goto (pc := 97) C (tgt := 101) d_Model_needMarks_97 (by decide) ?_
  exact r_lv (pc := 101) C [0, 1, 2] rfl (tb_Model_needMarks_101 C hk57 hf)
def s_Model_needMarks_57 (k57 : Int32 → Int32 → Int32 → Dt → Option (Int32 × Dt)) (v1 : Int32) (v2 : Int32) (v3 : Int32) (D : Dt) : Option (Int32 × Dt) :=
  (if (D 176 10) ≤ v3 then (if v2 = 0 then bnd (f_Model_meets 3 D) (fun x16 D17 => some (x16, D17)) else nm (wr D 176 44 0) (fun D3 => nm (wr D3 176 45 (-9)) (fun D4 => nm (wr D4 176 46 255) (fun D5 => nm (wr D5 176 47 255) (fun D6 => lp_Model_needMarks_145 FU v1 0 D6))))) else (if v2 = 0 then b_Model_needMarks_100 k57 v1 v3 D else bnd (f_Model_rowAt v1 v3 D) (fun x18 D19 => (if x18 = (-9) then b_Model_needMarks_96 k57 v1 v3 D19 else bnd (f_Model_rowAt v1 v3 D19) (fun x20 D21 => bnd (f_Model_in x20 0 999 D21) (fun x22 D23 => (if x22 = 0 then b_Model_needMarks_100 k57 v1 v3 D23 else b_Model_needMarks_96 k57 v1 v3 D23)))))))
def lp_Model_needMarks_57 (n : Nat) : Int32 → Int32 → Int32 → Dt → Option (Int32 × Dt) := itr (fun _ _ _ _ => none) (s_Model_needMarks_57) n
set_option maxHeartbeats 4000000 in
theorem ts_Model_needMarks_57 {Γ : GmT} {G : Dt → Nat → List (Nat × Value) → List Value → Prop} {rr : Int32} {DD : Dt} (C : Cx Γ "RiverTuesdaysModel" b_Model_needMarks 4 7 (some .int) (some (.int rr)) DD G) {k57 : Int32 → Int32 → Int32 → Dt → Option (Int32 × Dt)} (hk57 : ∀ (v1 : Int32) (v2 : Int32) (v3 : Int32) (D : Dt), k57 v1 v2 v3 D = some (rr, DD) → G D 57 [(0, .ref (Γ.2.1 176)), (1, .int v1), (2, .int v2), (3, .int v3)] []) {v1 : Int32} {v2 : Int32} {v3 : Int32} {D : Dt} (hf : s_Model_needMarks_57 k57 v1 v2 v3 D = some (rr, DD)) : G D 57 [(0, .ref (Γ.2.1 176)), (1, .int v1), (2, .int v2), (3, .int v3)] [] := by
  unfold s_Model_needMarks_57 at hf
  refine r_iload_n (pc := 57) C 3 d_Model_needMarks_57 rfl rfl ?_
  refine r_aload_n (pc := 58) C 0 d_Model_needMarks_58 rfl rfl ?_
  refine g_Model_n (pc := 59) C k_id176 Lf_Model_176 d_Model_needMarks_59 ?_
  refine r_icmp_ge (pc := 62) C (tgt := 108) d_Model_needMarks_62 (by decide) hf (fun c62 hf => ?_) (fun c62 hf => ?_)
  · refine r_iload_n (pc := 108) C 2 d_Model_needMarks_108 rfl rfl ?_
    refine r_if_ne (pc := 109) C (tgt := 118) d_Model_needMarks_109 (by decide) hf (fun c109 hf => ?_) (fun c109 hf => ?_)
    · refine r_aload_n (pc := 118) C 0 d_Model_needMarks_118 rfl rfl ?_
      refine r_iconst (pc := 119) C (v := 0) d_Model_needMarks_119 (by decide) ?_
      refine p_Model_fitMany (pc := 120) C k_id176 Lf_Model_291 d_Model_needMarks_120 ?_
      refine r_nmD hf (fun D3 hf => ?_)
      refine r_aload_n (pc := 123) C 0 d_Model_needMarks_123 rfl rfl ?_
      refine r_bipush (pc := 124) C (v := (-9)) d_Model_needMarks_124 (by decide) ?_
      refine p_Model_fitFirst (pc := 126) C k_id176 Lf_Model_294 d_Model_needMarks_126 ?_
      refine r_nmD hf (fun D4 hf => ?_)
      refine r_aload_n (pc := 129) C 0 d_Model_needMarks_129 rfl rfl ?_
      refine r_sipush (pc := 130) C (v := 255) d_Model_needMarks_130 (by decide) ?_
      refine p_Model_fitAll (pc := 133) C k_id176 Lf_Model_297 d_Model_needMarks_133 ?_
      refine r_nmD hf (fun D5 hf => ?_)
      refine r_aload_n (pc := 136) C 0 d_Model_needMarks_136 rfl rfl ?_
      refine r_sipush (pc := 137) C (v := 255) d_Model_needMarks_137 (by decide) ?_
      refine p_Model_fitNone (pc := 140) C k_id176 Lf_Model_300 d_Model_needMarks_140 ?_
      refine r_nmD hf (fun D6 hf => ?_)
      refine r_iconst (pc := 143) C (v := 0) d_Model_needMarks_143 (by decide) ?_
      refine r_istore_n (pc := 144) (lv' := [(3, .int 0), (0, .ref (Γ.2.1 176)), (1, .int v1), (2, .int v2)]) C d_Model_needMarks_144 rfl (Nat.le_of_ble_eq_true rfl) rfl ?_
      exact r_lv (pc := 145) C [1, 2, 0] rfl (tl_Model_needMarks_145 C FU v1 0 D6 hf)
    · refine r_aload_n (pc := 112) C 0 d_Model_needMarks_112 rfl rfl ?_
      refine r_iconst (pc := 113) C (v := 3) d_Model_needMarks_113 (by decide) ?_
      refine r_callVi (pc := 114) (As := [.int 3]) (rest := []) C ok_Model_meets Lm_Model_129 k_id176 (by decide) ⟨by decide, by decide⟩ rfl rfl (Nat.le_of_ble_eq_true rfl) d_Model_needMarks_114 hf (fun x D1 hc => c_Model_meets Γ hc) (fun x16 D17 hf => ?_)
      exact r_iret (pc := 117) C d_Model_needMarks_117 hf
  · refine r_iload_n (pc := 65) C 2 d_Model_needMarks_65 rfl rfl ?_
    refine r_if_eq (pc := 66) C (tgt := 100) d_Model_needMarks_66 (by decide) hf (fun c66 hf => ?_) (fun c66 hf => ?_)
    · exact r_lv (pc := 100) C [0, 1, 3] rfl (tb_Model_needMarks_100 C hk57 hf)
    · refine r_aload_n (pc := 69) C 0 d_Model_needMarks_69 rfl rfl ?_
      refine r_iload_n (pc := 70) C 1 d_Model_needMarks_70 rfl rfl ?_
      refine r_iload_n (pc := 71) C 3 d_Model_needMarks_71 rfl rfl ?_
      refine r_callVi (pc := 72) (As := [.int v1, .int v3]) (rest := []) C ok_Model_rowAt Lm_Model_133 k_id176 (by decide) ⟨by decide, by decide⟩ rfl rfl (Nat.le_of_ble_eq_true rfl) d_Model_needMarks_72 hf (fun x D1 hc => c_Model_rowAt Γ hc) (fun x18 D19 hf => ?_)
      refine r_bipush (pc := 75) C (v := (-9)) d_Model_needMarks_75 (by decide) ?_
      refine r_icmp_eq (pc := 77) C (tgt := 96) d_Model_needMarks_77 (by decide) hf (fun c77 hf => ?_) (fun c77 hf => ?_)
      · exact r_lv (pc := 96) C [0, 1, 3] rfl (tb_Model_needMarks_96 C hk57 hf)
      · refine r_aload_n (pc := 80) C 0 d_Model_needMarks_80 rfl rfl ?_
        refine r_iload_n (pc := 81) C 1 d_Model_needMarks_81 rfl rfl ?_
        refine r_iload_n (pc := 82) C 3 d_Model_needMarks_82 rfl rfl ?_
        refine r_callVi (pc := 83) (As := [.int v1, .int v3]) (rest := []) C ok_Model_rowAt Lm_Model_133 k_id176 (by decide) ⟨by decide, by decide⟩ rfl rfl (Nat.le_of_ble_eq_true rfl) d_Model_needMarks_83 hf (fun x D1 hc => c_Model_rowAt Γ hc) (fun x20 D21 hf => ?_)
        refine r_iconst (pc := 86) C (v := 0) d_Model_needMarks_86 (by decide) ?_
        refine r_sipush (pc := 87) C (v := 999) d_Model_needMarks_87 (by decide) ?_
        refine r_callSi (pc := 90) (As := [.int x20, .int 0, .int 999]) (rest := []) C ok_Model_in Lm_Model_118 ⟨by decide, by decide⟩ rfl rfl (Nat.le_of_ble_eq_true rfl) d_Model_needMarks_90 hf (fun x D1 hc => c_Model_in Γ hc) (fun x22 D23 hf => ?_)
        refine r_if_eq (pc := 93) C (tgt := 100) d_Model_needMarks_93 (by decide) hf (fun c93 hf => ?_) (fun c93 hf => ?_)
        · exact r_lv (pc := 100) C [0, 1, 3] rfl (tb_Model_needMarks_100 C hk57 hf)
        · exact r_lv (pc := 96) C [0, 1, 3] rfl (tb_Model_needMarks_96 C hk57 hf)
theorem tl_Model_needMarks_57 {Γ : GmT} {G : Dt → Nat → List (Nat × Value) → List Value → Prop} {rr : Int32} {DD : Dt} (C : Cx Γ "RiverTuesdaysModel" b_Model_needMarks 4 7 (some .int) (some (.int rr)) DD G) : ∀ (n : Nat) (v1 : Int32) (v2 : Int32) (v3 : Int32) (D : Dt), lp_Model_needMarks_57 n v1 v2 v3 D = some (rr, DD) → G D 57 [(0, .ref (Γ.2.1 176)), (1, .int v1), (2, .int v2), (3, .int v3)] [] := by
  intro n
  induction n with
  | zero =>
    intro v1 v2 v3 D hf
    exact absurd (show (none : Option (Int32 × Dt)) = some (rr, DD) from hf) (by simp)
  | succ n ih =>
    intro v1 v2 v3 D hf
    exact ts_Model_needMarks_57 C (k57 := lp_Model_needMarks_57 n) ih hf
def f_Model_needMarks (v1 : Int32) (D : Dt) : Option (Int32 × Dt) :=
  bnd (f_Model_isRow v1 D) (fun x1 D2 => (if x1 = 0 then some ((-1), D2) else (if (D2 176 10) = 0 then some ((-4), D2) else (if inb v1 6 = true then (if 0 ≤ (D2 178 v1.toNatClampNeg) then (if inb v1 6 = true then (if (D2 178 v1.toNatClampNeg) = (D2 176 10) then lp_Model_needMarks_57 FU v1 1 0 D2 else bnd (f_Model_meets 5 D2) (fun x24 D25 => some (x24, D25))) else none) else bnd (f_Model_meets 1 D2) (fun x26 D27 => some (x26, D27))) else none))))
set_option maxHeartbeats 4000000 in
theorem te_Model_needMarks {Γ : GmT} {G : Dt → Nat → List (Nat × Value) → List Value → Prop} {rr : Int32} {DD : Dt} (C : Cx Γ "RiverTuesdaysModel" b_Model_needMarks 4 7 (some .int) (some (.int rr)) DD G) {v1 : Int32} {D : Dt} (hf : f_Model_needMarks v1 D = some (rr, DD)) : G D 0 [(0, .ref (Γ.2.1 176)), (1, .int v1)] [] := by
  unfold f_Model_needMarks at hf
  refine r_iload_n (pc := 0) C 1 d_Model_needMarks_0 rfl rfl ?_
  refine r_callSi (pc := 1) (As := [.int v1]) (rest := []) C ok_Model_isRow Lm_Model_125 ⟨by decide, by decide⟩ rfl rfl (Nat.le_of_ble_eq_true rfl) d_Model_needMarks_1 hf (fun x D1 hc => c_Model_isRow Γ hc) (fun x1 D2 hf => ?_)
  refine r_if_ne (pc := 4) C (tgt := 9) d_Model_needMarks_4 (by decide) hf (fun c4 hf => ?_) (fun c4 hf => ?_)
  · refine r_aload_n (pc := 9) C 0 d_Model_needMarks_9 rfl rfl ?_
    refine g_Model_n (pc := 10) C k_id176 Lf_Model_176 d_Model_needMarks_10 ?_
    refine r_if_ne (pc := 13) C (tgt := 19) d_Model_needMarks_13 (by decide) hf (fun c13 hf => ?_) (fun c13 hf => ?_)
    · refine r_aload_n (pc := 19) C 0 d_Model_needMarks_19 rfl rfl ?_
      refine g_Model_sizes (pc := 20) C k_id176 Lf_Model_13 d_Model_needMarks_20 ?_
      refine r_iload_n (pc := 23) C 1 d_Model_needMarks_23 rfl rfl ?_
      refine r_iald (pc := 24) C kq_Model_sizes d_Model_needMarks_24 hf (fun hf => ?_)
      refine r_if_ge (pc := 25) C (tgt := 34) d_Model_needMarks_25 (by decide) hf (fun c25 hf => ?_) (fun c25 hf => ?_)
      · refine r_aload_n (pc := 34) C 0 d_Model_needMarks_34 rfl rfl ?_
        refine g_Model_sizes (pc := 35) C k_id176 Lf_Model_13 d_Model_needMarks_35 ?_
        refine r_iload_n (pc := 38) C 1 d_Model_needMarks_38 rfl rfl ?_
        refine r_iald (pc := 39) C kq_Model_sizes d_Model_needMarks_39 hf (fun hf => ?_)
        refine r_aload_n (pc := 40) C 0 d_Model_needMarks_40 rfl rfl ?_
        refine g_Model_n (pc := 41) C k_id176 Lf_Model_176 d_Model_needMarks_41 ?_
        refine r_icmp_eq (pc := 44) C (tgt := 53) d_Model_needMarks_44 (by decide) hf (fun c44 hf => ?_) (fun c44 hf => ?_)
        · refine r_iconst (pc := 53) C (v := 1) d_Model_needMarks_53 (by decide) ?_
          refine r_istore_n (pc := 54) (lv' := [(2, .int 1), (0, .ref (Γ.2.1 176)), (1, .int v1)]) C d_Model_needMarks_54 rfl (Nat.le_of_ble_eq_true rfl) rfl ?_
          refine r_iconst (pc := 55) C (v := 0) d_Model_needMarks_55 (by decide) ?_
          refine r_istore_n (pc := 56) (lv' := [(3, .int 0), (2, .int 1), (0, .ref (Γ.2.1 176)), (1, .int v1)]) C d_Model_needMarks_56 rfl (Nat.le_of_ble_eq_true rfl) rfl ?_
          exact r_lv (pc := 57) C [2, 3, 1, 0] rfl (tl_Model_needMarks_57 C FU v1 1 0 D2 hf)
        · refine r_aload_n (pc := 47) C 0 d_Model_needMarks_47 rfl rfl ?_
          refine r_iconst (pc := 48) C (v := 5) d_Model_needMarks_48 (by decide) ?_
          refine r_callVi (pc := 49) (As := [.int 5]) (rest := []) C ok_Model_meets Lm_Model_129 k_id176 (by decide) ⟨by decide, by decide⟩ rfl rfl (Nat.le_of_ble_eq_true rfl) d_Model_needMarks_49 hf (fun x D1 hc => c_Model_meets Γ hc) (fun x24 D25 hf => ?_)
          exact r_iret (pc := 52) C d_Model_needMarks_52 hf
      · refine r_aload_n (pc := 28) C 0 d_Model_needMarks_28 rfl rfl ?_
        refine r_iconst (pc := 29) C (v := 1) d_Model_needMarks_29 (by decide) ?_
        refine r_callVi (pc := 30) (As := [.int 1]) (rest := []) C ok_Model_meets Lm_Model_129 k_id176 (by decide) ⟨by decide, by decide⟩ rfl rfl (Nat.le_of_ble_eq_true rfl) d_Model_needMarks_30 hf (fun x D1 hc => c_Model_meets Γ hc) (fun x26 D27 hf => ?_)
        exact r_iret (pc := 33) C d_Model_needMarks_33 hf
    · refine r_bipush (pc := 16) C (v := (-4)) d_Model_needMarks_16 (by decide) ?_
      exact r_iret (pc := 18) C d_Model_needMarks_18 hf
  · refine r_iconst (pc := 7) C (v := (-1)) d_Model_needMarks_7 (by decide) ?_
    exact r_iret (pc := 8) C d_Model_needMarks_8 hf
theorem c_Model_needMarks (Γ : GmT) {v1 : Int32} {D : Dt} {rr : Int32} {DD : Dt} (hf : f_Model_needMarks v1 D = some (rr, DD)) : Mt Γ y_Model_needMarks b_Model_needMarks 4 (some .int) 7 [.ref (Γ.2.1 176), .int v1] D (some (.int rr)) DD := Mt_of (by decide) (Nat.le_of_ble_eq_true rfl) (fun G C => te_Model_needMarks C hf)
def f_Model_led (v1 : Int32) (D : Dt) : Option (Int32 × Dt) :=
  bnd (f_Model_needMarks v1 D) (fun x1 D2 => (if 0 ≤ x1 then bnd (f_Model_tells (D2 176 45) (D2 176 44) D2) (fun x3 D4 => some (x3, D4)) else some (x1, D2)))
set_option maxHeartbeats 4000000 in
theorem te_Model_led {Γ : GmT} {G : Dt → Nat → List (Nat × Value) → List Value → Prop} {rr : Int32} {DD : Dt} (C : Cx Γ "RiverTuesdaysModel" b_Model_led 3 8 (some .int) (some (.int rr)) DD G) {v1 : Int32} {D : Dt} (hf : f_Model_led v1 D = some (rr, DD)) : G D 0 [(0, .ref (Γ.2.1 176)), (1, .int v1)] [] := by
  unfold f_Model_led at hf
  refine r_aload_n (pc := 0) C 0 d_Model_led_0 rfl rfl ?_
  refine r_iload_n (pc := 1) C 1 d_Model_led_1 rfl rfl ?_
  refine r_callVi (pc := 2) (As := [.int v1]) (rest := []) C ok_Model_needMarks Lm_Model_306 k_id176 (by decide) ⟨by decide, by decide⟩ rfl rfl (Nat.le_of_ble_eq_true rfl) d_Model_led_2 hf (fun x D1 hc => c_Model_needMarks Γ hc) (fun x1 D2 hf => ?_)
  refine r_istore_n (pc := 5) (lv' := [(2, .int x1), (0, .ref (Γ.2.1 176)), (1, .int v1)]) C d_Model_led_5 rfl (Nat.le_of_ble_eq_true rfl) rfl ?_
  refine r_iload_n (pc := 6) C 0 d_Model_led_6 rfl rfl ?_
  refine r_if_ge (pc := 7) C (tgt := 14) d_Model_led_7 (by decide) hf (fun c7 hf => ?_) (fun c7 hf => ?_)
  · refine r_aload_n (pc := 14) C 1 d_Model_led_14 rfl rfl ?_
    refine r_aload_n (pc := 15) C 1 d_Model_led_15 rfl rfl ?_
    refine g_Model_fitFirst (pc := 16) C k_id176 Lf_Model_294 d_Model_led_16 ?_
    refine r_aload_n (pc := 19) C 1 d_Model_led_19 rfl rfl ?_
    refine g_Model_fitMany (pc := 20) C k_id176 Lf_Model_291 d_Model_led_20 ?_
    refine r_callVi (pc := 23) (As := [.int (D2 176 45), .int (D2 176 44)]) (rest := []) C ok_Model_tells Lm_Model_137 k_id176 (by decide) ⟨by decide, by decide⟩ rfl rfl (Nat.le_of_ble_eq_true rfl) d_Model_led_23 hf (fun x D1 hc => c_Model_tells Γ hc) (fun x3 D4 hf => ?_)
    exact r_iret (pc := 26) C d_Model_led_26 hf
  · refine r_iload_n (pc := 10) C 0 d_Model_led_10 rfl rfl ?_
    refine r_goto (pc := 11) C (tgt := 26) d_Model_led_11 (by decide) ?_
    exact r_iret (pc := 26) C d_Model_led_26 hf
theorem c_Model_led (Γ : GmT) {v1 : Int32} {D : Dt} {rr : Int32} {DD : Dt} (hf : f_Model_led v1 D = some (rr, DD)) : Mt Γ y_Model_led b_Model_led 3 (some .int) 8 [.ref (Γ.2.1 176), .int v1] D (some (.int rr)) DD := Mt_of (by decide) (Nat.le_of_ble_eq_true rfl) (fun G C => te_Model_led C hf)
def f_Model_sure (v1 : Int32) (D : Dt) : Option (Int32 × Dt) :=
  bnd (f_Model_needMarks v1 D) (fun x1 D2 => (if 0 ≤ x1 then (if (D2 176 44) = 0 then bnd (f_Model_meets 4 D2) (fun x5 D6 => some (x5, D6)) else bnd (f_Model_tells (D2 176 47) (D2 176 46) D2) (fun x3 D4 => some (x3, D4))) else some (x1, D2)))
set_option maxHeartbeats 4000000 in
theorem te_Model_sure {Γ : GmT} {G : Dt → Nat → List (Nat × Value) → List Value → Prop} {rr : Int32} {DD : Dt} (C : Cx Γ "RiverTuesdaysModel" b_Model_sure 3 8 (some .int) (some (.int rr)) DD G) {v1 : Int32} {D : Dt} (hf : f_Model_sure v1 D = some (rr, DD)) : G D 0 [(0, .ref (Γ.2.1 176)), (1, .int v1)] [] := by
  unfold f_Model_sure at hf
  refine r_aload_n (pc := 0) C 0 d_Model_sure_0 rfl rfl ?_
  refine r_iload_n (pc := 1) C 1 d_Model_sure_1 rfl rfl ?_
  refine r_callVi (pc := 2) (As := [.int v1]) (rest := []) C ok_Model_needMarks Lm_Model_306 k_id176 (by decide) ⟨by decide, by decide⟩ rfl rfl (Nat.le_of_ble_eq_true rfl) d_Model_sure_2 hf (fun x D1 hc => c_Model_needMarks Γ hc) (fun x1 D2 hf => ?_)
  refine r_istore_n (pc := 5) (lv' := [(2, .int x1), (0, .ref (Γ.2.1 176)), (1, .int v1)]) C d_Model_sure_5 rfl (Nat.le_of_ble_eq_true rfl) rfl ?_
  refine r_iload_n (pc := 6) C 0 d_Model_sure_6 rfl rfl ?_
  refine r_if_ge (pc := 7) C (tgt := 12) d_Model_sure_7 (by decide) hf (fun c7 hf => ?_) (fun c7 hf => ?_)
  · refine r_aload_n (pc := 12) C 1 d_Model_sure_12 rfl rfl ?_
    refine g_Model_fitMany (pc := 13) C k_id176 Lf_Model_291 d_Model_sure_13 ?_
    refine r_if_ne (pc := 16) C (tgt := 27) d_Model_sure_16 (by decide) hf (fun c16 hf => ?_) (fun c16 hf => ?_)
    · refine r_aload_n (pc := 27) C 1 d_Model_sure_27 rfl rfl ?_
      refine r_aload_n (pc := 28) C 1 d_Model_sure_28 rfl rfl ?_
      refine g_Model_fitNone (pc := 29) C k_id176 Lf_Model_300 d_Model_sure_29 ?_
      refine r_aload_n (pc := 32) C 1 d_Model_sure_32 rfl rfl ?_
      refine g_Model_fitAll (pc := 33) C k_id176 Lf_Model_297 d_Model_sure_33 ?_
      refine r_callVi (pc := 36) (As := [.int (D2 176 47), .int (D2 176 46)]) (rest := []) C ok_Model_tells Lm_Model_137 k_id176 (by decide) ⟨by decide, by decide⟩ rfl rfl (Nat.le_of_ble_eq_true rfl) d_Model_sure_36 hf (fun x D1 hc => c_Model_tells Γ hc) (fun x3 D4 hf => ?_)
      exact r_iret (pc := 39) C d_Model_sure_39 hf
    · refine r_aload_n (pc := 19) C 1 d_Model_sure_19 rfl rfl ?_
      refine r_iconst (pc := 20) C (v := 4) d_Model_sure_20 (by decide) ?_
      refine r_callVi (pc := 21) (As := [.int 4]) (rest := []) C ok_Model_meets Lm_Model_129 k_id176 (by decide) ⟨by decide, by decide⟩ rfl rfl (Nat.le_of_ble_eq_true rfl) d_Model_sure_21 hf (fun x D1 hc => c_Model_meets Γ hc) (fun x5 D6 hf => ?_)
      refine r_goto (pc := 24) C (tgt := 39) d_Model_sure_24 (by decide) ?_
      exact r_iret (pc := 39) C d_Model_sure_39 hf
  · refine r_iload_n (pc := 10) C 0 d_Model_sure_10 rfl rfl ?_
    exact r_iret (pc := 11) C d_Model_sure_11 hf
theorem c_Model_sure (Γ : GmT) {v1 : Int32} {D : Dt} {rr : Int32} {DD : Dt} (hf : f_Model_sure v1 D = some (rr, DD)) : Mt Γ y_Model_sure b_Model_sure 3 (some .int) 8 [.ref (Γ.2.1 176), .int v1] D (some (.int rr)) DD := Mt_of (by decide) (Nat.le_of_ble_eq_true rfl) (fun G C => te_Model_sure C hf)
def b_Model_leftBy_78 (k26 : Int32 → Int32 → Int32 → Dt → Option (Int32 × Dt)) (v1 : Int32) (v2 : Int32) (v3 : Int32) (D : Dt) : Option (Int32 × Dt) :=
  k26 v1 v2 (v3 + 1) D
set_option maxHeartbeats 4000000 in
theorem tb_Model_leftBy_78 {Γ : GmT} {G : Dt → Nat → List (Nat × Value) → List Value → Prop} {rr : Int32} {DD : Dt} (C : Cx Γ "RiverTuesdaysModel" b_Model_leftBy 4 7 (some .int) (some (.int rr)) DD G) {k26 : Int32 → Int32 → Int32 → Dt → Option (Int32 × Dt)} (hk26 : ∀ (v1 : Int32) (v2 : Int32) (v3 : Int32) (D : Dt), k26 v1 v2 v3 D = some (rr, DD) → G D 26 [(0, .ref (Γ.2.1 176)), (1, .int v1), (2, .int v2), (3, .int v3)] []) {v1 : Int32} {v2 : Int32} {v3 : Int32} {D : Dt} (hf : b_Model_leftBy_78 k26 v1 v2 v3 D = some (rr, DD)) : G D 78 [(0, .ref (Γ.2.1 176)), (1, .int v1), (2, .int v2), (3, .int v3)] [] := by
  unfold b_Model_leftBy_78 at hf
  refine r_iinc (pc := 78) C (v := v3 + 1) (lv' := [(3, .int (v3 + 1)), (0, .ref (Γ.2.1 176)), (1, .int v1), (2, .int v2)]) 3 d_Model_leftBy_78 rfl rfl (Nat.le_of_ble_eq_true rfl) rfl ?_
  refine r_goto (pc := 81) C (tgt := 26) d_Model_leftBy_81 (by decide) ?_
  exact r_lv (pc := 26) C [1, 2, 3, 0] rfl (hk26 v1 v2 (v3 + 1) D hf)
def s_Model_leftBy_26 (k26 : Int32 → Int32 → Int32 → Dt → Option (Int32 × Dt)) (v1 : Int32) (v2 : Int32) (v3 : Int32) (D : Dt) : Option (Int32 × Dt) :=
  (if 256 ≤ v3 then some (v2, D) else (if inb v3 256 = true then (if (D 203 v3.toNatClampNeg) = 0 then b_Model_leftBy_78 k26 v1 v2 v3 D else bnd (f_Model_layTuesday v3 D) (fun x1 D2 => (if inb v1 8 = true then (if inb (D2 202 v1.toNatClampNeg) 1000 = true then (if inb (D2 202 v1.toNatClampNeg) 1000 = true then nm (wr D2 204 (D2 202 v1.toNatClampNeg).toNatClampNeg ((D2 204 (D2 202 v1.toNatClampNeg).toNatClampNeg) + 1)) (fun D3 => (if inb v1 8 = true then (if inb (D3 202 v1.toNatClampNeg) 1000 = true then bnd (f_Model_greater v2 (D3 204 (D3 202 v1.toNatClampNeg).toNatClampNeg) D3) (fun x4 D5 => b_Model_leftBy_78 k26 v1 x4 v3 D5) else none) else none)) else none) else none) else none))) else none))
def lp_Model_leftBy_26 (n : Nat) : Int32 → Int32 → Int32 → Dt → Option (Int32 × Dt) := itr (fun _ _ _ _ => none) (s_Model_leftBy_26) n
set_option maxHeartbeats 4000000 in
theorem ts_Model_leftBy_26 {Γ : GmT} {G : Dt → Nat → List (Nat × Value) → List Value → Prop} {rr : Int32} {DD : Dt} (C : Cx Γ "RiverTuesdaysModel" b_Model_leftBy 4 7 (some .int) (some (.int rr)) DD G) {k26 : Int32 → Int32 → Int32 → Dt → Option (Int32 × Dt)} (hk26 : ∀ (v1 : Int32) (v2 : Int32) (v3 : Int32) (D : Dt), k26 v1 v2 v3 D = some (rr, DD) → G D 26 [(0, .ref (Γ.2.1 176)), (1, .int v1), (2, .int v2), (3, .int v3)] []) {v1 : Int32} {v2 : Int32} {v3 : Int32} {D : Dt} (hf : s_Model_leftBy_26 k26 v1 v2 v3 D = some (rr, DD)) : G D 26 [(0, .ref (Γ.2.1 176)), (1, .int v1), (2, .int v2), (3, .int v3)] [] := by
  unfold s_Model_leftBy_26 at hf
  refine r_iload_n (pc := 26) C 3 d_Model_leftBy_26 rfl rfl ?_
  refine r_sipush (pc := 27) C (v := 256) d_Model_leftBy_27 (by decide) ?_
  refine r_icmp_ge (pc := 30) C (tgt := 84) d_Model_leftBy_30 (by decide) hf (fun c30 hf => ?_) (fun c30 hf => ?_)
  · refine r_iload_n (pc := 84) C 2 d_Model_leftBy_84 rfl rfl ?_
    exact r_iret (pc := 85) C d_Model_leftBy_85 hf
  · refine r_aload_n (pc := 33) C 0 d_Model_leftBy_33 rfl rfl ?_
    refine g_Model_fitting (pc := 34) C k_id176 Lf_Model_90 d_Model_leftBy_34 ?_
    refine r_iload_n (pc := 37) C 3 d_Model_leftBy_37 rfl rfl ?_
    refine r_zald (pc := 38) C kq_Model_fitting d_Model_leftBy_38 hf (fun hf => ?_)
    refine r_if_eq (pc := 39) C (tgt := 78) d_Model_leftBy_39 (by decide) hf (fun c39 hf => ?_) (fun c39 hf => ?_)
    · exact r_lv (pc := 78) C [0, 1, 2, 3] rfl (tb_Model_leftBy_78 C hk26 hf)
    · refine r_aload_n (pc := 42) C 0 d_Model_leftBy_42 rfl rfl ?_
      refine r_iload_n (pc := 43) C 3 d_Model_leftBy_43 rfl rfl ?_
      refine r_callVv (pc := 44) (As := [.int v3]) (rest := []) C ok_Model_layTuesday Lm_Model_278 k_id176 (by decide) ⟨by decide, by decide⟩ rfl rfl (Nat.le_of_ble_eq_true rfl) d_Model_leftBy_44 hf (fun x D1 hc => c_Model_layTuesday Γ hc) (fun x1 D2 hf => ?_)
      refine r_aload_n (pc := 47) C 0 d_Model_leftBy_47 rfl rfl ?_
      refine g_Model_byMark (pc := 48) C k_id176 Lf_Model_93 d_Model_leftBy_48 ?_
      refine r_aload_n (pc := 51) C 0 d_Model_leftBy_51 rfl rfl ?_
      refine g_Model_marksOf (pc := 52) C k_id176 Lf_Model_87 d_Model_leftBy_52 ?_
      refine r_iload_n (pc := 55) C 1 d_Model_leftBy_55 rfl rfl ?_
      refine r_iald (pc := 56) C kq_Model_marksOf d_Model_leftBy_56 hf (fun hf => ?_)
      refine r_dup2 (pc := 57) C d_Model_leftBy_57 rfl rfl ?_
      refine r_iald (pc := 58) C kq_Model_byMark d_Model_leftBy_58 hf (fun hf => ?_)
      refine r_iconst (pc := 59) C (v := 1) d_Model_leftBy_59 (by decide) ?_
      refine r_iadd (pc := 60) C d_Model_leftBy_60 ?_
      refine r_iast (pc := 61) C kq_Model_byMark d_Model_leftBy_61 hf (fun hf => ?_)
      refine r_nmD hf (fun D3 hf => ?_)
      refine r_iload_n (pc := 62) C 2 d_Model_leftBy_62 rfl rfl ?_
      refine r_aload_n (pc := 63) C 0 d_Model_leftBy_63 rfl rfl ?_
      refine g_Model_byMark (pc := 64) C k_id176 Lf_Model_93 d_Model_leftBy_64 ?_
      refine r_aload_n (pc := 67) C 0 d_Model_leftBy_67 rfl rfl ?_
      refine g_Model_marksOf (pc := 68) C k_id176 Lf_Model_87 d_Model_leftBy_68 ?_
      refine r_iload_n (pc := 71) C 1 d_Model_leftBy_71 rfl rfl ?_
      refine r_iald (pc := 72) C kq_Model_marksOf d_Model_leftBy_72 hf (fun hf => ?_)
      refine r_iald (pc := 73) C kq_Model_byMark d_Model_leftBy_73 hf (fun hf => ?_)
      refine r_callSi (pc := 74) (As := [.int v2, .int (D3 204 (D3 202 v1.toNatClampNeg).toNatClampNeg)]) (rest := []) C ok_Model_greater Lm_Model_213 ⟨by decide, by decide⟩ rfl rfl (Nat.le_of_ble_eq_true rfl) d_Model_leftBy_74 hf (fun x D1 hc => c_Model_greater Γ hc) (fun x4 D5 hf => ?_)
      refine r_istore_n (pc := 77) (lv' := [(2, .int x4), (0, .ref (Γ.2.1 176)), (1, .int v1), (3, .int v3)]) C d_Model_leftBy_77 rfl (Nat.le_of_ble_eq_true rfl) rfl ?_
      exact r_lv (pc := 78) C [1, 2, 0, 3] rfl (tb_Model_leftBy_78 C hk26 hf)
theorem tl_Model_leftBy_26 {Γ : GmT} {G : Dt → Nat → List (Nat × Value) → List Value → Prop} {rr : Int32} {DD : Dt} (C : Cx Γ "RiverTuesdaysModel" b_Model_leftBy 4 7 (some .int) (some (.int rr)) DD G) : ∀ (n : Nat) (v1 : Int32) (v2 : Int32) (v3 : Int32) (D : Dt), lp_Model_leftBy_26 n v1 v2 v3 D = some (rr, DD) → G D 26 [(0, .ref (Γ.2.1 176)), (1, .int v1), (2, .int v2), (3, .int v3)] [] := by
  intro n
  induction n with
  | zero =>
    intro v1 v2 v3 D hf
    exact absurd (show (none : Option (Int32 × Dt)) = some (rr, DD) from hf) (by simp)
  | succ n ih =>
    intro v1 v2 v3 D hf
    exact ts_Model_leftBy_26 C (k26 := lp_Model_leftBy_26 n) ih hf
def s_Model_leftBy_2 (k2 : Int32 → Int32 → Dt → Option (Int32 × Dt)) (v1 : Int32) (v2 : Int32) (D : Dt) : Option (Int32 × Dt) :=
  (if 1000 ≤ v2 then lp_Model_leftBy_26 FU v1 0 0 D else (if inb v2 1000 = true then nm (wr D 204 v2.toNatClampNeg 0) (fun D6 => k2 v1 (v2 + 1) D6) else none))
def lp_Model_leftBy_2 (n : Nat) : Int32 → Int32 → Dt → Option (Int32 × Dt) := itr (fun _ _ _ => none) (s_Model_leftBy_2) n
set_option maxHeartbeats 4000000 in
theorem ts_Model_leftBy_2 {Γ : GmT} {G : Dt → Nat → List (Nat × Value) → List Value → Prop} {rr : Int32} {DD : Dt} (C : Cx Γ "RiverTuesdaysModel" b_Model_leftBy 4 7 (some .int) (some (.int rr)) DD G) {k2 : Int32 → Int32 → Dt → Option (Int32 × Dt)} (hk2 : ∀ (v1 : Int32) (v2 : Int32) (D : Dt), k2 v1 v2 D = some (rr, DD) → G D 2 [(0, .ref (Γ.2.1 176)), (1, .int v1), (2, .int v2)] []) {v1 : Int32} {v2 : Int32} {D : Dt} (hf : s_Model_leftBy_2 k2 v1 v2 D = some (rr, DD)) : G D 2 [(0, .ref (Γ.2.1 176)), (1, .int v1), (2, .int v2)] [] := by
  unfold s_Model_leftBy_2 at hf
  refine r_iload_n (pc := 2) C 2 d_Model_leftBy_2 rfl rfl ?_
  refine r_sipush (pc := 3) C (v := 1000) d_Model_leftBy_3 (by decide) ?_
  refine r_icmp_ge (pc := 6) C (tgt := 22) d_Model_leftBy_6 (by decide) hf (fun c6 hf => ?_) (fun c6 hf => ?_)
  · refine r_iconst (pc := 22) C (v := 0) d_Model_leftBy_22 (by decide) ?_
    refine r_istore_n (pc := 23) (lv' := [(2, .int 0), (0, .ref (Γ.2.1 176)), (1, .int v1)]) C d_Model_leftBy_23 rfl (Nat.le_of_ble_eq_true rfl) rfl ?_
    refine r_iconst (pc := 24) C (v := 0) d_Model_leftBy_24 (by decide) ?_
    refine r_istore_n (pc := 25) (lv' := [(3, .int 0), (2, .int 0), (0, .ref (Γ.2.1 176)), (1, .int v1)]) C d_Model_leftBy_25 rfl (Nat.le_of_ble_eq_true rfl) rfl ?_
    exact r_lv (pc := 26) C [2, 3, 1, 0] rfl (tl_Model_leftBy_26 C FU v1 0 0 D hf)
  · refine r_aload_n (pc := 9) C 0 d_Model_leftBy_9 rfl rfl ?_
    refine g_Model_byMark (pc := 10) C k_id176 Lf_Model_93 d_Model_leftBy_10 ?_
    refine r_iload_n (pc := 13) C 2 d_Model_leftBy_13 rfl rfl ?_
    refine r_iconst (pc := 14) C (v := 0) d_Model_leftBy_14 (by decide) ?_
    refine r_iast (pc := 15) C kq_Model_byMark d_Model_leftBy_15 hf (fun hf => ?_)
    refine r_nmD hf (fun D6 hf => ?_)
    refine r_iinc (pc := 16) C (v := v2 + 1) (lv' := [(2, .int (v2 + 1)), (0, .ref (Γ.2.1 176)), (1, .int v1)]) 2 d_Model_leftBy_16 rfl rfl (Nat.le_of_ble_eq_true rfl) rfl ?_
    refine r_goto (pc := 19) C (tgt := 2) d_Model_leftBy_19 (by decide) ?_
    exact r_lv (pc := 2) C [1, 2, 0] rfl (hk2 v1 (v2 + 1) D6 hf)
theorem tl_Model_leftBy_2 {Γ : GmT} {G : Dt → Nat → List (Nat × Value) → List Value → Prop} {rr : Int32} {DD : Dt} (C : Cx Γ "RiverTuesdaysModel" b_Model_leftBy 4 7 (some .int) (some (.int rr)) DD G) : ∀ (n : Nat) (v1 : Int32) (v2 : Int32) (D : Dt), lp_Model_leftBy_2 n v1 v2 D = some (rr, DD) → G D 2 [(0, .ref (Γ.2.1 176)), (1, .int v1), (2, .int v2)] [] := by
  intro n
  induction n with
  | zero =>
    intro v1 v2 D hf
    exact absurd (show (none : Option (Int32 × Dt)) = some (rr, DD) from hf) (by simp)
  | succ n ih =>
    intro v1 v2 D hf
    exact ts_Model_leftBy_2 C (k2 := lp_Model_leftBy_2 n) ih hf
def f_Model_leftBy (v1 : Int32) (D : Dt) : Option (Int32 × Dt) :=
  lp_Model_leftBy_2 FU v1 0 D
set_option maxHeartbeats 4000000 in
theorem te_Model_leftBy {Γ : GmT} {G : Dt → Nat → List (Nat × Value) → List Value → Prop} {rr : Int32} {DD : Dt} (C : Cx Γ "RiverTuesdaysModel" b_Model_leftBy 4 7 (some .int) (some (.int rr)) DD G) {v1 : Int32} {D : Dt} (hf : f_Model_leftBy v1 D = some (rr, DD)) : G D 0 [(0, .ref (Γ.2.1 176)), (1, .int v1)] [] := by
  unfold f_Model_leftBy at hf
  refine r_iconst (pc := 0) C (v := 0) d_Model_leftBy_0 (by decide) ?_
  refine r_istore_n (pc := 1) (lv' := [(2, .int 0), (0, .ref (Γ.2.1 176)), (1, .int v1)]) C d_Model_leftBy_1 rfl (Nat.le_of_ble_eq_true rfl) rfl ?_
  exact r_lv (pc := 2) C [1, 2, 0] rfl (tl_Model_leftBy_2 C FU v1 0 D hf)
theorem c_Model_leftBy (Γ : GmT) {v1 : Int32} {D : Dt} {rr : Int32} {DD : Dt} (hf : f_Model_leftBy v1 D = some (rr, DD)) : Mt Γ y_Model_leftBy b_Model_leftBy 4 (some .int) 7 [.ref (Γ.2.1 176), .int v1] D (some (.int rr)) DD := Mt_of (by decide) (Nat.le_of_ble_eq_true rfl) (fun G C => te_Model_leftBy C hf)
def b_Model_look_83 (k34 : Int32 → Int32 → Int32 → Int32 → Dt → Option (Int32 × Dt)) (v1 : Int32) (v3 : Int32) (v4 : Int32) (v5 : Int32) (D : Dt) : Option (Int32 × Dt) :=
  k34 v1 v3 v4 (v5 + 1) D
set_option maxHeartbeats 4000000 in
theorem tb_Model_look_83 {Γ : GmT} {G : Dt → Nat → List (Nat × Value) → List Value → Prop} {rr : Int32} {DD : Dt} (C : Cx Γ "RiverTuesdaysModel" b_Model_look 7 8 (some .int) (some (.int rr)) DD G) {k34 : Int32 → Int32 → Int32 → Int32 → Dt → Option (Int32 × Dt)} (hk34 : ∀ (v1 : Int32) (v3 : Int32) (v4 : Int32) (v5 : Int32) (D : Dt), k34 v1 v3 v4 v5 D = some (rr, DD) → G D 34 [(0, .ref (Γ.2.1 176)), (1, .int v1), (3, .int v3), (4, .int v4), (5, .int v5)] []) {v1 : Int32} {v3 : Int32} {v4 : Int32} {v5 : Int32} {D : Dt} (hf : b_Model_look_83 k34 v1 v3 v4 v5 D = some (rr, DD)) : G D 83 [(0, .ref (Γ.2.1 176)), (1, .int v1), (3, .int v3), (4, .int v4), (5, .int v5)] [] := by
  unfold b_Model_look_83 at hf
  refine r_iinc (pc := 83) C (v := v5 + 1) (lv' := [(5, .int (v5 + 1)), (0, .ref (Γ.2.1 176)), (1, .int v1), (3, .int v3), (4, .int v4)]) 4 d_Model_look_83 rfl rfl (Nat.le_of_ble_eq_true rfl) rfl ?_
  refine r_goto (pc := 86) C (tgt := 34) d_Model_look_86 (by decide) ?_
  exact r_lv (pc := 34) C [1, 2, 3, 4, 0] rfl (hk34 v1 v3 v4 (v5 + 1) D hf)
def b_Model_look_76 (k34 : Int32 → Int32 → Int32 → Int32 → Dt → Option (Int32 × Dt)) (v1 : Int32) (v5 : Int32) (v6 : Int32) (D : Dt) : Option (Int32 × Dt) :=
  b_Model_look_83 k34 v1 v5 v6 v5 D
set_option maxHeartbeats 4000000 in
theorem tb_Model_look_76 {Γ : GmT} {G : Dt → Nat → List (Nat × Value) → List Value → Prop} {rr : Int32} {DD : Dt} (C : Cx Γ "RiverTuesdaysModel" b_Model_look 7 8 (some .int) (some (.int rr)) DD G) {k34 : Int32 → Int32 → Int32 → Int32 → Dt → Option (Int32 × Dt)} (hk34 : ∀ (v1 : Int32) (v3 : Int32) (v4 : Int32) (v5 : Int32) (D : Dt), k34 v1 v3 v4 v5 D = some (rr, DD) → G D 34 [(0, .ref (Γ.2.1 176)), (1, .int v1), (3, .int v3), (4, .int v4), (5, .int v5)] []) {v1 : Int32} {v5 : Int32} {v6 : Int32} {D : Dt} (hf : b_Model_look_76 k34 v1 v5 v6 D = some (rr, DD)) : G D 76 [(0, .ref (Γ.2.1 176)), (1, .int v1), (5, .int v5), (6, .int v6)] [] := by
  unfold b_Model_look_76 at hf
  refine r_iload (pc := 76) C 2 d_Model_look_76 rfl ?_
  refine r_istore_n (pc := 78) (lv' := [(3, .int v5), (0, .ref (Γ.2.1 176)), (1, .int v1), (5, .int v5), (6, .int v6)]) C d_Model_look_78 rfl (Nat.le_of_ble_eq_true rfl) rfl ?_
  refine r_iload (pc := 79) C 4 d_Model_look_79 rfl ?_
  refine r_istore (pc := 81) (lv' := [(4, .int v6), (3, .int v5), (0, .ref (Γ.2.1 176)), (1, .int v1), (5, .int v5), (6, .int v6)]) C d_Model_look_81 (Nat.le_of_ble_eq_true rfl) rfl ?_
  exact r_lv (pc := 83) C [2, 3, 1, 0, 4] rfl (tb_Model_look_83 C hk34 hf)
def s_Model_look_34 (k34 : Int32 → Int32 → Int32 → Int32 → Dt → Option (Int32 × Dt)) (v1 : Int32) (v3 : Int32) (v4 : Int32) (v5 : Int32) (D : Dt) : Option (Int32 × Dt) :=
  (if (D 176 10) ≤ v5 then (if v3 = (-9) then some ((-9), D) else bnd (f_Model_tells v4 v3 D) (fun x3 D4 => some (x3, D4))) else bnd (f_Model_rowAt v1 v5 D) (fun x5 D6 => (if x5 = (-9) then bnd (f_Model_leftBy v5 D6) (fun x7 D8 => (if v3 = (-9) then b_Model_look_76 k34 v1 v5 x7 D8 else (if v4 ≤ x7 then b_Model_look_83 k34 v1 v3 v4 v5 D8 else b_Model_look_76 k34 v1 v5 x7 D8))) else b_Model_look_83 k34 v1 v3 v4 v5 D6)))
def lp_Model_look_34 (n : Nat) : Int32 → Int32 → Int32 → Int32 → Dt → Option (Int32 × Dt) := itr (fun _ _ _ _ _ => none) (s_Model_look_34) n
set_option maxHeartbeats 4000000 in
theorem ts_Model_look_34 {Γ : GmT} {G : Dt → Nat → List (Nat × Value) → List Value → Prop} {rr : Int32} {DD : Dt} (C : Cx Γ "RiverTuesdaysModel" b_Model_look 7 8 (some .int) (some (.int rr)) DD G) {k34 : Int32 → Int32 → Int32 → Int32 → Dt → Option (Int32 × Dt)} (hk34 : ∀ (v1 : Int32) (v3 : Int32) (v4 : Int32) (v5 : Int32) (D : Dt), k34 v1 v3 v4 v5 D = some (rr, DD) → G D 34 [(0, .ref (Γ.2.1 176)), (1, .int v1), (3, .int v3), (4, .int v4), (5, .int v5)] []) {v1 : Int32} {v3 : Int32} {v4 : Int32} {v5 : Int32} {D : Dt} (hf : s_Model_look_34 k34 v1 v3 v4 v5 D = some (rr, DD)) : G D 34 [(0, .ref (Γ.2.1 176)), (1, .int v1), (3, .int v3), (4, .int v4), (5, .int v5)] [] := by
  unfold s_Model_look_34 at hf
  refine r_iload (pc := 34) C 4 d_Model_look_34 rfl ?_
  refine r_aload_n (pc := 36) C 0 d_Model_look_36 rfl rfl ?_
  refine g_Model_n (pc := 37) C k_id176 Lf_Model_176 d_Model_look_37 ?_
  refine r_icmp_ge (pc := 40) C (tgt := 89) d_Model_look_40 (by decide) hf (fun c40 hf => ?_) (fun c40 hf => ?_)
  · refine r_iload_n (pc := 89) C 2 d_Model_look_89 rfl rfl ?_
    refine r_bipush (pc := 90) C (v := (-9)) d_Model_look_90 (by decide) ?_
    refine r_icmp_ne (pc := 92) C (tgt := 100) d_Model_look_92 (by decide) hf (fun c92 hf => ?_) (fun c92 hf => ?_)
    · refine r_aload_n (pc := 100) C 0 d_Model_look_100 rfl rfl ?_
      refine r_iload (pc := 101) C 3 d_Model_look_101 rfl ?_
      refine r_iload_n (pc := 103) C 2 d_Model_look_103 rfl rfl ?_
      refine r_callVi (pc := 104) (As := [.int v4, .int v3]) (rest := []) C ok_Model_tells Lm_Model_137 k_id176 (by decide) ⟨by decide, by decide⟩ rfl rfl (Nat.le_of_ble_eq_true rfl) d_Model_look_104 hf (fun x D1 hc => c_Model_tells Γ hc) (fun x3 D4 hf => ?_)
      exact r_iret (pc := 107) C d_Model_look_107 hf
    · refine r_bipush (pc := 95) C (v := (-9)) d_Model_look_95 (by decide) ?_
      refine r_goto (pc := 97) C (tgt := 107) d_Model_look_97 (by decide) ?_
      exact r_iret (pc := 107) C d_Model_look_107 hf
  · refine r_aload_n (pc := 43) C 0 d_Model_look_43 rfl rfl ?_
    refine r_iload_n (pc := 44) C 1 d_Model_look_44 rfl rfl ?_
    refine r_iload (pc := 45) C 4 d_Model_look_45 rfl ?_
    refine r_callVi (pc := 47) (As := [.int v1, .int v5]) (rest := []) C ok_Model_rowAt Lm_Model_133 k_id176 (by decide) ⟨by decide, by decide⟩ rfl rfl (Nat.le_of_ble_eq_true rfl) d_Model_look_47 hf (fun x D1 hc => c_Model_rowAt Γ hc) (fun x5 D6 hf => ?_)
    refine r_bipush (pc := 50) C (v := (-9)) d_Model_look_50 (by decide) ?_
    refine r_icmp_ne (pc := 52) C (tgt := 83) d_Model_look_52 (by decide) hf (fun c52 hf => ?_) (fun c52 hf => ?_)
    · exact r_lv (pc := 83) C [0, 1, 2, 3, 4] rfl (tb_Model_look_83 C hk34 hf)
    · refine r_aload_n (pc := 55) C 0 d_Model_look_55 rfl rfl ?_
      refine r_iload (pc := 56) C 4 d_Model_look_56 rfl ?_
      refine r_callVi (pc := 58) (As := [.int v5]) (rest := []) C ok_Model_leftBy Lm_Model_309 k_id176 (by decide) ⟨by decide, by decide⟩ rfl rfl (Nat.le_of_ble_eq_true rfl) d_Model_look_58 hf (fun x D1 hc => c_Model_leftBy Γ hc) (fun x7 D8 hf => ?_)
      refine r_istore (pc := 61) (lv' := [(6, .int x7), (0, .ref (Γ.2.1 176)), (1, .int v1), (3, .int v3), (4, .int v4), (5, .int v5)]) C d_Model_look_61 (Nat.le_of_ble_eq_true rfl) rfl ?_
      refine r_iload_n (pc := 63) C 3 d_Model_look_63 rfl rfl ?_
      refine r_bipush (pc := 64) C (v := (-9)) d_Model_look_64 (by decide) ?_
      refine r_icmp_eq (pc := 66) C (tgt := 76) d_Model_look_66 (by decide) hf (fun c66 hf => ?_) (fun c66 hf => ?_)
      · exact r_lv (pc := 76) C [1, 2, 5, 0] rfl (tb_Model_look_76 C hk34 hf)
      · refine r_iload (pc := 69) C 0 d_Model_look_69 rfl ?_
        refine r_iload (pc := 71) C 4 d_Model_look_71 rfl ?_
        refine r_icmp_ge (pc := 73) C (tgt := 83) d_Model_look_73 (by decide) hf (fun c73 hf => ?_) (fun c73 hf => ?_)
        · exact r_lv (pc := 83) C [1, 2, 3, 4, 5] rfl (tb_Model_look_83 C hk34 hf)
        · exact r_lv (pc := 76) C [1, 2, 5, 0] rfl (tb_Model_look_76 C hk34 hf)
theorem tl_Model_look_34 {Γ : GmT} {G : Dt → Nat → List (Nat × Value) → List Value → Prop} {rr : Int32} {DD : Dt} (C : Cx Γ "RiverTuesdaysModel" b_Model_look 7 8 (some .int) (some (.int rr)) DD G) : ∀ (n : Nat) (v1 : Int32) (v3 : Int32) (v4 : Int32) (v5 : Int32) (D : Dt), lp_Model_look_34 n v1 v3 v4 v5 D = some (rr, DD) → G D 34 [(0, .ref (Γ.2.1 176)), (1, .int v1), (3, .int v3), (4, .int v4), (5, .int v5)] [] := by
  intro n
  induction n with
  | zero =>
    intro v1 v3 v4 v5 D hf
    exact absurd (show (none : Option (Int32 × Dt)) = some (rr, DD) from hf) (by simp)
  | succ n ih =>
    intro v1 v3 v4 v5 D hf
    exact ts_Model_look_34 C (k34 := lp_Model_look_34 n) ih hf
def f_Model_look (v1 : Int32) (D : Dt) : Option (Int32 × Dt) :=
  bnd (f_Model_needMarks v1 D) (fun x1 D2 => (if 0 ≤ x1 then (if (D2 176 44) = 0 then bnd (f_Model_meets 4 D2) (fun x9 D10 => some (x9, D10)) else lp_Model_look_34 FU v1 (-9) 0 0 D2) else some (x1, D2)))
set_option maxHeartbeats 4000000 in
theorem te_Model_look {Γ : GmT} {G : Dt → Nat → List (Nat × Value) → List Value → Prop} {rr : Int32} {DD : Dt} (C : Cx Γ "RiverTuesdaysModel" b_Model_look 7 8 (some .int) (some (.int rr)) DD G) {v1 : Int32} {D : Dt} (hf : f_Model_look v1 D = some (rr, DD)) : G D 0 [(0, .ref (Γ.2.1 176)), (1, .int v1)] [] := by
  unfold f_Model_look at hf
  refine r_aload_n (pc := 0) C 0 d_Model_look_0 rfl rfl ?_
  refine r_iload_n (pc := 1) C 1 d_Model_look_1 rfl rfl ?_
  refine r_callVi (pc := 2) (As := [.int v1]) (rest := []) C ok_Model_needMarks Lm_Model_306 k_id176 (by decide) ⟨by decide, by decide⟩ rfl rfl (Nat.le_of_ble_eq_true rfl) d_Model_look_2 hf (fun x D1 hc => c_Model_needMarks Γ hc) (fun x1 D2 hf => ?_)
  refine r_istore_n (pc := 5) (lv' := [(2, .int x1), (0, .ref (Γ.2.1 176)), (1, .int v1)]) C d_Model_look_5 rfl (Nat.le_of_ble_eq_true rfl) rfl ?_
  refine r_iload_n (pc := 6) C 0 d_Model_look_6 rfl rfl ?_
  refine r_if_ge (pc := 7) C (tgt := 12) d_Model_look_7 (by decide) hf (fun c7 hf => ?_) (fun c7 hf => ?_)
  · refine r_aload_n (pc := 12) C 1 d_Model_look_12 rfl rfl ?_
    refine g_Model_fitMany (pc := 13) C k_id176 Lf_Model_291 d_Model_look_13 ?_
    refine r_if_ne (pc := 16) C (tgt := 25) d_Model_look_16 (by decide) hf (fun c16 hf => ?_) (fun c16 hf => ?_)
    · refine r_bipush (pc := 25) C (v := (-9)) d_Model_look_25 (by decide) ?_
      refine r_istore_n (pc := 27) (lv' := [(3, .int ((-9))), (2, .int x1), (0, .ref (Γ.2.1 176)), (1, .int v1)]) C d_Model_look_27 rfl (Nat.le_of_ble_eq_true rfl) rfl ?_
      refine r_iconst (pc := 28) C (v := 0) d_Model_look_28 (by decide) ?_
      refine r_istore (pc := 29) (lv' := [(4, .int 0), (3, .int ((-9))), (2, .int x1), (0, .ref (Γ.2.1 176)), (1, .int v1)]) C d_Model_look_29 (Nat.le_of_ble_eq_true rfl) rfl ?_
      refine r_iconst (pc := 31) C (v := 0) d_Model_look_31 (by decide) ?_
      refine r_istore (pc := 32) (lv' := [(5, .int 0), (4, .int 0), (3, .int ((-9))), (2, .int x1), (0, .ref (Γ.2.1 176)), (1, .int v1)]) C d_Model_look_32 (Nat.le_of_ble_eq_true rfl) rfl ?_
      exact r_lv (pc := 34) C [4, 5, 2, 1, 0] rfl (tl_Model_look_34 C FU v1 (-9) 0 0 D2 hf)
    · refine r_aload_n (pc := 19) C 1 d_Model_look_19 rfl rfl ?_
      refine r_iconst (pc := 20) C (v := 4) d_Model_look_20 (by decide) ?_
      refine r_callVi (pc := 21) (As := [.int 4]) (rest := []) C ok_Model_meets Lm_Model_129 k_id176 (by decide) ⟨by decide, by decide⟩ rfl rfl (Nat.le_of_ble_eq_true rfl) d_Model_look_21 hf (fun x D1 hc => c_Model_meets Γ hc) (fun x9 D10 hf => ?_)
      exact r_iret (pc := 24) C d_Model_look_24 hf
  · refine r_iload_n (pc := 10) C 0 d_Model_look_10 rfl rfl ?_
    exact r_iret (pc := 11) C d_Model_look_11 hf
theorem c_Model_look (Γ : GmT) {v1 : Int32} {D : Dt} {rr : Int32} {DD : Dt} (hf : f_Model_look v1 D = some (rr, DD)) : Mt Γ y_Model_look b_Model_look 7 (some .int) 8 [.ref (Γ.2.1 176), .int v1] D (some (.int rr)) DD := Mt_of (by decide) (Nat.le_of_ble_eq_true rfl) (fun G C => te_Model_look C hf)
def s_Model_raises_38 (self : Int32 → Int32 → Int32 → Dt → Option (Int32 × Dt)) (k38 : Int32 → Int32 → Int32 → Int32 → Int32 → Dt → Option (Int32 × Dt)) (v1 : Int32) (v2 : Int32) (v3 : Int32) (v4 : Int32) (v5 : Int32) (D : Dt) : Option (Int32 × Dt) :=
  (if v3 < v5 then (if v4 = 0 ∨ v4 = 1 then some (v4, D) else none) else (if v4 = 0 then (if inb v2 8 = true then nm (wr D 205 v2.toNatClampNeg v5) (fun D1 => (if inb v2 8 = true then (if inb v2 8 = true then nm (wr D1 185 v2.toNatClampNeg ((D1 185 v2.toNatClampNeg) + v5)) (fun D2 => bnd (self v1 (v2 + 1) (v3 - v5) D2) (fun x3 D4 => (if inb v2 8 = true then (if inb v2 8 = true then nm (wr D4 185 v2.toNatClampNeg ((D4 185 v2.toNatClampNeg) - v5)) (fun D5 => k38 v1 v2 v3 x3 (v5 + 1) D5) else none) else none))) else none) else none)) else none) else (if v4 = 0 ∨ v4 = 1 then some (v4, D) else none)))
def lp_Model_raises_38 (self : Int32 → Int32 → Int32 → Dt → Option (Int32 × Dt)) (n : Nat) : Int32 → Int32 → Int32 → Int32 → Int32 → Dt → Option (Int32 × Dt) := itr (fun _ _ _ _ _ _ => none) (s_Model_raises_38 self) n
set_option maxHeartbeats 4000000 in
theorem ts_Model_raises_38 {Γ : GmT} {G : Dt → Nat → List (Nat × Value) → List Value → Prop} {rr : Int32} {DD : Dt} {d : Nat} (C : Cx Γ "RiverTuesdaysModel" b_Model_raises 6 (8 + d) (some .boolean) (some (.int rr)) DD G) {self : Int32 → Int32 → Int32 → Dt → Option (Int32 × Dt)} (hself : ∀ (v1 : Int32) (v2 : Int32) (v3 : Int32) (D : Dt) (x : Int32) (D1 : Dt), self v1 v2 v3 D = some (x, D1) → Mt Γ y_Model_raises b_Model_raises 6 (some .boolean) (7 + d) [.ref (Γ.2.1 176), .int v1, .int v2, .int v3] D (some (.int x)) D1) {k38 : Int32 → Int32 → Int32 → Int32 → Int32 → Dt → Option (Int32 × Dt)} (hk38 : ∀ (v1 : Int32) (v2 : Int32) (v3 : Int32) (v4 : Int32) (v5 : Int32) (D : Dt), k38 v1 v2 v3 v4 v5 D = some (rr, DD) → G D 38 [(0, .ref (Γ.2.1 176)), (1, .int v1), (2, .int v2), (3, .int v3), (4, .int v4), (5, .int v5)] []) {v1 : Int32} {v2 : Int32} {v3 : Int32} {v4 : Int32} {v5 : Int32} {D : Dt} (hf : s_Model_raises_38 self k38 v1 v2 v3 v4 v5 D = some (rr, DD)) : G D 38 [(0, .ref (Γ.2.1 176)), (1, .int v1), (2, .int v2), (3, .int v3), (4, .int v4), (5, .int v5)] [] := by
  unfold s_Model_raises_38 at hf
  refine r_iload (pc := 38) C 5 d_Model_raises_38 rfl ?_
  refine r_iload_n (pc := 40) C 3 d_Model_raises_40 rfl rfl ?_
  refine r_icmp_gt (pc := 41) C (tgt := 99) d_Model_raises_41 (by decide) hf (fun c41 hf => ?_) (fun c41 hf => ?_)
  · refine r_iload (pc := 99) C 4 d_Model_raises_99 rfl ?_
    exact r_zretc (pc := 101) C d_Model_raises_101 hf
  · refine r_iload (pc := 44) C 4 d_Model_raises_44 rfl ?_
    refine r_if_ne (pc := 46) C (tgt := 99) d_Model_raises_46 (by decide) hf (fun c46 hf => ?_) (fun c46 hf => ?_)
    · refine r_iload (pc := 99) C 4 d_Model_raises_99 rfl ?_
      exact r_zretc (pc := 101) C d_Model_raises_101 hf
    · refine r_aload_n (pc := 49) C 0 d_Model_raises_49 rfl rfl ?_
      refine g_Model_raised (pc := 50) C k_id176 Lf_Model_96 d_Model_raises_50 ?_
      refine r_iload_n (pc := 53) C 2 d_Model_raises_53 rfl rfl ?_
      refine r_iload (pc := 54) C 5 d_Model_raises_54 rfl ?_
      refine r_iast (pc := 56) C kq_Model_raised d_Model_raises_56 hf (fun hf => ?_)
      refine r_nmD hf (fun D1 hf => ?_)
      refine r_aload_n (pc := 57) C 0 d_Model_raises_57 rfl rfl ?_
      refine g_Model_sills (pc := 58) C k_id176 Lf_Model_35 d_Model_raises_58 ?_
      refine r_iload_n (pc := 61) C 2 d_Model_raises_61 rfl rfl ?_
      refine r_dup2 (pc := 62) C d_Model_raises_62 rfl rfl ?_
      refine r_iald (pc := 63) C kq_Model_sills d_Model_raises_63 hf (fun hf => ?_)
      refine r_iload (pc := 64) C 5 d_Model_raises_64 rfl ?_
      refine r_iadd (pc := 66) C d_Model_raises_66 ?_
      refine r_iast (pc := 67) C kq_Model_sills d_Model_raises_67 hf (fun hf => ?_)
      refine r_nmD hf (fun D2 hf => ?_)
      refine r_aload_n (pc := 68) C 0 d_Model_raises_68 rfl rfl ?_
      refine r_iload_n (pc := 69) C 1 d_Model_raises_69 rfl rfl ?_
      refine r_iload_n (pc := 70) C 2 d_Model_raises_70 rfl rfl ?_
      refine r_iconst (pc := 71) C (v := 1) d_Model_raises_71 (by decide) ?_
      refine r_iadd (pc := 72) C d_Model_raises_72 ?_
      refine r_iload_n (pc := 73) C 3 d_Model_raises_73 rfl rfl ?_
      refine r_iload (pc := 74) C 5 d_Model_raises_74 rfl ?_
      refine r_isub (pc := 76) C d_Model_raises_76 ?_
      refine r_callVi (pc := 77) (As := [.int v1, .int (v2 + 1), .int (v3 - v5)]) (rest := []) C ok_Model_raises Lm_Model_312 k_id176 (by decide) ⟨by omega, by omega⟩ rfl rfl (Nat.le_of_ble_eq_true rfl) d_Model_raises_77 hf (fun x D1 hc => hself v1 (v2 + 1) (v3 - v5) _ x D1 hc) (fun x3 D4 hf => ?_)
      refine r_istore (pc := 80) (lv' := [(4, .int x3), (0, .ref (Γ.2.1 176)), (1, .int v1), (2, .int v2), (3, .int v3), (5, .int v5)]) C d_Model_raises_80 (Nat.le_of_ble_eq_true rfl) rfl ?_
      refine r_aload_n (pc := 82) C 1 d_Model_raises_82 rfl rfl ?_
      refine g_Model_sills (pc := 83) C k_id176 Lf_Model_35 d_Model_raises_83 ?_
      refine r_iload_n (pc := 86) C 3 d_Model_raises_86 rfl rfl ?_
      refine r_dup2 (pc := 87) C d_Model_raises_87 rfl rfl ?_
      refine r_iald (pc := 88) C kq_Model_sills d_Model_raises_88 hf (fun hf => ?_)
      refine r_iload (pc := 89) C 5 d_Model_raises_89 rfl ?_
      refine r_isub (pc := 91) C d_Model_raises_91 ?_
      refine r_iast (pc := 92) C kq_Model_sills d_Model_raises_92 hf (fun hf => ?_)
      refine r_nmD hf (fun D5 hf => ?_)
      refine r_iinc (pc := 93) C (v := v5 + 1) (lv' := [(5, .int (v5 + 1)), (4, .int x3), (0, .ref (Γ.2.1 176)), (1, .int v1), (2, .int v2), (3, .int v3)]) 5 d_Model_raises_93 rfl rfl (Nat.le_of_ble_eq_true rfl) rfl ?_
      refine r_goto (pc := 96) C (tgt := 38) d_Model_raises_96 (by decide) ?_
      exact r_lv (pc := 38) C [2, 3, 4, 5, 1, 0] rfl (hk38 v1 v2 v3 x3 (v5 + 1) D5 hf)
theorem tl_Model_raises_38 {Γ : GmT} {G : Dt → Nat → List (Nat × Value) → List Value → Prop} {rr : Int32} {DD : Dt} {d : Nat} (C : Cx Γ "RiverTuesdaysModel" b_Model_raises 6 (8 + d) (some .boolean) (some (.int rr)) DD G) {self : Int32 → Int32 → Int32 → Dt → Option (Int32 × Dt)} (hself : ∀ (v1 : Int32) (v2 : Int32) (v3 : Int32) (D : Dt) (x : Int32) (D1 : Dt), self v1 v2 v3 D = some (x, D1) → Mt Γ y_Model_raises b_Model_raises 6 (some .boolean) (7 + d) [.ref (Γ.2.1 176), .int v1, .int v2, .int v3] D (some (.int x)) D1) : ∀ (n : Nat) (v1 : Int32) (v2 : Int32) (v3 : Int32) (v4 : Int32) (v5 : Int32) (D : Dt), lp_Model_raises_38 self n v1 v2 v3 v4 v5 D = some (rr, DD) → G D 38 [(0, .ref (Γ.2.1 176)), (1, .int v1), (2, .int v2), (3, .int v3), (4, .int v4), (5, .int v5)] [] := by
  intro n
  induction n with
  | zero =>
    intro v1 v2 v3 v4 v5 D hf
    exact absurd (show (none : Option (Int32 × Dt)) = some (rr, DD) from hf) (by simp)
  | succ n ih =>
    intro v1 v2 v3 v4 v5 D hf
    exact ts_Model_raises_38 C hself (k38 := lp_Model_raises_38 self n) ih hf
def e_Model_raises (self : Int32 → Int32 → Int32 → Dt → Option (Int32 × Dt)) (v1 : Int32) (v2 : Int32) (v3 : Int32) (D : Dt) : Option (Int32 × Dt) :=
  (if v2 = (D 176 10) then (if v3 ≤ 0 then bnd (f_Model_layTuesday v1 D) (fun x6 D7 => (if (D7 176 35) = 0 then some (1, D7) else some (0, D7))) else some (0, D)) else lp_Model_raises_38 self FU v1 v2 v3 0 0 D)
def f_Model_raises (n : Nat) : Int32 → Int32 → Int32 → Dt → Option (Int32 × Dt) := itr (fun _ _ _ _ => none) e_Model_raises n
set_option maxHeartbeats 4000000 in
theorem te_Model_raises {Γ : GmT} {G : Dt → Nat → List (Nat × Value) → List Value → Prop} {rr : Int32} {DD : Dt} {d : Nat} (C : Cx Γ "RiverTuesdaysModel" b_Model_raises 6 (8 + d) (some .boolean) (some (.int rr)) DD G) {self : Int32 → Int32 → Int32 → Dt → Option (Int32 × Dt)} (hself : ∀ (v1 : Int32) (v2 : Int32) (v3 : Int32) (D : Dt) (x : Int32) (D1 : Dt), self v1 v2 v3 D = some (x, D1) → Mt Γ y_Model_raises b_Model_raises 6 (some .boolean) (7 + d) [.ref (Γ.2.1 176), .int v1, .int v2, .int v3] D (some (.int x)) D1) {v1 : Int32} {v2 : Int32} {v3 : Int32} {D : Dt} (hf : e_Model_raises self v1 v2 v3 D = some (rr, DD)) : G D 0 [(0, .ref (Γ.2.1 176)), (1, .int v1), (2, .int v2), (3, .int v3)] [] := by
  unfold e_Model_raises at hf
  refine r_iload_n (pc := 0) C 2 d_Model_raises_0 rfl rfl ?_
  refine r_aload_n (pc := 1) C 0 d_Model_raises_1 rfl rfl ?_
  refine g_Model_n (pc := 2) C k_id176 Lf_Model_176 d_Model_raises_2 ?_
  refine r_icmp_ne (pc := 5) C (tgt := 32) d_Model_raises_5 (by decide) hf (fun c5 hf => ?_) (fun c5 hf => ?_)
  · refine r_iconst (pc := 32) C (v := 0) d_Model_raises_32 (by decide) ?_
    refine r_istore (pc := 33) (lv' := [(4, .int 0), (0, .ref (Γ.2.1 176)), (1, .int v1), (2, .int v2), (3, .int v3)]) C d_Model_raises_33 (Nat.le_of_ble_eq_true rfl) rfl ?_
    refine r_iconst (pc := 35) C (v := 0) d_Model_raises_35 (by decide) ?_
    refine r_istore (pc := 36) (lv' := [(5, .int 0), (4, .int 0), (0, .ref (Γ.2.1 176)), (1, .int v1), (2, .int v2), (3, .int v3)]) C d_Model_raises_36 (Nat.le_of_ble_eq_true rfl) rfl ?_
    exact r_lv (pc := 38) C [2, 3, 4, 5, 1, 0] rfl (tl_Model_raises_38 C hself FU v1 v2 v3 0 0 D hf)
  · refine r_iload_n (pc := 8) C 3 d_Model_raises_8 rfl rfl ?_
    refine r_if_le (pc := 9) C (tgt := 14) d_Model_raises_9 (by decide) hf (fun c9 hf => ?_) (fun c9 hf => ?_)
    · refine r_aload_n (pc := 14) C 0 d_Model_raises_14 rfl rfl ?_
      refine r_iload_n (pc := 15) C 1 d_Model_raises_15 rfl rfl ?_
      refine r_callVv (pc := 16) (As := [.int v1]) (rest := []) C ok_Model_layTuesday Lm_Model_278 k_id176 (by decide) ⟨by omega, by omega⟩ rfl rfl (Nat.le_of_ble_eq_true rfl) d_Model_raises_16 hf (fun x D1 hc => c_Model_layTuesday Γ hc) (fun x6 D7 hf => ?_)
      refine r_aload_n (pc := 19) C 0 d_Model_raises_19 rfl rfl ?_
      refine g_Model_harmOf (pc := 20) C k_id176 Lf_Model_242 d_Model_raises_20 ?_
      refine r_if_ne (pc := 23) C (tgt := 30) d_Model_raises_23 (by decide) hf (fun c23 hf => ?_) (fun c23 hf => ?_)
      · refine r_iconst (pc := 30) C (v := 0) d_Model_raises_30 (by decide) ?_
        exact r_zret (pc := 31) C d_Model_raises_31 rfl hf
      · refine r_iconst (pc := 26) C (v := 1) d_Model_raises_26 (by decide) ?_
        refine r_goto (pc := 27) C (tgt := 31) d_Model_raises_27 (by decide) ?_
        exact r_zret (pc := 31) C d_Model_raises_31 rfl hf
    · refine r_iconst (pc := 12) C (v := 0) d_Model_raises_12 (by decide) ?_
      exact r_zret (pc := 13) C d_Model_raises_13 rfl hf
theorem cd_Model_raises (Γ : GmT) : ∀ (d : Nat) (v1 : Int32) (v2 : Int32) (v3 : Int32) (D : Dt) (rr : Int32) (DD : Dt), f_Model_raises d v1 v2 v3 D = some (rr, DD) → Mt Γ y_Model_raises b_Model_raises 6 (some .boolean) (7 + d) [.ref (Γ.2.1 176), .int v1, .int v2, .int v3] D (some (.int rr)) DD := by
  intro d
  induction d with
  | zero =>
    intro v1 v2 v3 D rr DD hf
    exact absurd (show (none : Option (Int32 × Dt)) = some (rr, DD) from hf) (by simp)
  | succ d ih =>
    intro v1 v2 v3 D rr DD hf
    exact Mt_of (fr := 7 + (d + 1)) (by decide) (Nat.le_of_ble_eq_true rfl) (fun G C => te_Model_raises (d := d) (by rw [show 7 + 1 + d = 7 + (d + 1) by omega]; exact C) (self := f_Model_raises d) ih hf)
theorem c_Model_raises (Γ : GmT) (d : Nat) {v1 : Int32} {v2 : Int32} {v3 : Int32} {D : Dt} {rr : Int32} {DD : Dt} (hf : f_Model_raises d v1 v2 v3 D = some (rr, DD)) : Mt Γ y_Model_raises b_Model_raises 6 (some .boolean) (7 + d) [.ref (Γ.2.1 176), .int v1, .int v2, .int v3] D (some (.int rr)) DD := cd_Model_raises Γ d v1 v2 v3 D rr DD hf
def b_Model_raise_94 (k56 : Int32 → Int32 → Int32 → Dt → Option (Int32 × Dt)) (v2 : Int32) (v3 : Int32) (v4 : Int32) (s0 : Int32) (s1 : Int32) (rs2 : Nat) (D : Dt) : Option (Int32 × Dt) :=
  (if inb s1 360 = true then nm (wr D rs2 s1.toNatClampNeg s0) (fun D8 => k56 v2 v3 (v4 + 1) D8) else none)
set_option maxHeartbeats 4000000 in
theorem tb_Model_raise_94 {Γ : GmT} {G : Dt → Nat → List (Nat × Value) → List Value → Prop} {rr : Int32} {DD : Dt} (C : Cx Γ "RiverTuesdaysModel" b_Model_raise 5 18 (some .int) (some (.int rr)) DD G) {k56 : Int32 → Int32 → Int32 → Dt → Option (Int32 × Dt)} (hk56 : ∀ (v2 : Int32) (v3 : Int32) (v4 : Int32) (D : Dt), k56 v2 v3 v4 D = some (rr, DD) → G D 56 [(0, .ref (Γ.2.1 176)), (2, .int v2), (3, .int v3), (4, .int v4)] []) {v2 : Int32} {v3 : Int32} {v4 : Int32} {s0 : Int32} {s1 : Int32} {rs2 : Nat} (hrs2 : isA 11 rs2 360) {D : Dt} (hf : b_Model_raise_94 k56 v2 v3 v4 s0 s1 rs2 D = some (rr, DD)) : G D 94 [(0, .ref (Γ.2.1 176)), (2, .int v2), (3, .int v3), (4, .int v4)] [.int s0, .int s1, .ref (Γ.2.1 rs2)] := by
  unfold b_Model_raise_94 at hf
  refine r_iast (pc := 94) C hrs2 d_Model_raise_94 hf (fun hf => ?_)
  refine r_nmD hf (fun D8 hf => ?_)
  refine r_iinc (pc := 95) C (v := v4 + 1) (lv' := [(4, .int (v4 + 1)), (0, .ref (Γ.2.1 176)), (2, .int v2), (3, .int v3)]) 3 d_Model_raise_95 rfl rfl (Nat.le_of_ble_eq_true rfl) rfl ?_
  refine r_goto (pc := 98) C (tgt := 56) d_Model_raise_98 (by decide) ?_
  exact r_lv (pc := 56) C [1, 2, 3, 0] rfl (hk56 v2 v3 (v4 + 1) D8 hf)
def s_Model_raise_56 (k56 : Int32 → Int32 → Int32 → Dt → Option (Int32 × Dt)) (v2 : Int32) (v3 : Int32) (v4 : Int32) (D : Dt) : Option (Int32 × Dt) :=
  (if 60 ≤ v4 then some (v3, D) else (if (D 176 10) ≤ v4 then b_Model_raise_94 k56 v2 v3 v4 0 ((60 * v2) + v4) 179 D else (if inb v4 8 = true then b_Model_raise_94 k56 v2 v3 v4 (D 205 v4.toNatClampNeg) ((60 * v2) + v4) 179 D else none)))
def lp_Model_raise_56 (n : Nat) : Int32 → Int32 → Int32 → Dt → Option (Int32 × Dt) := itr (fun _ _ _ _ => none) (s_Model_raise_56) n
set_option maxHeartbeats 4000000 in
theorem ts_Model_raise_56 {Γ : GmT} {G : Dt → Nat → List (Nat × Value) → List Value → Prop} {rr : Int32} {DD : Dt} (C : Cx Γ "RiverTuesdaysModel" b_Model_raise 5 18 (some .int) (some (.int rr)) DD G) {k56 : Int32 → Int32 → Int32 → Dt → Option (Int32 × Dt)} (hk56 : ∀ (v2 : Int32) (v3 : Int32) (v4 : Int32) (D : Dt), k56 v2 v3 v4 D = some (rr, DD) → G D 56 [(0, .ref (Γ.2.1 176)), (2, .int v2), (3, .int v3), (4, .int v4)] []) {v2 : Int32} {v3 : Int32} {v4 : Int32} {D : Dt} (hf : s_Model_raise_56 k56 v2 v3 v4 D = some (rr, DD)) : G D 56 [(0, .ref (Γ.2.1 176)), (2, .int v2), (3, .int v3), (4, .int v4)] [] := by
  unfold s_Model_raise_56 at hf
  refine r_iload (pc := 56) C 3 d_Model_raise_56 rfl ?_
  refine r_bipush (pc := 58) C (v := 60) d_Model_raise_58 (by decide) ?_
  refine r_icmp_ge (pc := 60) C (tgt := 101) d_Model_raise_60 (by decide) hf (fun c60 hf => ?_) (fun c60 hf => ?_)
  · refine r_iload_n (pc := 101) C 2 d_Model_raise_101 rfl rfl ?_
    exact r_iret (pc := 102) C d_Model_raise_102 hf
  · refine r_aload_n (pc := 63) C 0 d_Model_raise_63 rfl rfl ?_
    refine g_Model_rows (pc := 64) C k_id176 Lf_Model_16 d_Model_raise_64 ?_
    refine r_bipush (pc := 67) C (v := 60) d_Model_raise_67 (by decide) ?_
    refine r_iload_n (pc := 69) C 1 d_Model_raise_69 rfl rfl ?_
    refine r_imul (pc := 70) C d_Model_raise_70 ?_
    refine r_iload (pc := 71) C 3 d_Model_raise_71 rfl ?_
    refine r_iadd (pc := 73) C d_Model_raise_73 ?_
    refine r_iload (pc := 74) C 3 d_Model_raise_74 rfl ?_
    refine r_aload_n (pc := 76) C 0 d_Model_raise_76 rfl rfl ?_
    refine g_Model_n (pc := 77) C k_id176 Lf_Model_176 d_Model_raise_77 ?_
    refine r_icmp_ge (pc := 80) C (tgt := 93) d_Model_raise_80 (by decide) hf (fun c80 hf => ?_) (fun c80 hf => ?_)
    · refine r_iconst (pc := 93) C (v := 0) d_Model_raise_93 (by decide) ?_
      exact r_lv (pc := 94) C [0, 1, 2, 3] rfl (tb_Model_raise_94 C hk56 kq_Model_rows hf)
    · refine r_aload_n (pc := 83) C 0 d_Model_raise_83 rfl rfl ?_
      refine g_Model_raised (pc := 84) C k_id176 Lf_Model_96 d_Model_raise_84 ?_
      refine r_iload (pc := 87) C 3 d_Model_raise_87 rfl ?_
      refine r_iald (pc := 89) C kq_Model_raised d_Model_raise_89 hf (fun hf => ?_)
      refine r_goto (pc := 90) C (tgt := 94) d_Model_raise_90 (by decide) ?_
      exact r_lv (pc := 94) C [0, 1, 2, 3] rfl (tb_Model_raise_94 C hk56 kq_Model_rows hf)
theorem tl_Model_raise_56 {Γ : GmT} {G : Dt → Nat → List (Nat × Value) → List Value → Prop} {rr : Int32} {DD : Dt} (C : Cx Γ "RiverTuesdaysModel" b_Model_raise 5 18 (some .int) (some (.int rr)) DD G) : ∀ (n : Nat) (v2 : Int32) (v3 : Int32) (v4 : Int32) (D : Dt), lp_Model_raise_56 n v2 v3 v4 D = some (rr, DD) → G D 56 [(0, .ref (Γ.2.1 176)), (2, .int v2), (3, .int v3), (4, .int v4)] [] := by
  intro n
  induction n with
  | zero =>
    intro v2 v3 v4 D hf
    exact absurd (show (none : Option (Int32 × Dt)) = some (rr, DD) from hf) (by simp)
  | succ n ih =>
    intro v2 v3 v4 D hf
    exact ts_Model_raise_56 C (k56 := lp_Model_raise_56 n) ih hf
def s_Model_raise_28 (k28 : Int32 → Int32 → Int32 → Dt → Option (Int32 × Dt)) (v1 : Int32) (v2 : Int32) (v3 : Int32) (D : Dt) : Option (Int32 × Dt) :=
  (if 4 < v3 then some ((-9), D) else bnd (f_Model_raises 10 v1 0 v3 D) (fun x5 D6 => (if x5 = 0 then k28 v1 v2 (v3 + 1) D6 else (if inb v2 6 = true then nm (wr D6 178 v2.toNatClampNeg (D6 176 10)) (fun D7 => lp_Model_raise_56 FU v2 v3 0 D7) else none))))
def lp_Model_raise_28 (n : Nat) : Int32 → Int32 → Int32 → Dt → Option (Int32 × Dt) := itr (fun _ _ _ _ => none) (s_Model_raise_28) n
set_option maxHeartbeats 4000000 in
theorem ts_Model_raise_28 {Γ : GmT} {G : Dt → Nat → List (Nat × Value) → List Value → Prop} {rr : Int32} {DD : Dt} (C : Cx Γ "RiverTuesdaysModel" b_Model_raise 5 18 (some .int) (some (.int rr)) DD G) {k28 : Int32 → Int32 → Int32 → Dt → Option (Int32 × Dt)} (hk28 : ∀ (v1 : Int32) (v2 : Int32) (v3 : Int32) (D : Dt), k28 v1 v2 v3 D = some (rr, DD) → G D 28 [(0, .ref (Γ.2.1 176)), (1, .int v1), (2, .int v2), (3, .int v3)] []) {v1 : Int32} {v2 : Int32} {v3 : Int32} {D : Dt} (hf : s_Model_raise_28 k28 v1 v2 v3 D = some (rr, DD)) : G D 28 [(0, .ref (Γ.2.1 176)), (1, .int v1), (2, .int v2), (3, .int v3)] [] := by
  unfold s_Model_raise_28 at hf
  refine r_iload_n (pc := 28) C 3 d_Model_raise_28 rfl rfl ?_
  refine r_iconst (pc := 29) C (v := 4) d_Model_raise_29 (by decide) ?_
  refine r_icmp_gt (pc := 30) C (tgt := 109) d_Model_raise_30 (by decide) hf (fun c30 hf => ?_) (fun c30 hf => ?_)
  · refine r_bipush (pc := 109) C (v := (-9)) d_Model_raise_109 (by decide) ?_
    exact r_iret (pc := 111) C d_Model_raise_111 hf
  · refine r_aload_n (pc := 33) C 0 d_Model_raise_33 rfl rfl ?_
    refine r_iload_n (pc := 34) C 1 d_Model_raise_34 rfl rfl ?_
    refine r_iconst (pc := 35) C (v := 0) d_Model_raise_35 (by decide) ?_
    refine r_iload_n (pc := 36) C 3 d_Model_raise_36 rfl rfl ?_
    refine r_callVi (pc := 37) (As := [.int v1, .int 0, .int v3]) (rest := []) C ok_Model_raises Lm_Model_312 k_id176 (by decide) ⟨by decide, by decide⟩ rfl rfl (Nat.le_of_ble_eq_true rfl) d_Model_raise_37 hf (fun x D1 hc => c_Model_raises Γ 10 hc) (fun x5 D6 hf => ?_)
    refine r_if_eq (pc := 40) C (tgt := 103) d_Model_raise_40 (by decide) hf (fun c40 hf => ?_) (fun c40 hf => ?_)
    · refine r_iinc (pc := 103) C (v := v3 + 1) (lv' := [(3, .int (v3 + 1)), (0, .ref (Γ.2.1 176)), (1, .int v1), (2, .int v2)]) 3 d_Model_raise_103 rfl rfl (Nat.le_of_ble_eq_true rfl) rfl ?_
      refine r_goto (pc := 106) C (tgt := 28) d_Model_raise_106 (by decide) ?_
      exact r_lv (pc := 28) C [1, 2, 3, 0] rfl (hk28 v1 v2 (v3 + 1) D6 hf)
    · refine r_aload_n (pc := 43) C 0 d_Model_raise_43 rfl rfl ?_
      refine g_Model_sizes (pc := 44) C k_id176 Lf_Model_13 d_Model_raise_44 ?_
      refine r_iload_n (pc := 47) C 2 d_Model_raise_47 rfl rfl ?_
      refine r_aload_n (pc := 48) C 0 d_Model_raise_48 rfl rfl ?_
      refine g_Model_n (pc := 49) C k_id176 Lf_Model_176 d_Model_raise_49 ?_
      refine r_iast (pc := 52) C kq_Model_sizes d_Model_raise_52 hf (fun hf => ?_)
      refine r_nmD hf (fun D7 hf => ?_)
      refine r_iconst (pc := 53) C (v := 0) d_Model_raise_53 (by decide) ?_
      refine r_istore (pc := 54) (lv' := [(4, .int 0), (0, .ref (Γ.2.1 176)), (1, .int v1), (2, .int v2), (3, .int v3)]) C d_Model_raise_54 (Nat.le_of_ble_eq_true rfl) rfl ?_
      exact r_lv (pc := 56) C [1, 3, 4, 0] rfl (tl_Model_raise_56 C FU v2 v3 0 D7 hf)
theorem tl_Model_raise_28 {Γ : GmT} {G : Dt → Nat → List (Nat × Value) → List Value → Prop} {rr : Int32} {DD : Dt} (C : Cx Γ "RiverTuesdaysModel" b_Model_raise 5 18 (some .int) (some (.int rr)) DD G) : ∀ (n : Nat) (v1 : Int32) (v2 : Int32) (v3 : Int32) (D : Dt), lp_Model_raise_28 n v1 v2 v3 D = some (rr, DD) → G D 28 [(0, .ref (Γ.2.1 176)), (1, .int v1), (2, .int v2), (3, .int v3)] [] := by
  intro n
  induction n with
  | zero =>
    intro v1 v2 v3 D hf
    exact absurd (show (none : Option (Int32 × Dt)) = some (rr, DD) from hf) (by simp)
  | succ n ih =>
    intro v1 v2 v3 D hf
    exact ts_Model_raise_28 C (k28 := lp_Model_raise_28 n) ih hf
def f_Model_raise (v1 : Int32) (v2 : Int32) (D : Dt) : Option (Int32 × Dt) :=
  bnd (f_Model_isPlan v1 D) (fun x1 D2 => (if x1 = 0 then some ((-1), D2) else bnd (f_Model_isRow v2 D2) (fun x3 D4 => (if x3 = 0 then some ((-1), D4) else (if (D4 176 10) = 0 then some ((-4), D4) else lp_Model_raise_28 FU v1 v2 0 D4)))))
set_option maxHeartbeats 4000000 in
theorem te_Model_raise {Γ : GmT} {G : Dt → Nat → List (Nat × Value) → List Value → Prop} {rr : Int32} {DD : Dt} (C : Cx Γ "RiverTuesdaysModel" b_Model_raise 5 18 (some .int) (some (.int rr)) DD G) {v1 : Int32} {v2 : Int32} {D : Dt} (hf : f_Model_raise v1 v2 D = some (rr, DD)) : G D 0 [(0, .ref (Γ.2.1 176)), (1, .int v1), (2, .int v2)] [] := by
  unfold f_Model_raise at hf
  refine r_iload_n (pc := 0) C 1 d_Model_raise_0 rfl rfl ?_
  refine r_callSi (pc := 1) (As := [.int v1]) (rest := []) C ok_Model_isPlan Lm_Model_275 ⟨by decide, by decide⟩ rfl rfl (Nat.le_of_ble_eq_true rfl) d_Model_raise_1 hf (fun x D1 hc => c_Model_isPlan Γ hc) (fun x1 D2 hf => ?_)
  refine r_if_eq (pc := 4) C (tgt := 14) d_Model_raise_4 (by decide) hf (fun c4 hf => ?_) (fun c4 hf => ?_)
  · refine r_iconst (pc := 14) C (v := (-1)) d_Model_raise_14 (by decide) ?_
    exact r_iret (pc := 15) C d_Model_raise_15 hf
  · refine r_iload_n (pc := 7) C 2 d_Model_raise_7 rfl rfl ?_
    refine r_callSi (pc := 8) (As := [.int v2]) (rest := []) C ok_Model_isRow Lm_Model_125 ⟨by decide, by decide⟩ rfl rfl (Nat.le_of_ble_eq_true rfl) d_Model_raise_8 hf (fun x D1 hc => c_Model_isRow Γ hc) (fun x3 D4 hf => ?_)
    refine r_if_ne (pc := 11) C (tgt := 16) d_Model_raise_11 (by decide) hf (fun c11 hf => ?_) (fun c11 hf => ?_)
    · refine r_aload_n (pc := 16) C 0 d_Model_raise_16 rfl rfl ?_
      refine g_Model_n (pc := 17) C k_id176 Lf_Model_176 d_Model_raise_17 ?_
      refine r_if_ne (pc := 20) C (tgt := 26) d_Model_raise_20 (by decide) hf (fun c20 hf => ?_) (fun c20 hf => ?_)
      · refine r_iconst (pc := 26) C (v := 0) d_Model_raise_26 (by decide) ?_
        refine r_istore_n (pc := 27) (lv' := [(3, .int 0), (0, .ref (Γ.2.1 176)), (1, .int v1), (2, .int v2)]) C d_Model_raise_27 rfl (Nat.le_of_ble_eq_true rfl) rfl ?_
        exact r_lv (pc := 28) C [1, 2, 3, 0] rfl (tl_Model_raise_28 C FU v1 v2 0 D4 hf)
      · refine r_bipush (pc := 23) C (v := (-4)) d_Model_raise_23 (by decide) ?_
        exact r_iret (pc := 25) C d_Model_raise_25 hf
    · refine r_iconst (pc := 14) C (v := (-1)) d_Model_raise_14 (by decide) ?_
      exact r_iret (pc := 15) C d_Model_raise_15 hf
theorem c_Model_raise (Γ : GmT) {v1 : Int32} {v2 : Int32} {D : Dt} {rr : Int32} {DD : Dt} (hf : f_Model_raise v1 v2 D = some (rr, DD)) : Mt Γ y_Model_raise b_Model_raise 5 (some .int) 18 [.ref (Γ.2.1 176), .int v1, .int v2] D (some (.int rr)) DD := Mt_of (by decide) (Nat.le_of_ble_eq_true rfl) (fun G C => te_Model_raise C hf)
def b_Model_whose_82 (k22 : Int32 → Int32 → Int32 → Int32 → Dt → Option (Int32 × Dt)) (v1 : Int32) (v3 : Int32) (v4 : Int32) (v5 : Int32) (D : Dt) : Option (Int32 × Dt) :=
  k22 v1 v3 v4 (v5 + 1) D
set_option maxHeartbeats 4000000 in
theorem tb_Model_whose_82 {Γ : GmT} {G : Dt → Nat → List (Nat × Value) → List Value → Prop} {rr : Int32} {DD : Dt} (C : Cx Γ "RiverTuesdaysModel" b_Model_whose 6 8 (some .int) (some (.int rr)) DD G) {k22 : Int32 → Int32 → Int32 → Int32 → Dt → Option (Int32 × Dt)} (hk22 : ∀ (v1 : Int32) (v3 : Int32) (v4 : Int32) (v5 : Int32) (D : Dt), k22 v1 v3 v4 v5 D = some (rr, DD) → G D 22 [(0, .ref (Γ.2.1 176)), (1, .int v1), (3, .int v3), (4, .int v4), (5, .int v5)] []) {v1 : Int32} {v3 : Int32} {v4 : Int32} {v5 : Int32} {D : Dt} (hf : b_Model_whose_82 k22 v1 v3 v4 v5 D = some (rr, DD)) : G D 82 [(0, .ref (Γ.2.1 176)), (1, .int v1), (3, .int v3), (4, .int v4), (5, .int v5)] [] := by
  unfold b_Model_whose_82 at hf
  refine r_iinc (pc := 82) C (v := v5 + 1) (lv' := [(5, .int (v5 + 1)), (0, .ref (Γ.2.1 176)), (1, .int v1), (3, .int v3), (4, .int v4)]) 4 d_Model_whose_82 rfl rfl (Nat.le_of_ble_eq_true rfl) rfl ?_
  refine r_goto (pc := 85) C (tgt := 22) d_Model_whose_85 (by decide) ?_
  exact r_lv (pc := 22) C [1, 2, 3, 4, 0] rfl (hk22 v1 v3 v4 (v5 + 1) D hf)
def b_Model_whose_73 (k22 : Int32 → Int32 → Int32 → Int32 → Dt → Option (Int32 × Dt)) (v1 : Int32) (v5 : Int32) (D : Dt) : Option (Int32 × Dt) :=
  b_Model_whose_82 k22 v1 v5 (D 176 35) v5 D
set_option maxHeartbeats 4000000 in
theorem tb_Model_whose_73 {Γ : GmT} {G : Dt → Nat → List (Nat × Value) → List Value → Prop} {rr : Int32} {DD : Dt} (C : Cx Γ "RiverTuesdaysModel" b_Model_whose 6 8 (some .int) (some (.int rr)) DD G) {k22 : Int32 → Int32 → Int32 → Int32 → Dt → Option (Int32 × Dt)} (hk22 : ∀ (v1 : Int32) (v3 : Int32) (v4 : Int32) (v5 : Int32) (D : Dt), k22 v1 v3 v4 v5 D = some (rr, DD) → G D 22 [(0, .ref (Γ.2.1 176)), (1, .int v1), (3, .int v3), (4, .int v4), (5, .int v5)] []) {v1 : Int32} {v5 : Int32} {D : Dt} (hf : b_Model_whose_73 k22 v1 v5 D = some (rr, DD)) : G D 73 [(0, .ref (Γ.2.1 176)), (1, .int v1), (5, .int v5)] [] := by
  unfold b_Model_whose_73 at hf
  refine r_iload (pc := 73) C 2 d_Model_whose_73 rfl ?_
  refine r_istore_n (pc := 75) (lv' := [(3, .int v5), (0, .ref (Γ.2.1 176)), (1, .int v1), (5, .int v5)]) C d_Model_whose_75 rfl (Nat.le_of_ble_eq_true rfl) rfl ?_
  refine r_aload_n (pc := 76) C 1 d_Model_whose_76 rfl rfl ?_
  refine g_Model_harmOf (pc := 77) C k_id176 Lf_Model_242 d_Model_whose_77 ?_
  refine r_istore (pc := 80) (lv' := [(4, .int (D 176 35)), (3, .int v5), (0, .ref (Γ.2.1 176)), (1, .int v1), (5, .int v5)]) C d_Model_whose_80 (Nat.le_of_ble_eq_true rfl) rfl ?_
  exact r_lv (pc := 82) C [2, 3, 1, 0, 4] rfl (tb_Model_whose_82 C hk22 hf)
def s_Model_whose_22 (k22 : Int32 → Int32 → Int32 → Int32 → Dt → Option (Int32 × Dt)) (v1 : Int32) (v3 : Int32) (v4 : Int32) (v5 : Int32) (D : Dt) : Option (Int32 × Dt) :=
  (if (D 176 10) ≤ v5 then bnd (f_Model_tells v4 v3 D) (fun x3 D4 => some (x3, D4)) else (if inb v5 8 = true then (if inb v5 8 = true then nm (wr D 185 v5.toNatClampNeg ((D 185 v5.toNatClampNeg) + 1)) (fun D5 => bnd (f_Model_layTuesday v1 D5) (fun x6 D7 => (if inb v5 8 = true then (if inb v5 8 = true then nm (wr D7 185 v5.toNatClampNeg ((D7 185 v5.toNatClampNeg) - 1)) (fun D8 => (if v3 = (-9) then b_Model_whose_73 k22 v1 v5 D8 else (if v4 ≤ (D8 176 35) then b_Model_whose_82 k22 v1 v3 v4 v5 D8 else b_Model_whose_73 k22 v1 v5 D8))) else none) else none))) else none) else none))
def lp_Model_whose_22 (n : Nat) : Int32 → Int32 → Int32 → Int32 → Dt → Option (Int32 × Dt) := itr (fun _ _ _ _ _ => none) (s_Model_whose_22) n
set_option maxHeartbeats 4000000 in
theorem ts_Model_whose_22 {Γ : GmT} {G : Dt → Nat → List (Nat × Value) → List Value → Prop} {rr : Int32} {DD : Dt} (C : Cx Γ "RiverTuesdaysModel" b_Model_whose 6 8 (some .int) (some (.int rr)) DD G) {k22 : Int32 → Int32 → Int32 → Int32 → Dt → Option (Int32 × Dt)} (hk22 : ∀ (v1 : Int32) (v3 : Int32) (v4 : Int32) (v5 : Int32) (D : Dt), k22 v1 v3 v4 v5 D = some (rr, DD) → G D 22 [(0, .ref (Γ.2.1 176)), (1, .int v1), (3, .int v3), (4, .int v4), (5, .int v5)] []) {v1 : Int32} {v3 : Int32} {v4 : Int32} {v5 : Int32} {D : Dt} (hf : s_Model_whose_22 k22 v1 v3 v4 v5 D = some (rr, DD)) : G D 22 [(0, .ref (Γ.2.1 176)), (1, .int v1), (3, .int v3), (4, .int v4), (5, .int v5)] [] := by
  unfold s_Model_whose_22 at hf
  refine r_iload (pc := 22) C 4 d_Model_whose_22 rfl ?_
  refine r_aload_n (pc := 24) C 0 d_Model_whose_24 rfl rfl ?_
  refine g_Model_n (pc := 25) C k_id176 Lf_Model_176 d_Model_whose_25 ?_
  refine r_icmp_ge (pc := 28) C (tgt := 88) d_Model_whose_28 (by decide) hf (fun c28 hf => ?_) (fun c28 hf => ?_)
  · refine r_aload_n (pc := 88) C 0 d_Model_whose_88 rfl rfl ?_
    refine r_iload (pc := 89) C 3 d_Model_whose_89 rfl ?_
    refine r_iload_n (pc := 91) C 2 d_Model_whose_91 rfl rfl ?_
    refine r_callVi (pc := 92) (As := [.int v4, .int v3]) (rest := []) C ok_Model_tells Lm_Model_137 k_id176 (by decide) ⟨by decide, by decide⟩ rfl rfl (Nat.le_of_ble_eq_true rfl) d_Model_whose_92 hf (fun x D1 hc => c_Model_tells Γ hc) (fun x3 D4 hf => ?_)
    exact r_iret (pc := 95) C d_Model_whose_95 hf
  · refine r_aload_n (pc := 31) C 0 d_Model_whose_31 rfl rfl ?_
    refine g_Model_sills (pc := 32) C k_id176 Lf_Model_35 d_Model_whose_32 ?_
    refine r_iload (pc := 35) C 4 d_Model_whose_35 rfl ?_
    refine r_dup2 (pc := 37) C d_Model_whose_37 rfl rfl ?_
    refine r_iald (pc := 38) C kq_Model_sills d_Model_whose_38 hf (fun hf => ?_)
    refine r_iconst (pc := 39) C (v := 1) d_Model_whose_39 (by decide) ?_
    refine r_iadd (pc := 40) C d_Model_whose_40 ?_
    refine r_iast (pc := 41) C kq_Model_sills d_Model_whose_41 hf (fun hf => ?_)
    refine r_nmD hf (fun D5 hf => ?_)
    refine r_aload_n (pc := 42) C 0 d_Model_whose_42 rfl rfl ?_
    refine r_iload_n (pc := 43) C 1 d_Model_whose_43 rfl rfl ?_
    refine r_callVv (pc := 44) (As := [.int v1]) (rest := []) C ok_Model_layTuesday Lm_Model_278 k_id176 (by decide) ⟨by decide, by decide⟩ rfl rfl (Nat.le_of_ble_eq_true rfl) d_Model_whose_44 hf (fun x D1 hc => c_Model_layTuesday Γ hc) (fun x6 D7 hf => ?_)
    refine r_aload_n (pc := 47) C 0 d_Model_whose_47 rfl rfl ?_
    refine g_Model_sills (pc := 48) C k_id176 Lf_Model_35 d_Model_whose_48 ?_
    refine r_iload (pc := 51) C 4 d_Model_whose_51 rfl ?_
    refine r_dup2 (pc := 53) C d_Model_whose_53 rfl rfl ?_
    refine r_iald (pc := 54) C kq_Model_sills d_Model_whose_54 hf (fun hf => ?_)
    refine r_iconst (pc := 55) C (v := 1) d_Model_whose_55 (by decide) ?_
    refine r_isub (pc := 56) C d_Model_whose_56 ?_
    refine r_iast (pc := 57) C kq_Model_sills d_Model_whose_57 hf (fun hf => ?_)
    refine r_nmD hf (fun D8 hf => ?_)
    refine r_iload_n (pc := 58) C 2 d_Model_whose_58 rfl rfl ?_
    refine r_bipush (pc := 59) C (v := (-9)) d_Model_whose_59 (by decide) ?_
    refine r_icmp_eq (pc := 61) C (tgt := 73) d_Model_whose_61 (by decide) hf (fun c61 hf => ?_) (fun c61 hf => ?_)
    · exact r_lv (pc := 73) C [0, 1, 4] rfl (tb_Model_whose_73 C hk22 hf)
    · refine r_aload_n (pc := 64) C 0 d_Model_whose_64 rfl rfl ?_
      refine g_Model_harmOf (pc := 65) C k_id176 Lf_Model_242 d_Model_whose_65 ?_
      refine r_iload (pc := 68) C 3 d_Model_whose_68 rfl ?_
      refine r_icmp_ge (pc := 70) C (tgt := 82) d_Model_whose_70 (by decide) hf (fun c70 hf => ?_) (fun c70 hf => ?_)
      · exact r_lv (pc := 82) C [0, 1, 2, 3, 4] rfl (tb_Model_whose_82 C hk22 hf)
      · exact r_lv (pc := 73) C [0, 1, 4] rfl (tb_Model_whose_73 C hk22 hf)
theorem tl_Model_whose_22 {Γ : GmT} {G : Dt → Nat → List (Nat × Value) → List Value → Prop} {rr : Int32} {DD : Dt} (C : Cx Γ "RiverTuesdaysModel" b_Model_whose 6 8 (some .int) (some (.int rr)) DD G) : ∀ (n : Nat) (v1 : Int32) (v3 : Int32) (v4 : Int32) (v5 : Int32) (D : Dt), lp_Model_whose_22 n v1 v3 v4 v5 D = some (rr, DD) → G D 22 [(0, .ref (Γ.2.1 176)), (1, .int v1), (3, .int v3), (4, .int v4), (5, .int v5)] [] := by
  intro n
  induction n with
  | zero =>
    intro v1 v3 v4 v5 D hf
    exact absurd (show (none : Option (Int32 × Dt)) = some (rr, DD) from hf) (by simp)
  | succ n ih =>
    intro v1 v3 v4 v5 D hf
    exact ts_Model_whose_22 C (k22 := lp_Model_whose_22 n) ih hf
def f_Model_whose (v1 : Int32) (D : Dt) : Option (Int32 × Dt) :=
  bnd (f_Model_needTuesday 1 v1 D) (fun x1 D2 => (if 0 ≤ x1 then lp_Model_whose_22 FU v1 (-9) 0 0 D2 else some (x1, D2)))
set_option maxHeartbeats 4000000 in
theorem te_Model_whose {Γ : GmT} {G : Dt → Nat → List (Nat × Value) → List Value → Prop} {rr : Int32} {DD : Dt} (C : Cx Γ "RiverTuesdaysModel" b_Model_whose 6 8 (some .int) (some (.int rr)) DD G) {v1 : Int32} {D : Dt} (hf : f_Model_whose v1 D = some (rr, DD)) : G D 0 [(0, .ref (Γ.2.1 176)), (1, .int v1)] [] := by
  unfold f_Model_whose at hf
  refine r_aload_n (pc := 0) C 0 d_Model_whose_0 rfl rfl ?_
  refine r_iconst (pc := 1) C (v := 1) d_Model_whose_1 (by decide) ?_
  refine r_iload_n (pc := 2) C 1 d_Model_whose_2 rfl rfl ?_
  refine r_callVi (pc := 3) (As := [.int 1, .int v1]) (rest := []) C ok_Model_needTuesday Lm_Model_281 k_id176 (by decide) ⟨by decide, by decide⟩ rfl rfl (Nat.le_of_ble_eq_true rfl) d_Model_whose_3 hf (fun x D1 hc => c_Model_needTuesday Γ hc) (fun x1 D2 hf => ?_)
  refine r_istore_n (pc := 6) (lv' := [(2, .int x1), (0, .ref (Γ.2.1 176)), (1, .int v1)]) C d_Model_whose_6 rfl (Nat.le_of_ble_eq_true rfl) rfl ?_
  refine r_iload_n (pc := 7) C 0 d_Model_whose_7 rfl rfl ?_
  refine r_if_ge (pc := 8) C (tgt := 13) d_Model_whose_8 (by decide) hf (fun c8 hf => ?_) (fun c8 hf => ?_)
  · refine r_bipush (pc := 13) C (v := (-9)) d_Model_whose_13 (by decide) ?_
    refine r_istore_n (pc := 15) (lv' := [(3, .int ((-9))), (2, .int x1), (0, .ref (Γ.2.1 176)), (1, .int v1)]) C d_Model_whose_15 rfl (Nat.le_of_ble_eq_true rfl) rfl ?_
    refine r_iconst (pc := 16) C (v := 0) d_Model_whose_16 (by decide) ?_
    refine r_istore (pc := 17) (lv' := [(4, .int 0), (3, .int ((-9))), (2, .int x1), (0, .ref (Γ.2.1 176)), (1, .int v1)]) C d_Model_whose_17 (Nat.le_of_ble_eq_true rfl) rfl ?_
    refine r_iconst (pc := 19) C (v := 0) d_Model_whose_19 (by decide) ?_
    refine r_istore (pc := 20) (lv' := [(5, .int 0), (4, .int 0), (3, .int ((-9))), (2, .int x1), (0, .ref (Γ.2.1 176)), (1, .int v1)]) C d_Model_whose_20 (Nat.le_of_ble_eq_true rfl) rfl ?_
    exact r_lv (pc := 22) C [4, 5, 2, 1, 0] rfl (tl_Model_whose_22 C FU v1 (-9) 0 0 D2 hf)
  · refine r_iload_n (pc := 11) C 0 d_Model_whose_11 rfl rfl ?_
    exact r_iret (pc := 12) C d_Model_whose_12 hf
theorem c_Model_whose (Γ : GmT) {v1 : Int32} {D : Dt} {rr : Int32} {DD : Dt} (hf : f_Model_whose v1 D = some (rr, DD)) : Mt Γ y_Model_whose b_Model_whose 6 (some .int) 8 [.ref (Γ.2.1 176), .int v1] D (some (.int rr)) DD := Mt_of (by decide) (Nat.le_of_ble_eq_true rfl) (fun G C => te_Model_whose C hf)
def b_Model_needJobs_18 (D : Dt) : Option (Int32 × Dt) :=
  bnd (f_Model_meets 1 D) (fun x1 D2 => some (x1, D2))
set_option maxHeartbeats 4000000 in
theorem tb_Model_needJobs_18 {Γ : GmT} {G : Dt → Nat → List (Nat × Value) → List Value → Prop} {rr : Int32} {DD : Dt} (C : Cx Γ "RiverTuesdaysModel" b_Model_needJobs 5 2 (some .int) (some (.int rr)) DD G) {D : Dt} (hf : b_Model_needJobs_18 D = some (rr, DD)) : G D 18 [(0, .ref (Γ.2.1 176))] [] := by
  unfold b_Model_needJobs_18 at hf
  refine r_aload_n (pc := 18) C 0 d_Model_needJobs_18 rfl rfl ?_
  refine r_iconst (pc := 19) C (v := 1) d_Model_needJobs_19 (by decide) ?_
  refine r_callVi (pc := 20) (As := [.int 1]) (rest := []) C ok_Model_meets Lm_Model_129 k_id176 (by decide) ⟨by decide, by decide⟩ rfl rfl (Nat.le_of_ble_eq_true rfl) d_Model_needJobs_20 hf (fun x D1 hc => c_Model_meets Γ hc) (fun x1 D2 hf => ?_)
  exact r_iret (pc := 23) C d_Model_needJobs_23 hf
def b_Model_needJobs_50 (D : Dt) : Option (Int32 × Dt) :=
  bnd (f_Model_meets 5 D) (fun x3 D4 => some (x3, D4))
set_option maxHeartbeats 4000000 in
theorem tb_Model_needJobs_50 {Γ : GmT} {G : Dt → Nat → List (Nat × Value) → List Value → Prop} {rr : Int32} {DD : Dt} (C : Cx Γ "RiverTuesdaysModel" b_Model_needJobs 5 2 (some .int) (some (.int rr)) DD G) {D : Dt} (hf : b_Model_needJobs_50 D = some (rr, DD)) : G D 50 [(0, .ref (Γ.2.1 176))] [] := by
  unfold b_Model_needJobs_50 at hf
  refine r_aload_n (pc := 50) C 0 d_Model_needJobs_50 rfl rfl ?_
  refine r_iconst (pc := 51) C (v := 5) d_Model_needJobs_51 (by decide) ?_
  refine r_callVi (pc := 52) (As := [.int 5]) (rest := []) C ok_Model_meets Lm_Model_129 k_id176 (by decide) ⟨by decide, by decide⟩ rfl rfl (Nat.le_of_ble_eq_true rfl) d_Model_needJobs_52 hf (fun x D1 hc => c_Model_meets Γ hc) (fun x3 D4 hf => ?_)
  exact r_iret (pc := 55) C d_Model_needJobs_55 hf
def s_Model_needJobs_143 (k143 : Int32 → Int32 → Int32 → Dt → Option (Int32 × Dt)) (v1 : Int32) (v2 : Int32) (v4 : Int32) (D : Dt) : Option (Int32 × Dt) :=
  (if (D 176 50) ≤ v4 then some (0, D) else bnd (f_Model_rowAt v1 v4 D) (fun x6 D7 => (if inb v4 6 = true then nm (wr D7 206 v4.toNatClampNeg x6) (fun D8 => bnd (f_Model_rowAt v2 v4 D8) (fun x9 D10 => (if inb v4 6 = true then nm (wr D10 207 v4.toNatClampNeg x9) (fun D11 => k143 v1 v2 (v4 + 1) D11) else none))) else none)))
def lp_Model_needJobs_143 (n : Nat) : Int32 → Int32 → Int32 → Dt → Option (Int32 × Dt) := itr (fun _ _ _ _ => none) (s_Model_needJobs_143) n
set_option maxHeartbeats 4000000 in
theorem ts_Model_needJobs_143 {Γ : GmT} {G : Dt → Nat → List (Nat × Value) → List Value → Prop} {rr : Int32} {DD : Dt} (C : Cx Γ "RiverTuesdaysModel" b_Model_needJobs 5 2 (some .int) (some (.int rr)) DD G) {k143 : Int32 → Int32 → Int32 → Dt → Option (Int32 × Dt)} (hk143 : ∀ (v1 : Int32) (v2 : Int32) (v4 : Int32) (D : Dt), k143 v1 v2 v4 D = some (rr, DD) → G D 143 [(0, .ref (Γ.2.1 176)), (1, .int v1), (2, .int v2), (4, .int v4)] []) {v1 : Int32} {v2 : Int32} {v4 : Int32} {D : Dt} (hf : s_Model_needJobs_143 k143 v1 v2 v4 D = some (rr, DD)) : G D 143 [(0, .ref (Γ.2.1 176)), (1, .int v1), (2, .int v2), (4, .int v4)] [] := by
  unfold s_Model_needJobs_143 at hf
  refine r_iload (pc := 143) C 3 d_Model_needJobs_143 rfl ?_
  refine r_aload_n (pc := 145) C 0 d_Model_needJobs_145 rfl rfl ?_
  refine g_Model_jobMany (pc := 146) C k_id176 Lf_Model_315 d_Model_needJobs_146 ?_
  refine r_icmp_ge (pc := 149) C (tgt := 186) d_Model_needJobs_149 (by decide) hf (fun c149 hf => ?_) (fun c149 hf => ?_)
  · refine r_iconst (pc := 186) C (v := 0) d_Model_needJobs_186 (by decide) ?_
    exact r_iret (pc := 187) C d_Model_needJobs_187 hf
  · refine r_aload_n (pc := 152) C 0 d_Model_needJobs_152 rfl rfl ?_
    refine g_Model_takesOf (pc := 153) C k_id176 Lf_Model_99 d_Model_needJobs_153 ?_
    refine r_iload (pc := 156) C 3 d_Model_needJobs_156 rfl ?_
    refine r_aload_n (pc := 158) C 0 d_Model_needJobs_158 rfl rfl ?_
    refine r_iload_n (pc := 159) C 1 d_Model_needJobs_159 rfl rfl ?_
    refine r_iload (pc := 160) C 3 d_Model_needJobs_160 rfl ?_
    refine r_callVi (pc := 162) (As := [.int v1, .int v4]) (rest := [.int v4, .ref (Γ.2.1 206)]) C ok_Model_rowAt Lm_Model_133 k_id176 (by decide) ⟨by decide, by decide⟩ rfl rfl (Nat.le_of_ble_eq_true rfl) d_Model_needJobs_162 hf (fun x D1 hc => c_Model_rowAt Γ hc) (fun x6 D7 hf => ?_)
    refine r_iast (pc := 165) C kq_Model_takesOf d_Model_needJobs_165 hf (fun hf => ?_)
    refine r_nmD hf (fun D8 hf => ?_)
    refine r_aload_n (pc := 166) C 0 d_Model_needJobs_166 rfl rfl ?_
    refine g_Model_dueOf (pc := 167) C k_id176 Lf_Model_102 d_Model_needJobs_167 ?_
    refine r_iload (pc := 170) C 3 d_Model_needJobs_170 rfl ?_
    refine r_aload_n (pc := 172) C 0 d_Model_needJobs_172 rfl rfl ?_
    refine r_iload_n (pc := 173) C 2 d_Model_needJobs_173 rfl rfl ?_
    refine r_iload (pc := 174) C 3 d_Model_needJobs_174 rfl ?_
    refine r_callVi (pc := 176) (As := [.int v2, .int v4]) (rest := [.int v4, .ref (Γ.2.1 207)]) C ok_Model_rowAt Lm_Model_133 k_id176 (by decide) ⟨by decide, by decide⟩ rfl rfl (Nat.le_of_ble_eq_true rfl) d_Model_needJobs_176 hf (fun x D1 hc => c_Model_rowAt Γ hc) (fun x9 D10 hf => ?_)
    refine r_iast (pc := 179) C kq_Model_dueOf d_Model_needJobs_179 hf (fun hf => ?_)
    refine r_nmD hf (fun D11 hf => ?_)
    refine r_iinc (pc := 180) C (v := v4 + 1) (lv' := [(4, .int (v4 + 1)), (0, .ref (Γ.2.1 176)), (1, .int v1), (2, .int v2)]) 3 d_Model_needJobs_180 rfl rfl (Nat.le_of_ble_eq_true rfl) rfl ?_
    refine r_goto (pc := 183) C (tgt := 143) d_Model_needJobs_183 (by decide) ?_
    exact r_lv (pc := 143) C [1, 2, 3, 0] rfl (hk143 v1 v2 (v4 + 1) D11 hf)
theorem tl_Model_needJobs_143 {Γ : GmT} {G : Dt → Nat → List (Nat × Value) → List Value → Prop} {rr : Int32} {DD : Dt} (C : Cx Γ "RiverTuesdaysModel" b_Model_needJobs 5 2 (some .int) (some (.int rr)) DD G) : ∀ (n : Nat) (v1 : Int32) (v2 : Int32) (v4 : Int32) (D : Dt), lp_Model_needJobs_143 n v1 v2 v4 D = some (rr, DD) → G D 143 [(0, .ref (Γ.2.1 176)), (1, .int v1), (2, .int v2), (4, .int v4)] [] := by
  intro n
  induction n with
  | zero =>
    intro v1 v2 v4 D hf
    exact absurd (show (none : Option (Int32 × Dt)) = some (rr, DD) from hf) (by simp)
  | succ n ih =>
    intro v1 v2 v4 D hf
    exact ts_Model_needJobs_143 C (k143 := lp_Model_needJobs_143 n) ih hf
def b_Model_needJobs_113 (k61 : Int32 → Int32 → Int32 → Int32 → Dt → Option (Int32 × Dt)) (v1 : Int32) (v2 : Int32) (v4 : Int32) (s0 : Int32) (D : Dt) : Option (Int32 × Dt) :=
  k61 v1 v2 s0 (v4 + 1) D
set_option maxHeartbeats 4000000 in
theorem tb_Model_needJobs_113 {Γ : GmT} {G : Dt → Nat → List (Nat × Value) → List Value → Prop} {rr : Int32} {DD : Dt} (C : Cx Γ "RiverTuesdaysModel" b_Model_needJobs 5 2 (some .int) (some (.int rr)) DD G) {k61 : Int32 → Int32 → Int32 → Int32 → Dt → Option (Int32 × Dt)} (hk61 : ∀ (v1 : Int32) (v2 : Int32) (v3 : Int32) (v4 : Int32) (D : Dt), k61 v1 v2 v3 v4 D = some (rr, DD) → G D 61 [(0, .ref (Γ.2.1 176)), (1, .int v1), (2, .int v2), (3, .int v3), (4, .int v4)] []) {v1 : Int32} {v2 : Int32} {v4 : Int32} {s0 : Int32} {D : Dt} (hf : b_Model_needJobs_113 k61 v1 v2 v4 s0 D = some (rr, DD)) : G D 113 [(0, .ref (Γ.2.1 176)), (1, .int v1), (2, .int v2), (4, .int v4)] [.int s0] := by
  unfold b_Model_needJobs_113 at hf
  refine r_istore_n (pc := 113) (lv' := [(3, .int s0), (0, .ref (Γ.2.1 176)), (1, .int v1), (2, .int v2), (4, .int v4)]) C d_Model_needJobs_113 rfl (Nat.le_of_ble_eq_true rfl) rfl ?_
  refine r_iinc (pc := 114) C (v := v4 + 1) (lv' := [(4, .int (v4 + 1)), (3, .int s0), (0, .ref (Γ.2.1 176)), (1, .int v1), (2, .int v2)]) 4 d_Model_needJobs_114 rfl rfl (Nat.le_of_ble_eq_true rfl) rfl ?_
  refine r_goto (pc := 117) C (tgt := 61) d_Model_needJobs_117 (by decide) ?_
  exact r_lv (pc := 61) C [2, 3, 4, 1, 0] rfl (hk61 v1 v2 s0 (v4 + 1) D hf)
def b_Model_needJobs_112 (k61 : Int32 → Int32 → Int32 → Int32 → Dt → Option (Int32 × Dt)) (v1 : Int32) (v2 : Int32) (v4 : Int32) (D : Dt) : Option (Int32 × Dt) :=
  b_Model_needJobs_113 k61 v1 v2 v4 0 D
set_option maxHeartbeats 4000000 in
theorem tb_Model_needJobs_112 {Γ : GmT} {G : Dt → Nat → List (Nat × Value) → List Value → Prop} {rr : Int32} {DD : Dt} (C : Cx Γ "RiverTuesdaysModel" b_Model_needJobs 5 2 (some .int) (some (.int rr)) DD G) {k61 : Int32 → Int32 → Int32 → Int32 → Dt → Option (Int32 × Dt)} (hk61 : ∀ (v1 : Int32) (v2 : Int32) (v3 : Int32) (v4 : Int32) (D : Dt), k61 v1 v2 v3 v4 D = some (rr, DD) → G D 61 [(0, .ref (Γ.2.1 176)), (1, .int v1), (2, .int v2), (3, .int v3), (4, .int v4)] []) {v1 : Int32} {v2 : Int32} {v4 : Int32} {D : Dt} (hf : b_Model_needJobs_112 k61 v1 v2 v4 D = some (rr, DD)) : G D 112 [(0, .ref (Γ.2.1 176)), (1, .int v1), (2, .int v2), (4, .int v4)] [] := by
  unfold b_Model_needJobs_112 at hf
  refine r_iconst (pc := 112) C (v := 0) d_Model_needJobs_112 (by decide) ?_
  exact r_lv (pc := 113) C [0, 1, 2, 3] rfl (tb_Model_needJobs_113 C hk61 hf)
def s_Model_needJobs_61 (k61 : Int32 → Int32 → Int32 → Int32 → Dt → Option (Int32 × Dt)) (v1 : Int32) (v2 : Int32) (v3 : Int32) (v4 : Int32) (D : Dt) : Option (Int32 × Dt) :=
  (if inb v1 6 = true then (if (D 178 v1.toNatClampNeg) ≤ v4 then (if v3 = 0 then bnd (f_Model_meets 3 D) (fun x12 D13 => some (x12, D13)) else (if inb v1 6 = true then nm (wr D 176 50 (D 178 v1.toNatClampNeg)) (fun D5 => lp_Model_needJobs_143 FU v1 v2 0 D5) else none)) else (if v3 = 0 then b_Model_needJobs_112 k61 v1 v2 v4 D else bnd (f_Model_rowAt v1 v4 D) (fun x14 D15 => bnd (f_Model_in x14 1 24 D15) (fun x16 D17 => (if x16 = 0 then b_Model_needJobs_112 k61 v1 v2 v4 D17 else bnd (f_Model_rowAt v2 v4 D17) (fun x18 D19 => bnd (f_Model_in x18 0 99 D19) (fun x20 D21 => (if x20 = 0 then b_Model_needJobs_112 k61 v1 v2 v4 D21 else b_Model_needJobs_113 k61 v1 v2 v4 1 D21)))))))) else none)
def lp_Model_needJobs_61 (n : Nat) : Int32 → Int32 → Int32 → Int32 → Dt → Option (Int32 × Dt) := itr (fun _ _ _ _ _ => none) (s_Model_needJobs_61) n
set_option maxHeartbeats 4000000 in
theorem ts_Model_needJobs_61 {Γ : GmT} {G : Dt → Nat → List (Nat × Value) → List Value → Prop} {rr : Int32} {DD : Dt} (C : Cx Γ "RiverTuesdaysModel" b_Model_needJobs 5 2 (some .int) (some (.int rr)) DD G) {k61 : Int32 → Int32 → Int32 → Int32 → Dt → Option (Int32 × Dt)} (hk61 : ∀ (v1 : Int32) (v2 : Int32) (v3 : Int32) (v4 : Int32) (D : Dt), k61 v1 v2 v3 v4 D = some (rr, DD) → G D 61 [(0, .ref (Γ.2.1 176)), (1, .int v1), (2, .int v2), (3, .int v3), (4, .int v4)] []) {v1 : Int32} {v2 : Int32} {v3 : Int32} {v4 : Int32} {D : Dt} (hf : s_Model_needJobs_61 k61 v1 v2 v3 v4 D = some (rr, DD)) : G D 61 [(0, .ref (Γ.2.1 176)), (1, .int v1), (2, .int v2), (3, .int v3), (4, .int v4)] [] := by
  unfold s_Model_needJobs_61 at hf
  refine r_iload (pc := 61) C 4 d_Model_needJobs_61 rfl ?_
  refine r_aload_n (pc := 63) C 0 d_Model_needJobs_63 rfl rfl ?_
  refine g_Model_sizes (pc := 64) C k_id176 Lf_Model_13 d_Model_needJobs_64 ?_
  refine r_iload_n (pc := 67) C 1 d_Model_needJobs_67 rfl rfl ?_
  refine r_iald (pc := 68) C kq_Model_sizes d_Model_needJobs_68 hf (fun hf => ?_)
  refine r_icmp_ge (pc := 69) C (tgt := 120) d_Model_needJobs_69 (by decide) hf (fun c69 hf => ?_) (fun c69 hf => ?_)
  · refine r_iload_n (pc := 120) C 3 d_Model_needJobs_120 rfl rfl ?_
    refine r_if_ne (pc := 121) C (tgt := 130) d_Model_needJobs_121 (by decide) hf (fun c121 hf => ?_) (fun c121 hf => ?_)
    · refine r_aload_n (pc := 130) C 0 d_Model_needJobs_130 rfl rfl ?_
      refine r_aload_n (pc := 131) C 0 d_Model_needJobs_131 rfl rfl ?_
      refine g_Model_sizes (pc := 132) C k_id176 Lf_Model_13 d_Model_needJobs_132 ?_
      refine r_iload_n (pc := 135) C 1 d_Model_needJobs_135 rfl rfl ?_
      refine r_iald (pc := 136) C kq_Model_sizes d_Model_needJobs_136 hf (fun hf => ?_)
      refine p_Model_jobMany (pc := 137) C k_id176 Lf_Model_315 d_Model_needJobs_137 ?_
      refine r_nmD hf (fun D5 hf => ?_)
      refine r_iconst (pc := 140) C (v := 0) d_Model_needJobs_140 (by decide) ?_
      refine r_istore (pc := 141) (lv' := [(4, .int 0), (0, .ref (Γ.2.1 176)), (1, .int v1), (2, .int v2), (3, .int v3)]) C d_Model_needJobs_141 (Nat.le_of_ble_eq_true rfl) rfl ?_
      exact r_lv (pc := 143) C [1, 2, 3, 0] rfl (tl_Model_needJobs_143 C FU v1 v2 0 D5 hf)
    · refine r_aload_n (pc := 124) C 0 d_Model_needJobs_124 rfl rfl ?_
      refine r_iconst (pc := 125) C (v := 3) d_Model_needJobs_125 (by decide) ?_
      refine r_callVi (pc := 126) (As := [.int 3]) (rest := []) C ok_Model_meets Lm_Model_129 k_id176 (by decide) ⟨by decide, by decide⟩ rfl rfl (Nat.le_of_ble_eq_true rfl) d_Model_needJobs_126 hf (fun x D1 hc => c_Model_meets Γ hc) (fun x12 D13 hf => ?_)
      exact r_iret (pc := 129) C d_Model_needJobs_129 hf
  · refine r_iload_n (pc := 72) C 3 d_Model_needJobs_72 rfl rfl ?_
    refine r_if_eq (pc := 73) C (tgt := 112) d_Model_needJobs_73 (by decide) hf (fun c73 hf => ?_) (fun c73 hf => ?_)
    · exact r_lv (pc := 112) C [0, 1, 2, 4] rfl (tb_Model_needJobs_112 C hk61 hf)
    · refine r_aload_n (pc := 76) C 0 d_Model_needJobs_76 rfl rfl ?_
      refine r_iload_n (pc := 77) C 1 d_Model_needJobs_77 rfl rfl ?_
      refine r_iload (pc := 78) C 4 d_Model_needJobs_78 rfl ?_
      refine r_callVi (pc := 80) (As := [.int v1, .int v4]) (rest := []) C ok_Model_rowAt Lm_Model_133 k_id176 (by decide) ⟨by decide, by decide⟩ rfl rfl (Nat.le_of_ble_eq_true rfl) d_Model_needJobs_80 hf (fun x D1 hc => c_Model_rowAt Γ hc) (fun x14 D15 hf => ?_)
      refine r_iconst (pc := 83) C (v := 1) d_Model_needJobs_83 (by decide) ?_
      refine r_bipush (pc := 84) C (v := 24) d_Model_needJobs_84 (by decide) ?_
      refine r_callSi (pc := 86) (As := [.int x14, .int 1, .int 24]) (rest := []) C ok_Model_in Lm_Model_118 ⟨by decide, by decide⟩ rfl rfl (Nat.le_of_ble_eq_true rfl) d_Model_needJobs_86 hf (fun x D1 hc => c_Model_in Γ hc) (fun x16 D17 hf => ?_)
      refine r_if_eq (pc := 89) C (tgt := 112) d_Model_needJobs_89 (by decide) hf (fun c89 hf => ?_) (fun c89 hf => ?_)
      · exact r_lv (pc := 112) C [0, 1, 2, 4] rfl (tb_Model_needJobs_112 C hk61 hf)
      · refine r_aload_n (pc := 92) C 0 d_Model_needJobs_92 rfl rfl ?_
        refine r_iload_n (pc := 93) C 2 d_Model_needJobs_93 rfl rfl ?_
        refine r_iload (pc := 94) C 4 d_Model_needJobs_94 rfl ?_
        refine r_callVi (pc := 96) (As := [.int v2, .int v4]) (rest := []) C ok_Model_rowAt Lm_Model_133 k_id176 (by decide) ⟨by decide, by decide⟩ rfl rfl (Nat.le_of_ble_eq_true rfl) d_Model_needJobs_96 hf (fun x D1 hc => c_Model_rowAt Γ hc) (fun x18 D19 hf => ?_)
        refine r_iconst (pc := 99) C (v := 0) d_Model_needJobs_99 (by decide) ?_
        refine r_bipush (pc := 100) C (v := 99) d_Model_needJobs_100 (by decide) ?_
        refine r_callSi (pc := 102) (As := [.int x18, .int 0, .int 99]) (rest := []) C ok_Model_in Lm_Model_118 ⟨by decide, by decide⟩ rfl rfl (Nat.le_of_ble_eq_true rfl) d_Model_needJobs_102 hf (fun x D1 hc => c_Model_in Γ hc) (fun x20 D21 hf => ?_)
        refine r_if_eq (pc := 105) C (tgt := 112) d_Model_needJobs_105 (by decide) hf (fun c105 hf => ?_) (fun c105 hf => ?_)
        · exact r_lv (pc := 112) C [0, 1, 2, 4] rfl (tb_Model_needJobs_112 C hk61 hf)
        · refine r_iconst (pc := 108) C (v := 1) d_Model_needJobs_108 (by decide) ?_
          refine r_goto (pc := 109) C (tgt := 113) d_Model_needJobs_109 (by decide) ?_
          exact r_lv (pc := 113) C [0, 1, 2, 4] rfl (tb_Model_needJobs_113 C hk61 hf)
theorem tl_Model_needJobs_61 {Γ : GmT} {G : Dt → Nat → List (Nat × Value) → List Value → Prop} {rr : Int32} {DD : Dt} (C : Cx Γ "RiverTuesdaysModel" b_Model_needJobs 5 2 (some .int) (some (.int rr)) DD G) : ∀ (n : Nat) (v1 : Int32) (v2 : Int32) (v3 : Int32) (v4 : Int32) (D : Dt), lp_Model_needJobs_61 n v1 v2 v3 v4 D = some (rr, DD) → G D 61 [(0, .ref (Γ.2.1 176)), (1, .int v1), (2, .int v2), (3, .int v3), (4, .int v4)] [] := by
  intro n
  induction n with
  | zero =>
    intro v1 v2 v3 v4 D hf
    exact absurd (show (none : Option (Int32 × Dt)) = some (rr, DD) from hf) (by simp)
  | succ n ih =>
    intro v1 v2 v3 v4 D hf
    exact ts_Model_needJobs_61 C (k61 := lp_Model_needJobs_61 n) ih hf
def f_Model_needJobs (v1 : Int32) (v2 : Int32) (D : Dt) : Option (Int32 × Dt) :=
  (if inb v1 6 = true then (if (D 178 v1.toNatClampNeg) < 0 then b_Model_needJobs_18 D else (if inb v2 6 = true then (if 0 ≤ (D 178 v2.toNatClampNeg) then (if inb v1 6 = true then (if 6 < (D 178 v1.toNatClampNeg) then b_Model_needJobs_50 D else (if inb v1 6 = true then (if inb v2 6 = true then (if (D 178 v1.toNatClampNeg) = (D 178 v2.toNatClampNeg) then lp_Model_needJobs_61 FU v1 v2 1 0 D else b_Model_needJobs_50 D) else none) else none)) else none) else b_Model_needJobs_18 D) else none)) else none)
set_option maxHeartbeats 4000000 in
theorem te_Model_needJobs {Γ : GmT} {G : Dt → Nat → List (Nat × Value) → List Value → Prop} {rr : Int32} {DD : Dt} (C : Cx Γ "RiverTuesdaysModel" b_Model_needJobs 5 2 (some .int) (some (.int rr)) DD G) {v1 : Int32} {v2 : Int32} {D : Dt} (hf : f_Model_needJobs v1 v2 D = some (rr, DD)) : G D 0 [(0, .ref (Γ.2.1 176)), (1, .int v1), (2, .int v2)] [] := by
  unfold f_Model_needJobs at hf
  refine r_aload_n (pc := 0) C 0 d_Model_needJobs_0 rfl rfl ?_
  refine g_Model_sizes (pc := 1) C k_id176 Lf_Model_13 d_Model_needJobs_1 ?_
  refine r_iload_n (pc := 4) C 1 d_Model_needJobs_4 rfl rfl ?_
  refine r_iald (pc := 5) C kq_Model_sizes d_Model_needJobs_5 hf (fun hf => ?_)
  refine r_if_lt (pc := 6) C (tgt := 18) d_Model_needJobs_6 (by decide) hf (fun c6 hf => ?_) (fun c6 hf => ?_)
  · exact r_lv (pc := 18) C [0] rfl (tb_Model_needJobs_18 C hf)
  · refine r_aload_n (pc := 9) C 0 d_Model_needJobs_9 rfl rfl ?_
    refine g_Model_sizes (pc := 10) C k_id176 Lf_Model_13 d_Model_needJobs_10 ?_
    refine r_iload_n (pc := 13) C 2 d_Model_needJobs_13 rfl rfl ?_
    refine r_iald (pc := 14) C kq_Model_sizes d_Model_needJobs_14 hf (fun hf => ?_)
    refine r_if_ge (pc := 15) C (tgt := 24) d_Model_needJobs_15 (by decide) hf (fun c15 hf => ?_) (fun c15 hf => ?_)
    · refine r_aload_n (pc := 24) C 0 d_Model_needJobs_24 rfl rfl ?_
      refine g_Model_sizes (pc := 25) C k_id176 Lf_Model_13 d_Model_needJobs_25 ?_
      refine r_iload_n (pc := 28) C 1 d_Model_needJobs_28 rfl rfl ?_
      refine r_iald (pc := 29) C kq_Model_sizes d_Model_needJobs_29 hf (fun hf => ?_)
      refine r_bipush (pc := 30) C (v := 6) d_Model_needJobs_30 (by decide) ?_
      refine r_icmp_gt (pc := 32) C (tgt := 50) d_Model_needJobs_32 (by decide) hf (fun c32 hf => ?_) (fun c32 hf => ?_)
      · exact r_lv (pc := 50) C [0] rfl (tb_Model_needJobs_50 C hf)
      · refine r_aload_n (pc := 35) C 0 d_Model_needJobs_35 rfl rfl ?_
        refine g_Model_sizes (pc := 36) C k_id176 Lf_Model_13 d_Model_needJobs_36 ?_
        refine r_iload_n (pc := 39) C 1 d_Model_needJobs_39 rfl rfl ?_
        refine r_iald (pc := 40) C kq_Model_sizes d_Model_needJobs_40 hf (fun hf => ?_)
        refine r_aload_n (pc := 41) C 0 d_Model_needJobs_41 rfl rfl ?_
        refine g_Model_sizes (pc := 42) C k_id176 Lf_Model_13 d_Model_needJobs_42 ?_
        refine r_iload_n (pc := 45) C 2 d_Model_needJobs_45 rfl rfl ?_
        refine r_iald (pc := 46) C kq_Model_sizes d_Model_needJobs_46 hf (fun hf => ?_)
        refine r_icmp_eq (pc := 47) C (tgt := 56) d_Model_needJobs_47 (by decide) hf (fun c47 hf => ?_) (fun c47 hf => ?_)
        · refine r_iconst (pc := 56) C (v := 1) d_Model_needJobs_56 (by decide) ?_
          refine r_istore_n (pc := 57) (lv' := [(3, .int 1), (0, .ref (Γ.2.1 176)), (1, .int v1), (2, .int v2)]) C d_Model_needJobs_57 rfl (Nat.le_of_ble_eq_true rfl) rfl ?_
          refine r_iconst (pc := 58) C (v := 0) d_Model_needJobs_58 (by decide) ?_
          refine r_istore (pc := 59) (lv' := [(4, .int 0), (3, .int 1), (0, .ref (Γ.2.1 176)), (1, .int v1), (2, .int v2)]) C d_Model_needJobs_59 (Nat.le_of_ble_eq_true rfl) rfl ?_
          exact r_lv (pc := 61) C [2, 3, 4, 1, 0] rfl (tl_Model_needJobs_61 C FU v1 v2 1 0 D hf)
        · exact r_lv (pc := 50) C [0] rfl (tb_Model_needJobs_50 C hf)
    · exact r_lv (pc := 18) C [0] rfl (tb_Model_needJobs_18 C hf)
theorem c_Model_needJobs (Γ : GmT) {v1 : Int32} {v2 : Int32} {D : Dt} {rr : Int32} {DD : Dt} (hf : f_Model_needJobs v1 v2 D = some (rr, DD)) : Mt Γ y_Model_needJobs b_Model_needJobs 5 (some .int) 2 [.ref (Γ.2.1 176), .int v1, .int v2] D (some (.int rr)) DD := Mt_of (by decide) (Nat.le_of_ble_eq_true rfl) (fun G C => te_Model_needJobs C hf)
def b_Model_layOrders_124 (self : Int32 → Int32 → Int32 → Int32 → Dt → Option (Unit × Dt)) (k55 : Int32 → Int32 → Int32 → Int32 → Int32 → Dt → Option (Unit × Dt)) (v1 : Int32) (v2 : Int32) (v3 : Int32) (v4 : Int32) (v5 : Int32) (D : Dt) : Option (Unit × Dt) :=
  k55 v1 v2 v3 v4 (v5 + 1) D
set_option maxHeartbeats 4000000 in
theorem tb_Model_layOrders_124 {Γ : GmT} {G : Dt → Nat → List (Nat × Value) → List Value → Prop} {rr : Unit} {DD : Dt} {d : Nat} (C : Cx Γ "RiverTuesdaysModel" b_Model_layOrders 7 (3 + d) none none DD G) {self : Int32 → Int32 → Int32 → Int32 → Dt → Option (Unit × Dt)} (hself : ∀ (v1 : Int32) (v2 : Int32) (v3 : Int32) (v4 : Int32) (D : Dt) (x : Unit) (D1 : Dt), self v1 v2 v3 v4 D = some (x, D1) → Mt Γ y_Model_layOrders b_Model_layOrders 7 none (2 + d) [.ref (Γ.2.1 176), .int v1, .int v2, .int v3, .int v4] D (none) D1) {k55 : Int32 → Int32 → Int32 → Int32 → Int32 → Dt → Option (Unit × Dt)} (hk55 : ∀ (v1 : Int32) (v2 : Int32) (v3 : Int32) (v4 : Int32) (v5 : Int32) (D : Dt), k55 v1 v2 v3 v4 v5 D = some (rr, DD) → G D 55 [(0, .ref (Γ.2.1 176)), (1, .int v1), (2, .int v2), (3, .int v3), (4, .int v4), (5, .int v5)] []) {v1 : Int32} {v2 : Int32} {v3 : Int32} {v4 : Int32} {v5 : Int32} {D : Dt} (hf : b_Model_layOrders_124 self k55 v1 v2 v3 v4 v5 D = some (rr, DD)) : G D 124 [(0, .ref (Γ.2.1 176)), (1, .int v1), (2, .int v2), (3, .int v3), (4, .int v4), (5, .int v5)] [] := by
  unfold b_Model_layOrders_124 at hf
  refine r_iinc (pc := 124) C (v := v5 + 1) (lv' := [(5, .int (v5 + 1)), (0, .ref (Γ.2.1 176)), (1, .int v1), (2, .int v2), (3, .int v3), (4, .int v4)]) 5 d_Model_layOrders_124 rfl rfl (Nat.le_of_ble_eq_true rfl) rfl ?_
  refine r_goto (pc := 127) C (tgt := 55) d_Model_layOrders_127 (by decide) ?_
  exact r_lv (pc := 55) C [1, 2, 3, 4, 5, 0] rfl (hk55 v1 v2 v3 v4 (v5 + 1) D hf)
def s_Model_layOrders_55 (self : Int32 → Int32 → Int32 → Int32 → Dt → Option (Unit × Dt)) (k55 : Int32 → Int32 → Int32 → Int32 → Int32 → Dt → Option (Unit × Dt)) (v1 : Int32) (v2 : Int32) (v3 : Int32) (v4 : Int32) (v5 : Int32) (D : Dt) : Option (Unit × Dt) :=
  (if (D 176 50) ≤ v5 then some ((), D) else bnd (f_Model_has v2 v5 D) (fun x1 D2 => (if x1 = 0 then (if inb v1 6 = true then nm (wr D2 208 v1.toNatClampNeg v5) (fun D3 => (if inb v5 6 = true then (if inb v5 6 = true then bnd (f_Model_greater 0 ((v3 + (D3 206 v5.toNatClampNeg)) - (D3 207 v5.toNatClampNeg)) D3) (fun x4 D5 => bnd (self (v1 + 1) (v2 ||| (1 <<< (v5 &&& 31))) (v3 + (D3 206 v5.toNatClampNeg)) (v4 + x4) D5) (fun x6 D7 => b_Model_layOrders_124 self k55 v1 v2 v3 v4 v5 D7)) else none) else none)) else none) else b_Model_layOrders_124 self k55 v1 v2 v3 v4 v5 D2)))
def lp_Model_layOrders_55 (self : Int32 → Int32 → Int32 → Int32 → Dt → Option (Unit × Dt)) (n : Nat) : Int32 → Int32 → Int32 → Int32 → Int32 → Dt → Option (Unit × Dt) := itr (fun _ _ _ _ _ _ => none) (s_Model_layOrders_55 self) n
set_option maxHeartbeats 4000000 in
theorem ts_Model_layOrders_55 {Γ : GmT} {G : Dt → Nat → List (Nat × Value) → List Value → Prop} {rr : Unit} {DD : Dt} {d : Nat} (C : Cx Γ "RiverTuesdaysModel" b_Model_layOrders 7 (3 + d) none none DD G) {self : Int32 → Int32 → Int32 → Int32 → Dt → Option (Unit × Dt)} (hself : ∀ (v1 : Int32) (v2 : Int32) (v3 : Int32) (v4 : Int32) (D : Dt) (x : Unit) (D1 : Dt), self v1 v2 v3 v4 D = some (x, D1) → Mt Γ y_Model_layOrders b_Model_layOrders 7 none (2 + d) [.ref (Γ.2.1 176), .int v1, .int v2, .int v3, .int v4] D (none) D1) {k55 : Int32 → Int32 → Int32 → Int32 → Int32 → Dt → Option (Unit × Dt)} (hk55 : ∀ (v1 : Int32) (v2 : Int32) (v3 : Int32) (v4 : Int32) (v5 : Int32) (D : Dt), k55 v1 v2 v3 v4 v5 D = some (rr, DD) → G D 55 [(0, .ref (Γ.2.1 176)), (1, .int v1), (2, .int v2), (3, .int v3), (4, .int v4), (5, .int v5)] []) {v1 : Int32} {v2 : Int32} {v3 : Int32} {v4 : Int32} {v5 : Int32} {D : Dt} (hf : s_Model_layOrders_55 self k55 v1 v2 v3 v4 v5 D = some (rr, DD)) : G D 55 [(0, .ref (Γ.2.1 176)), (1, .int v1), (2, .int v2), (3, .int v3), (4, .int v4), (5, .int v5)] [] := by
  unfold s_Model_layOrders_55 at hf
  refine r_iload (pc := 55) C 5 d_Model_layOrders_55 rfl ?_
  refine r_aload_n (pc := 57) C 0 d_Model_layOrders_57 rfl rfl ?_
  refine g_Model_jobMany (pc := 58) C k_id176 Lf_Model_315 d_Model_layOrders_58 ?_
  refine r_icmp_ge (pc := 61) C (tgt := 130) d_Model_layOrders_61 (by decide) hf (fun c61 hf => ?_) (fun c61 hf => ?_)
  · exact r_vret (pc := 130) C d_Model_layOrders_130 hf
  · refine r_iload_n (pc := 64) C 2 d_Model_layOrders_64 rfl rfl ?_
    refine r_iload (pc := 65) C 5 d_Model_layOrders_65 rfl ?_
    refine r_callSi (pc := 67) (As := [.int v2, .int v5]) (rest := []) C ok_Model_has Lm_Model_248 ⟨by omega, by omega⟩ rfl rfl (Nat.le_of_ble_eq_true rfl) d_Model_layOrders_67 hf (fun x D1 hc => c_Model_has Γ hc) (fun x1 D2 hf => ?_)
    refine r_if_ne (pc := 70) C (tgt := 124) d_Model_layOrders_70 (by decide) hf (fun c70 hf => ?_) (fun c70 hf => ?_)
    · exact r_lv (pc := 124) C [0, 1, 2, 3, 4, 5] rfl (tb_Model_layOrders_124 C hself hk55 hf)
    · refine r_aload_n (pc := 73) C 0 d_Model_layOrders_73 rfl rfl ?_
      refine g_Model_order (pc := 74) C k_id176 Lf_Model_105 d_Model_layOrders_74 ?_
      refine r_iload_n (pc := 77) C 1 d_Model_layOrders_77 rfl rfl ?_
      refine r_iload (pc := 78) C 5 d_Model_layOrders_78 rfl ?_
      refine r_iast (pc := 80) C kq_Model_order d_Model_layOrders_80 hf (fun hf => ?_)
      refine r_nmD hf (fun D3 hf => ?_)
      refine r_iload_n (pc := 81) C 3 d_Model_layOrders_81 rfl rfl ?_
      refine r_aload_n (pc := 82) C 0 d_Model_layOrders_82 rfl rfl ?_
      refine g_Model_takesOf (pc := 83) C k_id176 Lf_Model_99 d_Model_layOrders_83 ?_
      refine r_iload (pc := 86) C 5 d_Model_layOrders_86 rfl ?_
      refine r_iald (pc := 88) C kq_Model_takesOf d_Model_layOrders_88 hf (fun hf => ?_)
      refine r_iadd (pc := 89) C d_Model_layOrders_89 ?_
      refine r_istore (pc := 90) (lv' := [(6, .int (v3 + (D3 206 v5.toNatClampNeg))), (0, .ref (Γ.2.1 176)), (1, .int v1), (2, .int v2), (3, .int v3), (4, .int v4), (5, .int v5)]) C d_Model_layOrders_90 (Nat.le_of_ble_eq_true rfl) rfl ?_
      refine r_aload_n (pc := 92) C 1 d_Model_layOrders_92 rfl rfl ?_
      refine r_iload_n (pc := 93) C 2 d_Model_layOrders_93 rfl rfl ?_
      refine r_iconst (pc := 94) C (v := 1) d_Model_layOrders_94 (by decide) ?_
      refine r_iadd (pc := 95) C d_Model_layOrders_95 ?_
      refine r_iload_n (pc := 96) C 3 d_Model_layOrders_96 rfl rfl ?_
      refine r_iconst (pc := 97) C (v := 1) d_Model_layOrders_97 (by decide) ?_
      refine r_iload (pc := 98) C 6 d_Model_layOrders_98 rfl ?_
      refine r_ishl (pc := 100) C d_Model_layOrders_100 ?_
      refine r_ior (pc := 101) C d_Model_layOrders_101 ?_
      refine r_iload (pc := 102) C 0 d_Model_layOrders_102 rfl ?_
      refine r_iload (pc := 104) C 5 d_Model_layOrders_104 rfl ?_
      refine r_iconst (pc := 106) C (v := 0) d_Model_layOrders_106 (by decide) ?_
      refine r_iload (pc := 107) C 0 d_Model_layOrders_107 rfl ?_
      refine r_aload_n (pc := 109) C 1 d_Model_layOrders_109 rfl rfl ?_
      refine g_Model_dueOf (pc := 110) C k_id176 Lf_Model_102 d_Model_layOrders_110 ?_
      refine r_iload (pc := 113) C 6 d_Model_layOrders_113 rfl ?_
      refine r_iald (pc := 115) C kq_Model_dueOf d_Model_layOrders_115 hf (fun hf => ?_)
      refine r_isub (pc := 116) C d_Model_layOrders_116 ?_
      refine r_callSi (pc := 117) (As := [.int 0, .int ((v3 + (D3 206 v5.toNatClampNeg)) - (D3 207 v5.toNatClampNeg))]) (rest := [.int v4, .int (v3 + (D3 206 v5.toNatClampNeg)), .int (v2 ||| (1 <<< (v5 &&& 31))), .int (v1 + 1), .ref (Γ.2.1 176)]) C ok_Model_greater Lm_Model_213 ⟨by omega, by omega⟩ rfl rfl (Nat.le_of_ble_eq_true rfl) d_Model_layOrders_117 hf (fun x D1 hc => c_Model_greater Γ hc) (fun x4 D5 hf => ?_)
      refine r_iadd (pc := 120) C d_Model_layOrders_120 ?_
      refine r_callVv (pc := 121) (As := [.int (v1 + 1), .int (v2 ||| (1 <<< (v5 &&& 31))), .int (v3 + (D3 206 v5.toNatClampNeg)), .int (v4 + x4)]) (rest := []) C ok_Model_layOrders Lm_Model_321 k_id176 (by decide) ⟨by omega, by omega⟩ rfl rfl (Nat.le_of_ble_eq_true rfl) d_Model_layOrders_121 hf (fun x D1 hc => hself (v1 + 1) (v2 ||| (1 <<< (v5 &&& 31))) (v3 + (D3 206 v5.toNatClampNeg)) (v4 + x4) _ x D1 hc) (fun x6 D7 hf => ?_)
      exact r_lv (pc := 124) C [1, 2, 3, 4, 5, 6] rfl (tb_Model_layOrders_124 C hself hk55 hf)
theorem tl_Model_layOrders_55 {Γ : GmT} {G : Dt → Nat → List (Nat × Value) → List Value → Prop} {rr : Unit} {DD : Dt} {d : Nat} (C : Cx Γ "RiverTuesdaysModel" b_Model_layOrders 7 (3 + d) none none DD G) {self : Int32 → Int32 → Int32 → Int32 → Dt → Option (Unit × Dt)} (hself : ∀ (v1 : Int32) (v2 : Int32) (v3 : Int32) (v4 : Int32) (D : Dt) (x : Unit) (D1 : Dt), self v1 v2 v3 v4 D = some (x, D1) → Mt Γ y_Model_layOrders b_Model_layOrders 7 none (2 + d) [.ref (Γ.2.1 176), .int v1, .int v2, .int v3, .int v4] D (none) D1) : ∀ (n : Nat) (v1 : Int32) (v2 : Int32) (v3 : Int32) (v4 : Int32) (v5 : Int32) (D : Dt), lp_Model_layOrders_55 self n v1 v2 v3 v4 v5 D = some (rr, DD) → G D 55 [(0, .ref (Γ.2.1 176)), (1, .int v1), (2, .int v2), (3, .int v3), (4, .int v4), (5, .int v5)] [] := by
  intro n
  induction n with
  | zero =>
    intro v1 v2 v3 v4 v5 D hf
    exact absurd (show (none : Option (Unit × Dt)) = some (rr, DD) from hf) (by simp)
  | succ n ih =>
    intro v1 v2 v3 v4 v5 D hf
    exact ts_Model_layOrders_55 C hself (k55 := lp_Model_layOrders_55 self n) ih hf
def b_Model_layOrders_52 (self : Int32 → Int32 → Int32 → Int32 → Dt → Option (Unit × Dt)) (v1 : Int32) (v2 : Int32) (v3 : Int32) (v4 : Int32) (D : Dt) : Option (Unit × Dt) :=
  lp_Model_layOrders_55 self FU v1 v2 v3 v4 0 D
set_option maxHeartbeats 4000000 in
theorem tb_Model_layOrders_52 {Γ : GmT} {G : Dt → Nat → List (Nat × Value) → List Value → Prop} {rr : Unit} {DD : Dt} {d : Nat} (C : Cx Γ "RiverTuesdaysModel" b_Model_layOrders 7 (3 + d) none none DD G) {self : Int32 → Int32 → Int32 → Int32 → Dt → Option (Unit × Dt)} (hself : ∀ (v1 : Int32) (v2 : Int32) (v3 : Int32) (v4 : Int32) (D : Dt) (x : Unit) (D1 : Dt), self v1 v2 v3 v4 D = some (x, D1) → Mt Γ y_Model_layOrders b_Model_layOrders 7 none (2 + d) [.ref (Γ.2.1 176), .int v1, .int v2, .int v3, .int v4] D (none) D1) {v1 : Int32} {v2 : Int32} {v3 : Int32} {v4 : Int32} {D : Dt} (hf : b_Model_layOrders_52 self v1 v2 v3 v4 D = some (rr, DD)) : G D 52 [(0, .ref (Γ.2.1 176)), (1, .int v1), (2, .int v2), (3, .int v3), (4, .int v4)] [] := by
  unfold b_Model_layOrders_52 at hf
  refine r_iconst (pc := 52) C (v := 0) d_Model_layOrders_52 (by decide) ?_
  refine r_istore (pc := 53) (lv' := [(5, .int 0), (0, .ref (Γ.2.1 176)), (1, .int v1), (2, .int v2), (3, .int v3), (4, .int v4)]) C d_Model_layOrders_53 (Nat.le_of_ble_eq_true rfl) rfl ?_
  exact r_lv (pc := 55) C [1, 2, 3, 4, 5, 0] rfl (tl_Model_layOrders_55 C hself FU v1 v2 v3 v4 0 D hf)
def s_Model_layOrders_26 (self : Int32 → Int32 → Int32 → Int32 → Dt → Option (Unit × Dt)) (k26 : Int32 → Int32 → Int32 → Int32 → Int32 → Dt → Option (Unit × Dt)) (v1 : Int32) (v2 : Int32) (v3 : Int32) (v4 : Int32) (v5 : Int32) (D : Dt) : Option (Unit × Dt) :=
  (if v1 ≤ v5 then b_Model_layOrders_52 self v1 v2 v3 v4 D else (if inb v5 6 = true then (if inb v5 6 = true then nm (wr D 209 v5.toNatClampNeg (D 208 v5.toNatClampNeg)) (fun D9 => k26 v1 v2 v3 v4 (v5 + 1) D9) else none) else none))
def lp_Model_layOrders_26 (self : Int32 → Int32 → Int32 → Int32 → Dt → Option (Unit × Dt)) (n : Nat) : Int32 → Int32 → Int32 → Int32 → Int32 → Dt → Option (Unit × Dt) := itr (fun _ _ _ _ _ _ => none) (s_Model_layOrders_26 self) n
set_option maxHeartbeats 4000000 in
theorem ts_Model_layOrders_26 {Γ : GmT} {G : Dt → Nat → List (Nat × Value) → List Value → Prop} {rr : Unit} {DD : Dt} {d : Nat} (C : Cx Γ "RiverTuesdaysModel" b_Model_layOrders 7 (3 + d) none none DD G) {self : Int32 → Int32 → Int32 → Int32 → Dt → Option (Unit × Dt)} (hself : ∀ (v1 : Int32) (v2 : Int32) (v3 : Int32) (v4 : Int32) (D : Dt) (x : Unit) (D1 : Dt), self v1 v2 v3 v4 D = some (x, D1) → Mt Γ y_Model_layOrders b_Model_layOrders 7 none (2 + d) [.ref (Γ.2.1 176), .int v1, .int v2, .int v3, .int v4] D (none) D1) {k26 : Int32 → Int32 → Int32 → Int32 → Int32 → Dt → Option (Unit × Dt)} (hk26 : ∀ (v1 : Int32) (v2 : Int32) (v3 : Int32) (v4 : Int32) (v5 : Int32) (D : Dt), k26 v1 v2 v3 v4 v5 D = some (rr, DD) → G D 26 [(0, .ref (Γ.2.1 176)), (1, .int v1), (2, .int v2), (3, .int v3), (4, .int v4), (5, .int v5)] []) {v1 : Int32} {v2 : Int32} {v3 : Int32} {v4 : Int32} {v5 : Int32} {D : Dt} (hf : s_Model_layOrders_26 self k26 v1 v2 v3 v4 v5 D = some (rr, DD)) : G D 26 [(0, .ref (Γ.2.1 176)), (1, .int v1), (2, .int v2), (3, .int v3), (4, .int v4), (5, .int v5)] [] := by
  unfold s_Model_layOrders_26 at hf
  refine r_iload (pc := 26) C 5 d_Model_layOrders_26 rfl ?_
  refine r_iload_n (pc := 28) C 1 d_Model_layOrders_28 rfl rfl ?_
  refine r_icmp_ge (pc := 29) C (tgt := 52) d_Model_layOrders_29 (by decide) hf (fun c29 hf => ?_) (fun c29 hf => ?_)
  · exact r_lv (pc := 52) C [0, 1, 2, 3, 4] rfl (tb_Model_layOrders_52 C hself hf)
  · refine r_aload_n (pc := 32) C 0 d_Model_layOrders_32 rfl rfl ?_
    refine g_Model_bestOrder (pc := 33) C k_id176 Lf_Model_108 d_Model_layOrders_33 ?_
    refine r_iload (pc := 36) C 5 d_Model_layOrders_36 rfl ?_
    refine r_aload_n (pc := 38) C 0 d_Model_layOrders_38 rfl rfl ?_
    refine g_Model_order (pc := 39) C k_id176 Lf_Model_105 d_Model_layOrders_39 ?_
    refine r_iload (pc := 42) C 5 d_Model_layOrders_42 rfl ?_
    refine r_iald (pc := 44) C kq_Model_order d_Model_layOrders_44 hf (fun hf => ?_)
    refine r_iast (pc := 45) C kq_Model_bestOrder d_Model_layOrders_45 hf (fun hf => ?_)
    refine r_nmD hf (fun D9 hf => ?_)
    refine r_iinc (pc := 46) C (v := v5 + 1) (lv' := [(5, .int (v5 + 1)), (0, .ref (Γ.2.1 176)), (1, .int v1), (2, .int v2), (3, .int v3), (4, .int v4)]) 5 d_Model_layOrders_46 rfl rfl (Nat.le_of_ble_eq_true rfl) rfl ?_
    refine r_goto (pc := 49) C (tgt := 26) d_Model_layOrders_49 (by decide) ?_
    exact r_lv (pc := 26) C [1, 2, 3, 4, 5, 0] rfl (hk26 v1 v2 v3 v4 (v5 + 1) D9 hf)
theorem tl_Model_layOrders_26 {Γ : GmT} {G : Dt → Nat → List (Nat × Value) → List Value → Prop} {rr : Unit} {DD : Dt} {d : Nat} (C : Cx Γ "RiverTuesdaysModel" b_Model_layOrders 7 (3 + d) none none DD G) {self : Int32 → Int32 → Int32 → Int32 → Dt → Option (Unit × Dt)} (hself : ∀ (v1 : Int32) (v2 : Int32) (v3 : Int32) (v4 : Int32) (D : Dt) (x : Unit) (D1 : Dt), self v1 v2 v3 v4 D = some (x, D1) → Mt Γ y_Model_layOrders b_Model_layOrders 7 none (2 + d) [.ref (Γ.2.1 176), .int v1, .int v2, .int v3, .int v4] D (none) D1) : ∀ (n : Nat) (v1 : Int32) (v2 : Int32) (v3 : Int32) (v4 : Int32) (v5 : Int32) (D : Dt), lp_Model_layOrders_26 self n v1 v2 v3 v4 v5 D = some (rr, DD) → G D 26 [(0, .ref (Γ.2.1 176)), (1, .int v1), (2, .int v2), (3, .int v3), (4, .int v4), (5, .int v5)] [] := by
  intro n
  induction n with
  | zero =>
    intro v1 v2 v3 v4 v5 D hf
    exact absurd (show (none : Option (Unit × Dt)) = some (rr, DD) from hf) (by simp)
  | succ n ih =>
    intro v1 v2 v3 v4 v5 D hf
    exact ts_Model_layOrders_26 C hself (k26 := lp_Model_layOrders_26 self n) ih hf
def e_Model_layOrders (self : Int32 → Int32 → Int32 → Int32 → Dt → Option (Unit × Dt)) (v1 : Int32) (v2 : Int32) (v3 : Int32) (v4 : Int32) (D : Dt) : Option (Unit × Dt) :=
  (if v1 = (D 176 50) then (if (D 176 55) ≤ v4 then b_Model_layOrders_52 self v1 v2 v3 v4 D else nm (wr D 176 55 v4) (fun D8 => lp_Model_layOrders_26 self FU v1 v2 v3 v4 0 D8)) else b_Model_layOrders_52 self v1 v2 v3 v4 D)
def f_Model_layOrders (n : Nat) : Int32 → Int32 → Int32 → Int32 → Dt → Option (Unit × Dt) := itr (fun _ _ _ _ _ => none) e_Model_layOrders n
set_option maxHeartbeats 4000000 in
theorem te_Model_layOrders {Γ : GmT} {G : Dt → Nat → List (Nat × Value) → List Value → Prop} {rr : Unit} {DD : Dt} {d : Nat} (C : Cx Γ "RiverTuesdaysModel" b_Model_layOrders 7 (3 + d) none none DD G) {self : Int32 → Int32 → Int32 → Int32 → Dt → Option (Unit × Dt)} (hself : ∀ (v1 : Int32) (v2 : Int32) (v3 : Int32) (v4 : Int32) (D : Dt) (x : Unit) (D1 : Dt), self v1 v2 v3 v4 D = some (x, D1) → Mt Γ y_Model_layOrders b_Model_layOrders 7 none (2 + d) [.ref (Γ.2.1 176), .int v1, .int v2, .int v3, .int v4] D (none) D1) {v1 : Int32} {v2 : Int32} {v3 : Int32} {v4 : Int32} {D : Dt} (hf : e_Model_layOrders self v1 v2 v3 v4 D = some (rr, DD)) : G D 0 [(0, .ref (Γ.2.1 176)), (1, .int v1), (2, .int v2), (3, .int v3), (4, .int v4)] [] := by
  unfold e_Model_layOrders at hf
  refine r_iload_n (pc := 0) C 1 d_Model_layOrders_0 rfl rfl ?_
  refine r_aload_n (pc := 1) C 0 d_Model_layOrders_1 rfl rfl ?_
  refine g_Model_jobMany (pc := 2) C k_id176 Lf_Model_315 d_Model_layOrders_2 ?_
  refine r_icmp_ne (pc := 5) C (tgt := 52) d_Model_layOrders_5 (by decide) hf (fun c5 hf => ?_) (fun c5 hf => ?_)
  · exact r_lv (pc := 52) C [0, 1, 2, 3, 4] rfl (tb_Model_layOrders_52 C hself hf)
  · refine r_iload (pc := 8) C 4 d_Model_layOrders_8 rfl ?_
    refine r_aload_n (pc := 10) C 0 d_Model_layOrders_10 rfl rfl ?_
    refine g_Model_leastLate (pc := 11) C k_id176 Lf_Model_318 d_Model_layOrders_11 ?_
    refine r_icmp_ge (pc := 14) C (tgt := 52) d_Model_layOrders_14 (by decide) hf (fun c14 hf => ?_) (fun c14 hf => ?_)
    · exact r_lv (pc := 52) C [0, 1, 2, 3, 4] rfl (tb_Model_layOrders_52 C hself hf)
    · refine r_aload_n (pc := 17) C 0 d_Model_layOrders_17 rfl rfl ?_
      refine r_iload (pc := 18) C 4 d_Model_layOrders_18 rfl ?_
      refine p_Model_leastLate (pc := 20) C k_id176 Lf_Model_318 d_Model_layOrders_20 ?_
      refine r_nmD hf (fun D8 hf => ?_)
      refine r_iconst (pc := 23) C (v := 0) d_Model_layOrders_23 (by decide) ?_
      refine r_istore (pc := 24) (lv' := [(5, .int 0), (0, .ref (Γ.2.1 176)), (1, .int v1), (2, .int v2), (3, .int v3), (4, .int v4)]) C d_Model_layOrders_24 (Nat.le_of_ble_eq_true rfl) rfl ?_
      exact r_lv (pc := 26) C [1, 2, 3, 4, 5, 0] rfl (tl_Model_layOrders_26 C hself FU v1 v2 v3 v4 0 D8 hf)
theorem cd_Model_layOrders (Γ : GmT) : ∀ (d : Nat) (v1 : Int32) (v2 : Int32) (v3 : Int32) (v4 : Int32) (D : Dt) (rr : Unit) (DD : Dt), f_Model_layOrders d v1 v2 v3 v4 D = some (rr, DD) → Mt Γ y_Model_layOrders b_Model_layOrders 7 none (2 + d) [.ref (Γ.2.1 176), .int v1, .int v2, .int v3, .int v4] D none DD := by
  intro d
  induction d with
  | zero =>
    intro v1 v2 v3 v4 D rr DD hf
    exact absurd (show (none : Option (Unit × Dt)) = some (rr, DD) from hf) (by simp)
  | succ d ih =>
    intro v1 v2 v3 v4 D rr DD hf
    exact Mt_of (fr := 2 + (d + 1)) (by decide) (Nat.le_of_ble_eq_true rfl) (fun G C => te_Model_layOrders (d := d) (by rw [show 2 + 1 + d = 2 + (d + 1) by omega]; exact C) (self := f_Model_layOrders d) ih hf)
theorem c_Model_layOrders (Γ : GmT) (d : Nat) {v1 : Int32} {v2 : Int32} {v3 : Int32} {v4 : Int32} {D : Dt} {rr : Unit} {DD : Dt} (hf : f_Model_layOrders d v1 v2 v3 v4 D = some (rr, DD)) : Mt Γ y_Model_layOrders b_Model_layOrders 7 none (2 + d) [.ref (Γ.2.1 176), .int v1, .int v2, .int v3, .int v4] D none DD := cd_Model_layOrders Γ d v1 v2 v3 v4 D rr DD hf
def b_Model_work_105 (k67 : Int32 → Int32 → Dt → Option (Int32 × Dt)) (v3 : Int32) (v5 : Int32) (s0 : Int32) (s1 : Int32) (rs2 : Nat) (D : Dt) : Option (Int32 × Dt) :=
  (if inb s1 360 = true then nm (wr D rs2 s1.toNatClampNeg s0) (fun D13 => k67 v3 (v5 + 1) D13) else none)
set_option maxHeartbeats 4000000 in
theorem tb_Model_work_105 {Γ : GmT} {G : Dt → Nat → List (Nat × Value) → List Value → Prop} {rr : Int32} {DD : Dt} (C : Cx Γ "RiverTuesdaysModel" b_Model_work 6 11 (some .int) (some (.int rr)) DD G) {k67 : Int32 → Int32 → Dt → Option (Int32 × Dt)} (hk67 : ∀ (v3 : Int32) (v5 : Int32) (D : Dt), k67 v3 v5 D = some (rr, DD) → G D 67 [(0, .ref (Γ.2.1 176)), (3, .int v3), (5, .int v5)] []) {v3 : Int32} {v5 : Int32} {s0 : Int32} {s1 : Int32} {rs2 : Nat} (hrs2 : isA 11 rs2 360) {D : Dt} (hf : b_Model_work_105 k67 v3 v5 s0 s1 rs2 D = some (rr, DD)) : G D 105 [(0, .ref (Γ.2.1 176)), (3, .int v3), (5, .int v5)] [.int s0, .int s1, .ref (Γ.2.1 rs2)] := by
  unfold b_Model_work_105 at hf
  refine r_iast (pc := 105) C hrs2 d_Model_work_105 hf (fun hf => ?_)
  refine r_nmD hf (fun D13 hf => ?_)
  refine r_iinc (pc := 106) C (v := v5 + 1) (lv' := [(5, .int (v5 + 1)), (0, .ref (Γ.2.1 176)), (3, .int v3)]) 2 d_Model_work_106 rfl rfl (Nat.le_of_ble_eq_true rfl) rfl ?_
  refine r_goto (pc := 109) C (tgt := 67) d_Model_work_109 (by decide) ?_
  exact r_lv (pc := 67) C [1, 2, 0] rfl (hk67 v3 (v5 + 1) D13 hf)
def s_Model_work_67 (k67 : Int32 → Int32 → Dt → Option (Int32 × Dt)) (v3 : Int32) (v5 : Int32) (D : Dt) : Option (Int32 × Dt) :=
  (if 60 ≤ v5 then some (D 176 55, D) else (if (D 176 50) ≤ v5 then b_Model_work_105 k67 v3 v5 0 ((60 * v3) + v5) 179 D else (if inb v5 6 = true then b_Model_work_105 k67 v3 v5 (D 209 v5.toNatClampNeg) ((60 * v3) + v5) 179 D else none)))
def lp_Model_work_67 (n : Nat) : Int32 → Int32 → Dt → Option (Int32 × Dt) := itr (fun _ _ _ => none) (s_Model_work_67) n
set_option maxHeartbeats 4000000 in
theorem ts_Model_work_67 {Γ : GmT} {G : Dt → Nat → List (Nat × Value) → List Value → Prop} {rr : Int32} {DD : Dt} (C : Cx Γ "RiverTuesdaysModel" b_Model_work 6 11 (some .int) (some (.int rr)) DD G) {k67 : Int32 → Int32 → Dt → Option (Int32 × Dt)} (hk67 : ∀ (v3 : Int32) (v5 : Int32) (D : Dt), k67 v3 v5 D = some (rr, DD) → G D 67 [(0, .ref (Γ.2.1 176)), (3, .int v3), (5, .int v5)] []) {v3 : Int32} {v5 : Int32} {D : Dt} (hf : s_Model_work_67 k67 v3 v5 D = some (rr, DD)) : G D 67 [(0, .ref (Γ.2.1 176)), (3, .int v3), (5, .int v5)] [] := by
  unfold s_Model_work_67 at hf
  refine r_iload (pc := 67) C 2 d_Model_work_67 rfl ?_
  refine r_bipush (pc := 69) C (v := 60) d_Model_work_69 (by decide) ?_
  refine r_icmp_ge (pc := 71) C (tgt := 112) d_Model_work_71 (by decide) hf (fun c71 hf => ?_) (fun c71 hf => ?_)
  · refine r_aload_n (pc := 112) C 0 d_Model_work_112 rfl rfl ?_
    refine g_Model_leastLate (pc := 113) C k_id176 Lf_Model_318 d_Model_work_113 ?_
    exact r_iret (pc := 116) C d_Model_work_116 hf
  · refine r_aload_n (pc := 74) C 0 d_Model_work_74 rfl rfl ?_
    refine g_Model_rows (pc := 75) C k_id176 Lf_Model_16 d_Model_work_75 ?_
    refine r_bipush (pc := 78) C (v := 60) d_Model_work_78 (by decide) ?_
    refine r_iload_n (pc := 80) C 1 d_Model_work_80 rfl rfl ?_
    refine r_imul (pc := 81) C d_Model_work_81 ?_
    refine r_iload (pc := 82) C 2 d_Model_work_82 rfl ?_
    refine r_iadd (pc := 84) C d_Model_work_84 ?_
    refine r_iload (pc := 85) C 2 d_Model_work_85 rfl ?_
    refine r_aload_n (pc := 87) C 0 d_Model_work_87 rfl rfl ?_
    refine g_Model_jobMany (pc := 88) C k_id176 Lf_Model_315 d_Model_work_88 ?_
    refine r_icmp_ge (pc := 91) C (tgt := 104) d_Model_work_91 (by decide) hf (fun c91 hf => ?_) (fun c91 hf => ?_)
    · refine r_iconst (pc := 104) C (v := 0) d_Model_work_104 (by decide) ?_
      exact r_lv (pc := 105) C [0, 1, 2] rfl (tb_Model_work_105 C hk67 kq_Model_rows hf)
    · refine r_aload_n (pc := 94) C 0 d_Model_work_94 rfl rfl ?_
      refine g_Model_bestOrder (pc := 95) C k_id176 Lf_Model_108 d_Model_work_95 ?_
      refine r_iload (pc := 98) C 2 d_Model_work_98 rfl ?_
      refine r_iald (pc := 100) C kq_Model_bestOrder d_Model_work_100 hf (fun hf => ?_)
      refine r_goto (pc := 101) C (tgt := 105) d_Model_work_101 (by decide) ?_
      exact r_lv (pc := 105) C [0, 1, 2] rfl (tb_Model_work_105 C hk67 kq_Model_rows hf)
theorem tl_Model_work_67 {Γ : GmT} {G : Dt → Nat → List (Nat × Value) → List Value → Prop} {rr : Int32} {DD : Dt} (C : Cx Γ "RiverTuesdaysModel" b_Model_work 6 11 (some .int) (some (.int rr)) DD G) : ∀ (n : Nat) (v3 : Int32) (v5 : Int32) (D : Dt), lp_Model_work_67 n v3 v5 D = some (rr, DD) → G D 67 [(0, .ref (Γ.2.1 176)), (3, .int v3), (5, .int v5)] [] := by
  intro n
  induction n with
  | zero =>
    intro v3 v5 D hf
    exact absurd (show (none : Option (Int32 × Dt)) = some (rr, DD) from hf) (by simp)
  | succ n ih =>
    intro v3 v5 D hf
    exact ts_Model_work_67 C (k67 := lp_Model_work_67 n) ih hf
def f_Model_work (v1 : Int32) (v2 : Int32) (v3 : Int32) (D : Dt) : Option (Int32 × Dt) :=
  bnd (f_Model_isRow v1 D) (fun x1 D2 => (if x1 = 0 then some ((-1), D2) else bnd (f_Model_isRow v2 D2) (fun x3 D4 => (if x3 = 0 then some ((-1), D4) else bnd (f_Model_isRow v3 D4) (fun x5 D6 => (if x5 = 0 then some ((-1), D6) else bnd (f_Model_needJobs v1 v2 D6) (fun x7 D8 => (if 0 ≤ x7 then nm (wr D8 176 55 99999) (fun D9 => bnd (f_Model_layOrders 8 0 0 0 0 D9) (fun x10 D11 => (if inb v3 6 = true then nm (wr D11 178 v3.toNatClampNeg (D11 176 50)) (fun D12 => lp_Model_work_67 FU v3 0 D12) else none))) else some (x7, D8)))))))))
set_option maxHeartbeats 4000000 in
theorem te_Model_work {Γ : GmT} {G : Dt → Nat → List (Nat × Value) → List Value → Prop} {rr : Int32} {DD : Dt} (C : Cx Γ "RiverTuesdaysModel" b_Model_work 6 11 (some .int) (some (.int rr)) DD G) {v1 : Int32} {v2 : Int32} {v3 : Int32} {D : Dt} (hf : f_Model_work v1 v2 v3 D = some (rr, DD)) : G D 0 [(0, .ref (Γ.2.1 176)), (1, .int v1), (2, .int v2), (3, .int v3)] [] := by
  unfold f_Model_work at hf
  refine r_iload_n (pc := 0) C 1 d_Model_work_0 rfl rfl ?_
  refine r_callSi (pc := 1) (As := [.int v1]) (rest := []) C ok_Model_isRow Lm_Model_125 ⟨by decide, by decide⟩ rfl rfl (Nat.le_of_ble_eq_true rfl) d_Model_work_1 hf (fun x D1 hc => c_Model_isRow Γ hc) (fun x1 D2 hf => ?_)
  refine r_if_eq (pc := 4) C (tgt := 21) d_Model_work_4 (by decide) hf (fun c4 hf => ?_) (fun c4 hf => ?_)
  · refine r_iconst (pc := 21) C (v := (-1)) d_Model_work_21 (by decide) ?_
    exact r_iret (pc := 22) C d_Model_work_22 hf
  · refine r_iload_n (pc := 7) C 2 d_Model_work_7 rfl rfl ?_
    refine r_callSi (pc := 8) (As := [.int v2]) (rest := []) C ok_Model_isRow Lm_Model_125 ⟨by decide, by decide⟩ rfl rfl (Nat.le_of_ble_eq_true rfl) d_Model_work_8 hf (fun x D1 hc => c_Model_isRow Γ hc) (fun x3 D4 hf => ?_)
    refine r_if_eq (pc := 11) C (tgt := 21) d_Model_work_11 (by decide) hf (fun c11 hf => ?_) (fun c11 hf => ?_)
    · refine r_iconst (pc := 21) C (v := (-1)) d_Model_work_21 (by decide) ?_
      exact r_iret (pc := 22) C d_Model_work_22 hf
    · refine r_iload_n (pc := 14) C 3 d_Model_work_14 rfl rfl ?_
      refine r_callSi (pc := 15) (As := [.int v3]) (rest := []) C ok_Model_isRow Lm_Model_125 ⟨by decide, by decide⟩ rfl rfl (Nat.le_of_ble_eq_true rfl) d_Model_work_15 hf (fun x D1 hc => c_Model_isRow Γ hc) (fun x5 D6 hf => ?_)
      refine r_if_ne (pc := 18) C (tgt := 23) d_Model_work_18 (by decide) hf (fun c18 hf => ?_) (fun c18 hf => ?_)
      · refine r_aload_n (pc := 23) C 0 d_Model_work_23 rfl rfl ?_
        refine r_iload_n (pc := 24) C 1 d_Model_work_24 rfl rfl ?_
        refine r_iload_n (pc := 25) C 2 d_Model_work_25 rfl rfl ?_
        refine r_callVi (pc := 26) (As := [.int v1, .int v2]) (rest := []) C ok_Model_needJobs Lm_Model_325 k_id176 (by decide) ⟨by decide, by decide⟩ rfl rfl (Nat.le_of_ble_eq_true rfl) d_Model_work_26 hf (fun x D1 hc => c_Model_needJobs Γ hc) (fun x7 D8 hf => ?_)
        refine r_istore (pc := 29) (lv' := [(4, .int x7), (0, .ref (Γ.2.1 176)), (1, .int v1), (2, .int v2), (3, .int v3)]) C d_Model_work_29 (Nat.le_of_ble_eq_true rfl) rfl ?_
        refine r_iload (pc := 31) C 0 d_Model_work_31 rfl ?_
        refine r_if_ge (pc := 33) C (tgt := 39) d_Model_work_33 (by decide) hf (fun c33 hf => ?_) (fun c33 hf => ?_)
        · refine r_aload_n (pc := 39) C 1 d_Model_work_39 rfl rfl ?_
          refine r_ldcw (pc := 40) C Lc_Model_328 d_Model_work_40 ?_
          refine p_Model_leastLate (pc := 43) C k_id176 Lf_Model_318 d_Model_work_43 ?_
          refine r_nmD hf (fun D9 hf => ?_)
          refine r_aload_n (pc := 46) C 1 d_Model_work_46 rfl rfl ?_
          refine r_iconst (pc := 47) C (v := 0) d_Model_work_47 (by decide) ?_
          refine r_iconst (pc := 48) C (v := 0) d_Model_work_48 (by decide) ?_
          refine r_iconst (pc := 49) C (v := 0) d_Model_work_49 (by decide) ?_
          refine r_iconst (pc := 50) C (v := 0) d_Model_work_50 (by decide) ?_
          refine r_callVv (pc := 51) (As := [.int 0, .int 0, .int 0, .int 0]) (rest := []) C ok_Model_layOrders Lm_Model_321 k_id176 (by decide) ⟨by decide, by decide⟩ rfl rfl (Nat.le_of_ble_eq_true rfl) d_Model_work_51 hf (fun x D1 hc => c_Model_layOrders Γ 8 hc) (fun x10 D11 hf => ?_)
          refine r_aload_n (pc := 54) C 1 d_Model_work_54 rfl rfl ?_
          refine g_Model_sizes (pc := 55) C k_id176 Lf_Model_13 d_Model_work_55 ?_
          refine r_iload_n (pc := 58) C 4 d_Model_work_58 rfl rfl ?_
          refine r_aload_n (pc := 59) C 1 d_Model_work_59 rfl rfl ?_
          refine g_Model_jobMany (pc := 60) C k_id176 Lf_Model_315 d_Model_work_60 ?_
          refine r_iast (pc := 63) C kq_Model_sizes d_Model_work_63 hf (fun hf => ?_)
          refine r_nmD hf (fun D12 hf => ?_)
          refine r_iconst (pc := 64) C (v := 0) d_Model_work_64 (by decide) ?_
          refine r_istore (pc := 65) (lv' := [(5, .int 0), (4, .int x7), (0, .ref (Γ.2.1 176)), (1, .int v1), (2, .int v2), (3, .int v3)]) C d_Model_work_65 (Nat.le_of_ble_eq_true rfl) rfl ?_
          exact r_lv (pc := 67) C [2, 5, 0] rfl (tl_Model_work_67 C FU v3 0 D12 hf)
        · refine r_iload (pc := 36) C 0 d_Model_work_36 rfl ?_
          exact r_iret (pc := 38) C d_Model_work_38 hf
      · refine r_iconst (pc := 21) C (v := (-1)) d_Model_work_21 (by decide) ?_
        exact r_iret (pc := 22) C d_Model_work_22 hf
theorem c_Model_work (Γ : GmT) {v1 : Int32} {v2 : Int32} {v3 : Int32} {D : Dt} {rr : Int32} {DD : Dt} (hf : f_Model_work v1 v2 v3 D = some (rr, DD)) : Mt Γ y_Model_work b_Model_work 6 (some .int) 11 [.ref (Γ.2.1 176), .int v1, .int v2, .int v3] D (some (.int rr)) DD := Mt_of (by decide) (Nat.le_of_ble_eq_true rfl) (fun G C => te_Model_work C hf)
def b_Model_inTime_64 (k4 : Int32 → Int32 → Dt → Option (Int32 × Dt)) (k15 : Int32 → Int32 → Int32 → Int32 → Dt → Option (Int32 × Dt)) (v2 : Int32) (v3 : Int32) (v5 : Int32) (s0 : Int32) (D : Dt) : Option (Int32 × Dt) :=
  k15 v2 v3 s0 (v5 + 1) D
set_option maxHeartbeats 4000000 in
theorem tb_Model_inTime_64 {Γ : GmT} {G : Dt → Nat → List (Nat × Value) → List Value → Prop} {rr : Int32} {DD : Dt} (C : Cx Γ "RiverTuesdaysModel" b_Model_inTime 6 2 (some .boolean) (some (.int rr)) DD G) {k4 : Int32 → Int32 → Dt → Option (Int32 × Dt)} {k15 : Int32 → Int32 → Int32 → Int32 → Dt → Option (Int32 × Dt)} (hk4 : ∀ (v2 : Int32) (v3 : Int32) (D : Dt), k4 v2 v3 D = some (rr, DD) → G D 4 [(0, .ref (Γ.2.1 176)), (2, .int v2), (3, .int v3)] []) (hk15 : ∀ (v2 : Int32) (v3 : Int32) (v4 : Int32) (v5 : Int32) (D : Dt), k15 v2 v3 v4 v5 D = some (rr, DD) → G D 15 [(0, .ref (Γ.2.1 176)), (2, .int v2), (3, .int v3), (4, .int v4), (5, .int v5)] []) {v2 : Int32} {v3 : Int32} {v5 : Int32} {s0 : Int32} {D : Dt} (hf : b_Model_inTime_64 k4 k15 v2 v3 v5 s0 D = some (rr, DD)) : G D 64 [(0, .ref (Γ.2.1 176)), (2, .int v2), (3, .int v3), (5, .int v5)] [.int s0] := by
  unfold b_Model_inTime_64 at hf
  refine r_istore (pc := 64) (lv' := [(4, .int s0), (0, .ref (Γ.2.1 176)), (2, .int v2), (3, .int v3), (5, .int v5)]) C d_Model_inTime_64 (Nat.le_of_ble_eq_true rfl) rfl ?_
  refine r_iinc (pc := 66) C (v := v5 + 1) (lv' := [(5, .int (v5 + 1)), (4, .int s0), (0, .ref (Γ.2.1 176)), (2, .int v2), (3, .int v3)]) 4 d_Model_inTime_66 rfl rfl (Nat.le_of_ble_eq_true rfl) rfl ?_
  refine r_goto (pc := 69) C (tgt := 15) d_Model_inTime_69 (by decide) ?_
  exact r_lv (pc := 15) C [2, 3, 4, 1, 0] rfl (hk15 v2 v3 s0 (v5 + 1) D hf)
def b_Model_inTime_62 (k4 : Int32 → Int32 → Dt → Option (Int32 × Dt)) (k15 : Int32 → Int32 → Int32 → Int32 → Dt → Option (Int32 × Dt)) (v2 : Int32) (v3 : Int32) (v4 : Int32) (v5 : Int32) (D : Dt) : Option (Int32 × Dt) :=
  b_Model_inTime_64 k4 k15 v2 v3 v5 v4 D
set_option maxHeartbeats 4000000 in
theorem tb_Model_inTime_62 {Γ : GmT} {G : Dt → Nat → List (Nat × Value) → List Value → Prop} {rr : Int32} {DD : Dt} (C : Cx Γ "RiverTuesdaysModel" b_Model_inTime 6 2 (some .boolean) (some (.int rr)) DD G) {k4 : Int32 → Int32 → Dt → Option (Int32 × Dt)} {k15 : Int32 → Int32 → Int32 → Int32 → Dt → Option (Int32 × Dt)} (hk4 : ∀ (v2 : Int32) (v3 : Int32) (D : Dt), k4 v2 v3 D = some (rr, DD) → G D 4 [(0, .ref (Γ.2.1 176)), (2, .int v2), (3, .int v3)] []) (hk15 : ∀ (v2 : Int32) (v3 : Int32) (v4 : Int32) (v5 : Int32) (D : Dt), k15 v2 v3 v4 v5 D = some (rr, DD) → G D 15 [(0, .ref (Γ.2.1 176)), (2, .int v2), (3, .int v3), (4, .int v4), (5, .int v5)] []) {v2 : Int32} {v3 : Int32} {v4 : Int32} {v5 : Int32} {D : Dt} (hf : b_Model_inTime_62 k4 k15 v2 v3 v4 v5 D = some (rr, DD)) : G D 62 [(0, .ref (Γ.2.1 176)), (2, .int v2), (3, .int v3), (4, .int v4), (5, .int v5)] [] := by
  unfold b_Model_inTime_62 at hf
  refine r_iload (pc := 62) C 3 d_Model_inTime_62 rfl ?_
  exact r_lv (pc := 64) C [0, 1, 2, 4] rfl (tb_Model_inTime_64 C hk4 hk15 hf)
def b_Model_inTime_57 (k4 : Int32 → Int32 → Dt → Option (Int32 × Dt)) (k15 : Int32 → Int32 → Int32 → Int32 → Dt → Option (Int32 × Dt)) (v2 : Int32) (v3 : Int32) (v5 : Int32) (D : Dt) : Option (Int32 × Dt) :=
  b_Model_inTime_64 k4 k15 v2 v3 v5 v5 D
set_option maxHeartbeats 4000000 in
theorem tb_Model_inTime_57 {Γ : GmT} {G : Dt → Nat → List (Nat × Value) → List Value → Prop} {rr : Int32} {DD : Dt} (C : Cx Γ "RiverTuesdaysModel" b_Model_inTime 6 2 (some .boolean) (some (.int rr)) DD G) {k4 : Int32 → Int32 → Dt → Option (Int32 × Dt)} {k15 : Int32 → Int32 → Int32 → Int32 → Dt → Option (Int32 × Dt)} (hk4 : ∀ (v2 : Int32) (v3 : Int32) (D : Dt), k4 v2 v3 D = some (rr, DD) → G D 4 [(0, .ref (Γ.2.1 176)), (2, .int v2), (3, .int v3)] []) (hk15 : ∀ (v2 : Int32) (v3 : Int32) (v4 : Int32) (v5 : Int32) (D : Dt), k15 v2 v3 v4 v5 D = some (rr, DD) → G D 15 [(0, .ref (Γ.2.1 176)), (2, .int v2), (3, .int v3), (4, .int v4), (5, .int v5)] []) {v2 : Int32} {v3 : Int32} {v5 : Int32} {D : Dt} (hf : b_Model_inTime_57 k4 k15 v2 v3 v5 D = some (rr, DD)) : G D 57 [(0, .ref (Γ.2.1 176)), (2, .int v2), (3, .int v3), (5, .int v5)] [] := by
  unfold b_Model_inTime_57 at hf
  refine r_iload (pc := 57) C 3 d_Model_inTime_57 rfl ?_
  refine r_goto (pc := 59) C (tgt := 64) d_Model_inTime_59 (by decide) ?_
  exact r_lv (pc := 64) C [0, 1, 2, 3] rfl (tb_Model_inTime_64 C hk4 hk15 hf)
def s_Model_inTime_15 (k4 : Int32 → Int32 → Dt → Option (Int32 × Dt)) (k15 : Int32 → Int32 → Int32 → Int32 → Dt → Option (Int32 × Dt)) (v2 : Int32) (v3 : Int32) (v4 : Int32) (v5 : Int32) (D : Dt) : Option (Int32 × Dt) :=
  (if (D 176 50) ≤ v5 then (if inb v4 6 = true then (if inb v4 6 = true then (if (v3 + (D 206 v4.toNatClampNeg)) ≤ (D 207 v4.toNatClampNeg) then nm (v2 &&& ((1 <<< (v4 &&& 31)) ^^^ (-1))) (fun x1 => k4 x1 (v3 + (D 206 v4.toNatClampNeg)) D) else some (0, D)) else none) else none) else bnd (f_Model_has v2 v5 D) (fun x2 D3 => (if x2 = 0 then b_Model_inTime_62 k4 k15 v2 v3 v4 v5 D3 else (if v4 = (-9) then b_Model_inTime_57 k4 k15 v2 v3 v5 D3 else (if inb v5 6 = true then (if inb v4 6 = true then (if (D3 207 v4.toNatClampNeg) ≤ (D3 207 v5.toNatClampNeg) then b_Model_inTime_62 k4 k15 v2 v3 v4 v5 D3 else b_Model_inTime_57 k4 k15 v2 v3 v5 D3) else none) else none)))))
def lp_Model_inTime_15 (k4 : Int32 → Int32 → Dt → Option (Int32 × Dt)) (n : Nat) : Int32 → Int32 → Int32 → Int32 → Dt → Option (Int32 × Dt) := itr (fun _ _ _ _ _ => none) (s_Model_inTime_15 k4) n
set_option maxHeartbeats 4000000 in
theorem ts_Model_inTime_15 {Γ : GmT} {G : Dt → Nat → List (Nat × Value) → List Value → Prop} {rr : Int32} {DD : Dt} (C : Cx Γ "RiverTuesdaysModel" b_Model_inTime 6 2 (some .boolean) (some (.int rr)) DD G) {k4 : Int32 → Int32 → Dt → Option (Int32 × Dt)} (hk4 : ∀ (v2 : Int32) (v3 : Int32) (D : Dt), k4 v2 v3 D = some (rr, DD) → G D 4 [(0, .ref (Γ.2.1 176)), (2, .int v2), (3, .int v3)] []) {k15 : Int32 → Int32 → Int32 → Int32 → Dt → Option (Int32 × Dt)} (hk15 : ∀ (v2 : Int32) (v3 : Int32) (v4 : Int32) (v5 : Int32) (D : Dt), k15 v2 v3 v4 v5 D = some (rr, DD) → G D 15 [(0, .ref (Γ.2.1 176)), (2, .int v2), (3, .int v3), (4, .int v4), (5, .int v5)] []) {v2 : Int32} {v3 : Int32} {v4 : Int32} {v5 : Int32} {D : Dt} (hf : s_Model_inTime_15 k4 k15 v2 v3 v4 v5 D = some (rr, DD)) : G D 15 [(0, .ref (Γ.2.1 176)), (2, .int v2), (3, .int v3), (4, .int v4), (5, .int v5)] [] := by
  unfold s_Model_inTime_15 at hf
  refine r_iload (pc := 15) C 4 d_Model_inTime_15 rfl ?_
  refine r_aload_n (pc := 17) C 0 d_Model_inTime_17 rfl rfl ?_
  refine g_Model_jobMany (pc := 18) C k_id176 Lf_Model_315 d_Model_inTime_18 ?_
  refine r_icmp_ge (pc := 21) C (tgt := 72) d_Model_inTime_21 (by decide) hf (fun c21 hf => ?_) (fun c21 hf => ?_)
  · refine r_iload_n (pc := 72) C 2 d_Model_inTime_72 rfl rfl ?_
    refine r_aload_n (pc := 73) C 0 d_Model_inTime_73 rfl rfl ?_
    refine g_Model_takesOf (pc := 74) C k_id176 Lf_Model_99 d_Model_inTime_74 ?_
    refine r_iload (pc := 77) C 3 d_Model_inTime_77 rfl ?_
    refine r_iald (pc := 79) C kq_Model_takesOf d_Model_inTime_79 hf (fun hf => ?_)
    refine r_iadd (pc := 80) C d_Model_inTime_80 ?_
    refine r_istore_n (pc := 81) (lv' := [(3, .int (v3 + (D 206 v4.toNatClampNeg))), (0, .ref (Γ.2.1 176)), (2, .int v2), (4, .int v4), (5, .int v5)]) C d_Model_inTime_81 rfl (Nat.le_of_ble_eq_true rfl) rfl ?_
    refine r_iload_n (pc := 82) C 0 d_Model_inTime_82 rfl rfl ?_
    refine r_aload_n (pc := 83) C 1 d_Model_inTime_83 rfl rfl ?_
    refine g_Model_dueOf (pc := 84) C k_id176 Lf_Model_102 d_Model_inTime_84 ?_
    refine r_iload (pc := 87) C 3 d_Model_inTime_87 rfl ?_
    refine r_iald (pc := 89) C kq_Model_dueOf d_Model_inTime_89 hf (fun hf => ?_)
    refine r_icmp_le (pc := 90) C (tgt := 95) d_Model_inTime_90 (by decide) hf (fun c90 hf => ?_) (fun c90 hf => ?_)
    · refine r_iload_n (pc := 95) C 2 d_Model_inTime_95 rfl rfl ?_
      refine r_iconst (pc := 96) C (v := 1) d_Model_inTime_96 (by decide) ?_
      refine r_iload (pc := 97) C 3 d_Model_inTime_97 rfl ?_
      refine r_ishl (pc := 99) C d_Model_inTime_99 ?_
      refine r_iconst (pc := 100) C (v := (-1)) d_Model_inTime_100 (by decide) ?_
      refine r_ixor (pc := 101) C d_Model_inTime_101 ?_
      refine r_iand (pc := 102) C d_Model_inTime_102 ?_
      refine r_nmi (pc := 103) hf (fun x1 hf => ?_)
      refine r_istore_n (pc := 103) (lv' := [(2, .int x1), (3, .int (v3 + (D 206 v4.toNatClampNeg))), (0, .ref (Γ.2.1 176)), (4, .int v4), (5, .int v5)]) C d_Model_inTime_103 rfl (Nat.le_of_ble_eq_true rfl) rfl ?_
      refine r_goto (pc := 104) C (tgt := 4) d_Model_inTime_104 (by decide) ?_
      exact r_lv (pc := 4) C [2, 0, 1] rfl (hk4 x1 (v3 + (D 206 v4.toNatClampNeg)) D hf)
    · refine r_iconst (pc := 93) C (v := 0) d_Model_inTime_93 (by decide) ?_
      exact r_zret (pc := 94) C d_Model_inTime_94 rfl hf
  · refine r_iload_n (pc := 24) C 1 d_Model_inTime_24 rfl rfl ?_
    refine r_iload (pc := 25) C 4 d_Model_inTime_25 rfl ?_
    refine r_callSi (pc := 27) (As := [.int v2, .int v5]) (rest := []) C ok_Model_has Lm_Model_248 ⟨by decide, by decide⟩ rfl rfl (Nat.le_of_ble_eq_true rfl) d_Model_inTime_27 hf (fun x D1 hc => c_Model_has Γ hc) (fun x2 D3 hf => ?_)
    refine r_if_eq (pc := 30) C (tgt := 62) d_Model_inTime_30 (by decide) hf (fun c30 hf => ?_) (fun c30 hf => ?_)
    · exact r_lv (pc := 62) C [0, 1, 2, 3, 4] rfl (tb_Model_inTime_62 C hk4 hk15 hf)
    · refine r_iload (pc := 33) C 3 d_Model_inTime_33 rfl ?_
      refine r_bipush (pc := 35) C (v := (-9)) d_Model_inTime_35 (by decide) ?_
      refine r_icmp_eq (pc := 37) C (tgt := 57) d_Model_inTime_37 (by decide) hf (fun c37 hf => ?_) (fun c37 hf => ?_)
      · exact r_lv (pc := 57) C [0, 1, 2, 4] rfl (tb_Model_inTime_57 C hk4 hk15 hf)
      · refine r_aload_n (pc := 40) C 0 d_Model_inTime_40 rfl rfl ?_
        refine g_Model_dueOf (pc := 41) C k_id176 Lf_Model_102 d_Model_inTime_41 ?_
        refine r_iload (pc := 44) C 4 d_Model_inTime_44 rfl ?_
        refine r_iald (pc := 46) C kq_Model_dueOf d_Model_inTime_46 hf (fun hf => ?_)
        refine r_aload_n (pc := 47) C 0 d_Model_inTime_47 rfl rfl ?_
        refine g_Model_dueOf (pc := 48) C k_id176 Lf_Model_102 d_Model_inTime_48 ?_
        refine r_iload (pc := 51) C 3 d_Model_inTime_51 rfl ?_
        refine r_iald (pc := 53) C kq_Model_dueOf d_Model_inTime_53 hf (fun hf => ?_)
        refine r_icmp_ge (pc := 54) C (tgt := 62) d_Model_inTime_54 (by decide) hf (fun c54 hf => ?_) (fun c54 hf => ?_)
        · exact r_lv (pc := 62) C [0, 1, 2, 3, 4] rfl (tb_Model_inTime_62 C hk4 hk15 hf)
        · exact r_lv (pc := 57) C [0, 1, 2, 4] rfl (tb_Model_inTime_57 C hk4 hk15 hf)
theorem tl_Model_inTime_15 {Γ : GmT} {G : Dt → Nat → List (Nat × Value) → List Value → Prop} {rr : Int32} {DD : Dt} (C : Cx Γ "RiverTuesdaysModel" b_Model_inTime 6 2 (some .boolean) (some (.int rr)) DD G) {k4 : Int32 → Int32 → Dt → Option (Int32 × Dt)} (hk4 : ∀ (v2 : Int32) (v3 : Int32) (D : Dt), k4 v2 v3 D = some (rr, DD) → G D 4 [(0, .ref (Γ.2.1 176)), (2, .int v2), (3, .int v3)] []) : ∀ (n : Nat) (v2 : Int32) (v3 : Int32) (v4 : Int32) (v5 : Int32) (D : Dt), lp_Model_inTime_15 k4 n v2 v3 v4 v5 D = some (rr, DD) → G D 15 [(0, .ref (Γ.2.1 176)), (2, .int v2), (3, .int v3), (4, .int v4), (5, .int v5)] [] := by
  intro n
  induction n with
  | zero =>
    intro v2 v3 v4 v5 D hf
    exact absurd (show (none : Option (Int32 × Dt)) = some (rr, DD) from hf) (by simp)
  | succ n ih =>
    intro v2 v3 v4 v5 D hf
    exact ts_Model_inTime_15 C hk4 (k15 := lp_Model_inTime_15 k4 n) ih hf
def s_Model_inTime_4 (k4 : Int32 → Int32 → Dt → Option (Int32 × Dt)) (v2 : Int32) (v3 : Int32) (D : Dt) : Option (Int32 × Dt) :=
  (if v2 = 0 then some (1, D) else lp_Model_inTime_15 k4 FU v2 v3 (-9) 0 D)
def lp_Model_inTime_4 (n : Nat) : Int32 → Int32 → Dt → Option (Int32 × Dt) := itr (fun _ _ _ => none) (s_Model_inTime_4) n
set_option maxHeartbeats 4000000 in
theorem ts_Model_inTime_4 {Γ : GmT} {G : Dt → Nat → List (Nat × Value) → List Value → Prop} {rr : Int32} {DD : Dt} (C : Cx Γ "RiverTuesdaysModel" b_Model_inTime 6 2 (some .boolean) (some (.int rr)) DD G) {k4 : Int32 → Int32 → Dt → Option (Int32 × Dt)} (hk4 : ∀ (v2 : Int32) (v3 : Int32) (D : Dt), k4 v2 v3 D = some (rr, DD) → G D 4 [(0, .ref (Γ.2.1 176)), (2, .int v2), (3, .int v3)] []) {v2 : Int32} {v3 : Int32} {D : Dt} (hf : s_Model_inTime_4 k4 v2 v3 D = some (rr, DD)) : G D 4 [(0, .ref (Γ.2.1 176)), (2, .int v2), (3, .int v3)] [] := by
  unfold s_Model_inTime_4 at hf
  refine r_iload_n (pc := 4) C 1 d_Model_inTime_4 rfl rfl ?_
  refine r_if_eq (pc := 5) C (tgt := 107) d_Model_inTime_5 (by decide) hf (fun c5 hf => ?_) (fun c5 hf => ?_)
  · refine r_iconst (pc := 107) C (v := 1) d_Model_inTime_107 (by decide) ?_
    exact r_zret (pc := 108) C d_Model_inTime_108 rfl hf
  · refine r_bipush (pc := 8) C (v := (-9)) d_Model_inTime_8 (by decide) ?_
    refine r_istore (pc := 10) (lv' := [(4, .int ((-9))), (0, .ref (Γ.2.1 176)), (2, .int v2), (3, .int v3)]) C d_Model_inTime_10 (Nat.le_of_ble_eq_true rfl) rfl ?_
    refine r_iconst (pc := 12) C (v := 0) d_Model_inTime_12 (by decide) ?_
    refine r_istore (pc := 13) (lv' := [(5, .int 0), (4, .int ((-9))), (0, .ref (Γ.2.1 176)), (2, .int v2), (3, .int v3)]) C d_Model_inTime_13 (Nat.le_of_ble_eq_true rfl) rfl ?_
    exact r_lv (pc := 15) C [2, 3, 4, 1, 0] rfl (tl_Model_inTime_15 C hk4 FU v2 v3 (-9) 0 D hf)
theorem tl_Model_inTime_4 {Γ : GmT} {G : Dt → Nat → List (Nat × Value) → List Value → Prop} {rr : Int32} {DD : Dt} (C : Cx Γ "RiverTuesdaysModel" b_Model_inTime 6 2 (some .boolean) (some (.int rr)) DD G) : ∀ (n : Nat) (v2 : Int32) (v3 : Int32) (D : Dt), lp_Model_inTime_4 n v2 v3 D = some (rr, DD) → G D 4 [(0, .ref (Γ.2.1 176)), (2, .int v2), (3, .int v3)] [] := by
  intro n
  induction n with
  | zero =>
    intro v2 v3 D hf
    exact absurd (show (none : Option (Int32 × Dt)) = some (rr, DD) from hf) (by simp)
  | succ n ih =>
    intro v2 v3 D hf
    exact ts_Model_inTime_4 C (k4 := lp_Model_inTime_4 n) ih hf
def f_Model_inTime (v1 : Int32) (D : Dt) : Option (Int32 × Dt) :=
  lp_Model_inTime_4 FU v1 0 D
set_option maxHeartbeats 4000000 in
theorem te_Model_inTime {Γ : GmT} {G : Dt → Nat → List (Nat × Value) → List Value → Prop} {rr : Int32} {DD : Dt} (C : Cx Γ "RiverTuesdaysModel" b_Model_inTime 6 2 (some .boolean) (some (.int rr)) DD G) {v1 : Int32} {D : Dt} (hf : f_Model_inTime v1 D = some (rr, DD)) : G D 0 [(0, .ref (Γ.2.1 176)), (1, .int v1)] [] := by
  unfold f_Model_inTime at hf
  refine r_iload_n (pc := 0) C 1 d_Model_inTime_0 rfl rfl ?_
  refine r_istore_n (pc := 1) (lv' := [(2, .int v1), (0, .ref (Γ.2.1 176)), (1, .int v1)]) C d_Model_inTime_1 rfl (Nat.le_of_ble_eq_true rfl) rfl ?_
  refine r_iconst (pc := 2) C (v := 0) d_Model_inTime_2 (by decide) ?_
  refine r_istore_n (pc := 3) (lv' := [(3, .int 0), (2, .int v1), (0, .ref (Γ.2.1 176)), (1, .int v1)]) C d_Model_inTime_3 rfl (Nat.le_of_ble_eq_true rfl) rfl ?_
  exact r_lv (pc := 4) C [2, 1, 0] rfl (tl_Model_inTime_4 C FU v1 0 D hf)
theorem c_Model_inTime (Γ : GmT) {v1 : Int32} {D : Dt} {rr : Int32} {DD : Dt} (hf : f_Model_inTime v1 D = some (rr, DD)) : Mt Γ y_Model_inTime b_Model_inTime 6 (some .boolean) 2 [.ref (Γ.2.1 176), .int v1] D (some (.int rr)) DD := Mt_of (by decide) (Nat.le_of_ble_eq_true rfl) (fun G C => te_Model_inTime C hf)
def b_Model_done_75 (k35 : Int32 → Int32 → Dt → Option (Int32 × Dt)) (v5 : Int32) (s0 : Int32) (D : Dt) : Option (Int32 × Dt) :=
  k35 s0 (v5 + 1) D
set_option maxHeartbeats 4000000 in
theorem tb_Model_done_75 {Γ : GmT} {G : Dt → Nat → List (Nat × Value) → List Value → Prop} {rr : Int32} {DD : Dt} (C : Cx Γ "RiverTuesdaysModel" b_Model_done 6 3 (some .int) (some (.int rr)) DD G) {k35 : Int32 → Int32 → Dt → Option (Int32 × Dt)} (hk35 : ∀ (v4 : Int32) (v5 : Int32) (D : Dt), k35 v4 v5 D = some (rr, DD) → G D 35 [(0, .ref (Γ.2.1 176)), (4, .int v4), (5, .int v5)] []) {v5 : Int32} {s0 : Int32} {D : Dt} (hf : b_Model_done_75 k35 v5 s0 D = some (rr, DD)) : G D 75 [(0, .ref (Γ.2.1 176)), (5, .int v5)] [.int s0] := by
  unfold b_Model_done_75 at hf
  refine r_istore (pc := 75) (lv' := [(4, .int s0), (0, .ref (Γ.2.1 176)), (5, .int v5)]) C d_Model_done_75 (Nat.le_of_ble_eq_true rfl) rfl ?_
  refine r_iinc (pc := 77) C (v := v5 + 1) (lv' := [(5, .int (v5 + 1)), (4, .int s0), (0, .ref (Γ.2.1 176))]) 2 d_Model_done_77 rfl rfl (Nat.le_of_ble_eq_true rfl) rfl ?_
  refine r_goto (pc := 80) C (tgt := 35) d_Model_done_80 (by decide) ?_
  exact r_lv (pc := 35) C [2, 1, 0] rfl (hk35 s0 (v5 + 1) D hf)
def b_Model_done_73 (k35 : Int32 → Int32 → Dt → Option (Int32 × Dt)) (v4 : Int32) (v5 : Int32) (D : Dt) : Option (Int32 × Dt) :=
  b_Model_done_75 k35 v5 v4 D
set_option maxHeartbeats 4000000 in
theorem tb_Model_done_73 {Γ : GmT} {G : Dt → Nat → List (Nat × Value) → List Value → Prop} {rr : Int32} {DD : Dt} (C : Cx Γ "RiverTuesdaysModel" b_Model_done 6 3 (some .int) (some (.int rr)) DD G) {k35 : Int32 → Int32 → Dt → Option (Int32 × Dt)} (hk35 : ∀ (v4 : Int32) (v5 : Int32) (D : Dt), k35 v4 v5 D = some (rr, DD) → G D 35 [(0, .ref (Γ.2.1 176)), (4, .int v4), (5, .int v5)] []) {v4 : Int32} {v5 : Int32} {D : Dt} (hf : b_Model_done_73 k35 v4 v5 D = some (rr, DD)) : G D 73 [(0, .ref (Γ.2.1 176)), (4, .int v4), (5, .int v5)] [] := by
  unfold b_Model_done_73 at hf
  refine r_iload (pc := 73) C 1 d_Model_done_73 rfl ?_
  exact r_lv (pc := 75) C [0, 2] rfl (tb_Model_done_75 C hk35 hf)
def s_Model_done_35 (k35 : Int32 → Int32 → Dt → Option (Int32 × Dt)) (v4 : Int32) (v5 : Int32) (D : Dt) : Option (Int32 × Dt) :=
  (if (1 <<< ((D 176 50) &&& 31)) ≤ v5 then bnd (f_Model_bits v4 D) (fun x7 D8 => bnd (f_Model_tells v4 x7 D8) (fun x9 D10 => some (x9, D10))) else bnd (f_Model_bits v5 D) (fun x11 D12 => bnd (f_Model_bits v4 D12) (fun x13 D14 => (if x11 ≤ x13 then b_Model_done_73 k35 v4 v5 D14 else bnd (f_Model_inTime v5 D14) (fun x15 D16 => (if x15 = 0 then b_Model_done_73 k35 v4 v5 D16 else b_Model_done_75 k35 v5 v5 D16))))))
def lp_Model_done_35 (n : Nat) : Int32 → Int32 → Dt → Option (Int32 × Dt) := itr (fun _ _ _ => none) (s_Model_done_35) n
set_option maxHeartbeats 4000000 in
theorem ts_Model_done_35 {Γ : GmT} {G : Dt → Nat → List (Nat × Value) → List Value → Prop} {rr : Int32} {DD : Dt} (C : Cx Γ "RiverTuesdaysModel" b_Model_done 6 3 (some .int) (some (.int rr)) DD G) {k35 : Int32 → Int32 → Dt → Option (Int32 × Dt)} (hk35 : ∀ (v4 : Int32) (v5 : Int32) (D : Dt), k35 v4 v5 D = some (rr, DD) → G D 35 [(0, .ref (Γ.2.1 176)), (4, .int v4), (5, .int v5)] []) {v4 : Int32} {v5 : Int32} {D : Dt} (hf : s_Model_done_35 k35 v4 v5 D = some (rr, DD)) : G D 35 [(0, .ref (Γ.2.1 176)), (4, .int v4), (5, .int v5)] [] := by
  unfold s_Model_done_35 at hf
  refine r_iload (pc := 35) C 2 d_Model_done_35 rfl ?_
  refine r_iconst (pc := 37) C (v := 1) d_Model_done_37 (by decide) ?_
  refine r_aload_n (pc := 38) C 0 d_Model_done_38 rfl rfl ?_
  refine g_Model_jobMany (pc := 39) C k_id176 Lf_Model_315 d_Model_done_39 ?_
  refine r_ishl (pc := 42) C d_Model_done_42 ?_
  refine r_icmp_ge (pc := 43) C (tgt := 83) d_Model_done_43 (by decide) hf (fun c43 hf => ?_) (fun c43 hf => ?_)
  · refine r_aload_n (pc := 83) C 0 d_Model_done_83 rfl rfl ?_
    refine r_iload (pc := 84) C 1 d_Model_done_84 rfl ?_
    refine r_iload (pc := 86) C 1 d_Model_done_86 rfl ?_
    refine r_callSi (pc := 88) (As := [.int v4]) (rest := [.int v4, .ref (Γ.2.1 176)]) C ok_Model_bits Lm_Model_285 ⟨by decide, by decide⟩ rfl rfl (Nat.le_of_ble_eq_true rfl) d_Model_done_88 hf (fun x D1 hc => c_Model_bits Γ hc) (fun x7 D8 hf => ?_)
    refine r_callVi (pc := 91) (As := [.int v4, .int x7]) (rest := []) C ok_Model_tells Lm_Model_137 k_id176 (by decide) ⟨by decide, by decide⟩ rfl rfl (Nat.le_of_ble_eq_true rfl) d_Model_done_91 hf (fun x D1 hc => c_Model_tells Γ hc) (fun x9 D10 hf => ?_)
    exact r_iret (pc := 94) C d_Model_done_94 hf
  · refine r_iload (pc := 46) C 2 d_Model_done_46 rfl ?_
    refine r_callSi (pc := 48) (As := [.int v5]) (rest := []) C ok_Model_bits Lm_Model_285 ⟨by decide, by decide⟩ rfl rfl (Nat.le_of_ble_eq_true rfl) d_Model_done_48 hf (fun x D1 hc => c_Model_bits Γ hc) (fun x11 D12 hf => ?_)
    refine r_iload (pc := 51) C 1 d_Model_done_51 rfl ?_
    refine r_callSi (pc := 53) (As := [.int v4]) (rest := [.int x11]) C ok_Model_bits Lm_Model_285 ⟨by decide, by decide⟩ rfl rfl (Nat.le_of_ble_eq_true rfl) d_Model_done_53 hf (fun x D1 hc => c_Model_bits Γ hc) (fun x13 D14 hf => ?_)
    refine r_icmp_le (pc := 56) C (tgt := 73) d_Model_done_56 (by decide) hf (fun c56 hf => ?_) (fun c56 hf => ?_)
    · exact r_lv (pc := 73) C [0, 1, 2] rfl (tb_Model_done_73 C hk35 hf)
    · refine r_aload_n (pc := 59) C 0 d_Model_done_59 rfl rfl ?_
      refine r_iload (pc := 60) C 2 d_Model_done_60 rfl ?_
      refine r_callVi (pc := 62) (As := [.int v5]) (rest := []) C ok_Model_inTime Lm_Model_329 k_id176 (by decide) ⟨by decide, by decide⟩ rfl rfl (Nat.le_of_ble_eq_true rfl) d_Model_done_62 hf (fun x D1 hc => c_Model_inTime Γ hc) (fun x15 D16 hf => ?_)
      refine r_if_eq (pc := 65) C (tgt := 73) d_Model_done_65 (by decide) hf (fun c65 hf => ?_) (fun c65 hf => ?_)
      · exact r_lv (pc := 73) C [0, 1, 2] rfl (tb_Model_done_73 C hk35 hf)
      · refine r_iload (pc := 68) C 2 d_Model_done_68 rfl ?_
        refine r_goto (pc := 70) C (tgt := 75) d_Model_done_70 (by decide) ?_
        exact r_lv (pc := 75) C [0, 2] rfl (tb_Model_done_75 C hk35 hf)
theorem tl_Model_done_35 {Γ : GmT} {G : Dt → Nat → List (Nat × Value) → List Value → Prop} {rr : Int32} {DD : Dt} (C : Cx Γ "RiverTuesdaysModel" b_Model_done 6 3 (some .int) (some (.int rr)) DD G) : ∀ (n : Nat) (v4 : Int32) (v5 : Int32) (D : Dt), lp_Model_done_35 n v4 v5 D = some (rr, DD) → G D 35 [(0, .ref (Γ.2.1 176)), (4, .int v4), (5, .int v5)] [] := by
  intro n
  induction n with
  | zero =>
    intro v4 v5 D hf
    exact absurd (show (none : Option (Int32 × Dt)) = some (rr, DD) from hf) (by simp)
  | succ n ih =>
    intro v4 v5 D hf
    exact ts_Model_done_35 C (k35 := lp_Model_done_35 n) ih hf
def f_Model_done (v1 : Int32) (v2 : Int32) (D : Dt) : Option (Int32 × Dt) :=
  bnd (f_Model_isRow v1 D) (fun x1 D2 => (if x1 = 0 then some ((-1), D2) else bnd (f_Model_isRow v2 D2) (fun x3 D4 => (if x3 = 0 then some ((-1), D4) else bnd (f_Model_needJobs v1 v2 D4) (fun x5 D6 => (if 0 ≤ x5 then lp_Model_done_35 FU 0 1 D6 else some (x5, D6)))))))
set_option maxHeartbeats 4000000 in
theorem te_Model_done {Γ : GmT} {G : Dt → Nat → List (Nat × Value) → List Value → Prop} {rr : Int32} {DD : Dt} (C : Cx Γ "RiverTuesdaysModel" b_Model_done 6 3 (some .int) (some (.int rr)) DD G) {v1 : Int32} {v2 : Int32} {D : Dt} (hf : f_Model_done v1 v2 D = some (rr, DD)) : G D 0 [(0, .ref (Γ.2.1 176)), (1, .int v1), (2, .int v2)] [] := by
  unfold f_Model_done at hf
  refine r_iload_n (pc := 0) C 1 d_Model_done_0 rfl rfl ?_
  refine r_callSi (pc := 1) (As := [.int v1]) (rest := []) C ok_Model_isRow Lm_Model_125 ⟨by decide, by decide⟩ rfl rfl (Nat.le_of_ble_eq_true rfl) d_Model_done_1 hf (fun x D1 hc => c_Model_isRow Γ hc) (fun x1 D2 hf => ?_)
  refine r_if_eq (pc := 4) C (tgt := 14) d_Model_done_4 (by decide) hf (fun c4 hf => ?_) (fun c4 hf => ?_)
  · refine r_iconst (pc := 14) C (v := (-1)) d_Model_done_14 (by decide) ?_
    exact r_iret (pc := 15) C d_Model_done_15 hf
  · refine r_iload_n (pc := 7) C 2 d_Model_done_7 rfl rfl ?_
    refine r_callSi (pc := 8) (As := [.int v2]) (rest := []) C ok_Model_isRow Lm_Model_125 ⟨by decide, by decide⟩ rfl rfl (Nat.le_of_ble_eq_true rfl) d_Model_done_8 hf (fun x D1 hc => c_Model_isRow Γ hc) (fun x3 D4 hf => ?_)
    refine r_if_ne (pc := 11) C (tgt := 16) d_Model_done_11 (by decide) hf (fun c11 hf => ?_) (fun c11 hf => ?_)
    · refine r_aload_n (pc := 16) C 0 d_Model_done_16 rfl rfl ?_
      refine r_iload_n (pc := 17) C 1 d_Model_done_17 rfl rfl ?_
      refine r_iload_n (pc := 18) C 2 d_Model_done_18 rfl rfl ?_
      refine r_callVi (pc := 19) (As := [.int v1, .int v2]) (rest := []) C ok_Model_needJobs Lm_Model_325 k_id176 (by decide) ⟨by decide, by decide⟩ rfl rfl (Nat.le_of_ble_eq_true rfl) d_Model_done_19 hf (fun x D1 hc => c_Model_needJobs Γ hc) (fun x5 D6 hf => ?_)
      refine r_istore_n (pc := 22) (lv' := [(3, .int x5), (0, .ref (Γ.2.1 176)), (1, .int v1), (2, .int v2)]) C d_Model_done_22 rfl (Nat.le_of_ble_eq_true rfl) rfl ?_
      refine r_iload_n (pc := 23) C 0 d_Model_done_23 rfl rfl ?_
      refine r_if_ge (pc := 24) C (tgt := 29) d_Model_done_24 (by decide) hf (fun c24 hf => ?_) (fun c24 hf => ?_)
      · refine r_iconst (pc := 29) C (v := 0) d_Model_done_29 (by decide) ?_
        refine r_istore (pc := 30) (lv' := [(4, .int 0), (3, .int x5), (0, .ref (Γ.2.1 176)), (1, .int v1), (2, .int v2)]) C d_Model_done_30 (Nat.le_of_ble_eq_true rfl) rfl ?_
        refine r_iconst (pc := 32) C (v := 1) d_Model_done_32 (by decide) ?_
        refine r_istore (pc := 33) (lv' := [(5, .int 1), (4, .int 0), (3, .int x5), (0, .ref (Γ.2.1 176)), (1, .int v1), (2, .int v2)]) C d_Model_done_33 (Nat.le_of_ble_eq_true rfl) rfl ?_
        exact r_lv (pc := 35) C [3, 1, 0] rfl (tl_Model_done_35 C FU 0 1 D6 hf)
      · refine r_iload_n (pc := 27) C 0 d_Model_done_27 rfl rfl ?_
        exact r_iret (pc := 28) C d_Model_done_28 hf
    · refine r_iconst (pc := 14) C (v := (-1)) d_Model_done_14 (by decide) ?_
      exact r_iret (pc := 15) C d_Model_done_15 hf
theorem c_Model_done (Γ : GmT) {v1 : Int32} {v2 : Int32} {D : Dt} {rr : Int32} {DD : Dt} (hf : f_Model_done v1 v2 D = some (rr, DD)) : Mt Γ y_Model_done b_Model_done 6 (some .int) 3 [.ref (Γ.2.1 176), .int v1, .int v2] D (some (.int rr)) DD := Mt_of (by decide) (Nat.le_of_ble_eq_true rfl) (fun G C => te_Model_done C hf)
def b_Model_calendar_173 (k126 : Int32 → Int32 → Int32 → Int32 → Int32 → Int32 → Dt → Option (Int32 × Dt)) (v1 : Int32) (v2 : Int32) (v3 : Int32) (v4 : Int32) (v7 : Int32) (s0 : Int32) (D : Dt) : Option (Int32 × Dt) :=
  k126 v1 v2 v3 v4 s0 (v7 + 1) D
set_option maxHeartbeats 4000000 in
theorem tb_Model_calendar_173 {Γ : GmT} {G : Dt → Nat → List (Nat × Value) → List Value → Prop} {rr : Int32} {DD : Dt} (C : Cx Γ "RiverTuesdaysModel" b_Model_calendar 9 3 (some .int) (some (.int rr)) DD G) {k126 : Int32 → Int32 → Int32 → Int32 → Int32 → Int32 → Dt → Option (Int32 × Dt)} (hk126 : ∀ (v1 : Int32) (v2 : Int32) (v3 : Int32) (v4 : Int32) (v6 : Int32) (v7 : Int32) (D : Dt), k126 v1 v2 v3 v4 v6 v7 D = some (rr, DD) → G D 126 [(0, .ref (Γ.2.1 176)), (1, .int v1), (2, .int v2), (3, .int v3), (4, .int v4), (6, .int v6), (7, .int v7)] []) {v1 : Int32} {v2 : Int32} {v3 : Int32} {v4 : Int32} {v7 : Int32} {s0 : Int32} {D : Dt} (hf : b_Model_calendar_173 k126 v1 v2 v3 v4 v7 s0 D = some (rr, DD)) : G D 173 [(0, .ref (Γ.2.1 176)), (1, .int v1), (2, .int v2), (3, .int v3), (4, .int v4), (7, .int v7)] [.int s0] := by
  unfold b_Model_calendar_173 at hf
  refine r_istore (pc := 173) (lv' := [(6, .int s0), (0, .ref (Γ.2.1 176)), (1, .int v1), (2, .int v2), (3, .int v3), (4, .int v4), (7, .int v7)]) C d_Model_calendar_173 (Nat.le_of_ble_eq_true rfl) rfl ?_
  refine r_iinc (pc := 175) C (v := v7 + 1) (lv' := [(7, .int (v7 + 1)), (6, .int s0), (0, .ref (Γ.2.1 176)), (1, .int v1), (2, .int v2), (3, .int v3), (4, .int v4)]) 6 d_Model_calendar_175 rfl rfl (Nat.le_of_ble_eq_true rfl) rfl ?_
  refine r_goto (pc := 178) C (tgt := 126) d_Model_calendar_178 (by decide) ?_
  exact r_lv (pc := 126) C [2, 3, 4, 5, 6, 1, 0] rfl (hk126 v1 v2 v3 v4 s0 (v7 + 1) D hf)
def s_Model_calendar_126 (k126 : Int32 → Int32 → Int32 → Int32 → Int32 → Int32 → Dt → Option (Int32 × Dt)) (v1 : Int32) (v2 : Int32) (v3 : Int32) (v4 : Int32) (v6 : Int32) (v7 : Int32) (D : Dt) : Option (Int32 × Dt) :=
  (if inb v3 6 = true then (if (D 178 v3.toNatClampNeg) ≤ v7 then some (v6, D) else bnd (f_Model_rowAt v3 v7 D) (fun x9 D10 => (if v2 = 0 then none else (if v2 = 0 then none else (if v2 = 0 then none else (if v2 = 0 then none else (if ((((x9 + ((v1 / v2) * v4)) % v2) + v2) % v2) = (v1 % v2) then b_Model_calendar_173 k126 v1 v2 v3 v4 v7 1 D10 else b_Model_calendar_173 k126 v1 v2 v3 v4 v7 v6 D10))))))) else none)
def lp_Model_calendar_126 (n : Nat) : Int32 → Int32 → Int32 → Int32 → Int32 → Int32 → Dt → Option (Int32 × Dt) := itr (fun _ _ _ _ _ _ _ => none) (s_Model_calendar_126) n
set_option maxHeartbeats 4000000 in
theorem ts_Model_calendar_126 {Γ : GmT} {G : Dt → Nat → List (Nat × Value) → List Value → Prop} {rr : Int32} {DD : Dt} (C : Cx Γ "RiverTuesdaysModel" b_Model_calendar 9 3 (some .int) (some (.int rr)) DD G) {k126 : Int32 → Int32 → Int32 → Int32 → Int32 → Int32 → Dt → Option (Int32 × Dt)} (hk126 : ∀ (v1 : Int32) (v2 : Int32) (v3 : Int32) (v4 : Int32) (v6 : Int32) (v7 : Int32) (D : Dt), k126 v1 v2 v3 v4 v6 v7 D = some (rr, DD) → G D 126 [(0, .ref (Γ.2.1 176)), (1, .int v1), (2, .int v2), (3, .int v3), (4, .int v4), (6, .int v6), (7, .int v7)] []) {v1 : Int32} {v2 : Int32} {v3 : Int32} {v4 : Int32} {v6 : Int32} {v7 : Int32} {D : Dt} (hf : s_Model_calendar_126 k126 v1 v2 v3 v4 v6 v7 D = some (rr, DD)) : G D 126 [(0, .ref (Γ.2.1 176)), (1, .int v1), (2, .int v2), (3, .int v3), (4, .int v4), (6, .int v6), (7, .int v7)] [] := by
  unfold s_Model_calendar_126 at hf
  refine r_iload (pc := 126) C 6 d_Model_calendar_126 rfl ?_
  refine r_aload_n (pc := 128) C 0 d_Model_calendar_128 rfl rfl ?_
  refine g_Model_sizes (pc := 129) C k_id176 Lf_Model_13 d_Model_calendar_129 ?_
  refine r_iload_n (pc := 132) C 3 d_Model_calendar_132 rfl rfl ?_
  refine r_iald (pc := 133) C kq_Model_sizes d_Model_calendar_133 hf (fun hf => ?_)
  refine r_icmp_ge (pc := 134) C (tgt := 181) d_Model_calendar_134 (by decide) hf (fun c134 hf => ?_) (fun c134 hf => ?_)
  · refine r_iload (pc := 181) C 5 d_Model_calendar_181 rfl ?_
    exact r_iret (pc := 183) C d_Model_calendar_183 hf
  · refine r_aload_n (pc := 137) C 0 d_Model_calendar_137 rfl rfl ?_
    refine r_iload_n (pc := 138) C 3 d_Model_calendar_138 rfl rfl ?_
    refine r_iload (pc := 139) C 6 d_Model_calendar_139 rfl ?_
    refine r_callVi (pc := 141) (As := [.int v3, .int v7]) (rest := []) C ok_Model_rowAt Lm_Model_133 k_id176 (by decide) ⟨by decide, by decide⟩ rfl rfl (Nat.le_of_ble_eq_true rfl) d_Model_calendar_141 hf (fun x D1 hc => c_Model_rowAt Γ hc) (fun x9 D10 hf => ?_)
    refine r_iload_n (pc := 144) C 1 d_Model_calendar_144 rfl rfl ?_
    refine r_iload_n (pc := 145) C 2 d_Model_calendar_145 rfl rfl ?_
    refine r_idiv (pc := 146) C d_Model_calendar_146 hf (fun hf => ?_)
    refine r_iload (pc := 147) C 4 d_Model_calendar_147 rfl ?_
    refine r_imul (pc := 149) C d_Model_calendar_149 ?_
    refine r_iadd (pc := 150) C d_Model_calendar_150 ?_
    refine r_iload_n (pc := 151) C 2 d_Model_calendar_151 rfl rfl ?_
    refine r_irem (pc := 152) C d_Model_calendar_152 hf (fun hf => ?_)
    refine r_istore (pc := 153) (lv' := [(8, .int ((x9 + ((v1 / v2) * v4)) % v2)), (0, .ref (Γ.2.1 176)), (1, .int v1), (2, .int v2), (3, .int v3), (4, .int v4), (6, .int v6), (7, .int v7)]) C d_Model_calendar_153 (Nat.le_of_ble_eq_true rfl) rfl ?_
    refine r_iload (pc := 155) C 0 d_Model_calendar_155 rfl ?_
    refine r_iload_n (pc := 157) C 3 d_Model_calendar_157 rfl rfl ?_
    refine r_iadd (pc := 158) C d_Model_calendar_158 ?_
    refine r_iload_n (pc := 159) C 3 d_Model_calendar_159 rfl rfl ?_
    refine r_irem (pc := 160) C d_Model_calendar_160 hf (fun hf => ?_)
    refine r_iload_n (pc := 161) C 2 d_Model_calendar_161 rfl rfl ?_
    refine r_iload_n (pc := 162) C 3 d_Model_calendar_162 rfl rfl ?_
    refine r_irem (pc := 163) C d_Model_calendar_163 hf (fun hf => ?_)
    refine r_icmp_ne (pc := 164) C (tgt := 171) d_Model_calendar_164 (by decide) hf (fun c164 hf => ?_) (fun c164 hf => ?_)
    · refine r_iload (pc := 171) C 6 d_Model_calendar_171 rfl ?_
      exact r_lv (pc := 173) C [1, 2, 3, 4, 5, 7] rfl (tb_Model_calendar_173 C hk126 hf)
    · refine r_iconst (pc := 167) C (v := 1) d_Model_calendar_167 (by decide) ?_
      refine r_goto (pc := 168) C (tgt := 173) d_Model_calendar_168 (by decide) ?_
      exact r_lv (pc := 173) C [1, 2, 3, 4, 5, 7] rfl (tb_Model_calendar_173 C hk126 hf)
theorem tl_Model_calendar_126 {Γ : GmT} {G : Dt → Nat → List (Nat × Value) → List Value → Prop} {rr : Int32} {DD : Dt} (C : Cx Γ "RiverTuesdaysModel" b_Model_calendar 9 3 (some .int) (some (.int rr)) DD G) : ∀ (n : Nat) (v1 : Int32) (v2 : Int32) (v3 : Int32) (v4 : Int32) (v6 : Int32) (v7 : Int32) (D : Dt), lp_Model_calendar_126 n v1 v2 v3 v4 v6 v7 D = some (rr, DD) → G D 126 [(0, .ref (Γ.2.1 176)), (1, .int v1), (2, .int v2), (3, .int v3), (4, .int v4), (6, .int v6), (7, .int v7)] [] := by
  intro n
  induction n with
  | zero =>
    intro v1 v2 v3 v4 v6 v7 D hf
    exact absurd (show (none : Option (Int32 × Dt)) = some (rr, DD) from hf) (by simp)
  | succ n ih =>
    intro v1 v2 v3 v4 v6 v7 D hf
    exact ts_Model_calendar_126 C (k126 := lp_Model_calendar_126 n) ih hf
def b_Model_calendar_101 (k63 : Int32 → Int32 → Int32 → Int32 → Int32 → Int32 → Dt → Option (Int32 × Dt)) (v1 : Int32) (v2 : Int32) (v3 : Int32) (v4 : Int32) (v6 : Int32) (s0 : Int32) (D : Dt) : Option (Int32 × Dt) :=
  k63 v1 v2 v3 v4 s0 (v6 + 1) D
set_option maxHeartbeats 4000000 in
theorem tb_Model_calendar_101 {Γ : GmT} {G : Dt → Nat → List (Nat × Value) → List Value → Prop} {rr : Int32} {DD : Dt} (C : Cx Γ "RiverTuesdaysModel" b_Model_calendar 9 3 (some .int) (some (.int rr)) DD G) {k63 : Int32 → Int32 → Int32 → Int32 → Int32 → Int32 → Dt → Option (Int32 × Dt)} (hk63 : ∀ (v1 : Int32) (v2 : Int32) (v3 : Int32) (v4 : Int32) (v5 : Int32) (v6 : Int32) (D : Dt), k63 v1 v2 v3 v4 v5 v6 D = some (rr, DD) → G D 63 [(0, .ref (Γ.2.1 176)), (1, .int v1), (2, .int v2), (3, .int v3), (4, .int v4), (5, .int v5), (6, .int v6)] []) {v1 : Int32} {v2 : Int32} {v3 : Int32} {v4 : Int32} {v6 : Int32} {s0 : Int32} {D : Dt} (hf : b_Model_calendar_101 k63 v1 v2 v3 v4 v6 s0 D = some (rr, DD)) : G D 101 [(0, .ref (Γ.2.1 176)), (1, .int v1), (2, .int v2), (3, .int v3), (4, .int v4), (6, .int v6)] [.int s0] := by
  unfold b_Model_calendar_101 at hf
  refine r_istore (pc := 101) (lv' := [(5, .int s0), (0, .ref (Γ.2.1 176)), (1, .int v1), (2, .int v2), (3, .int v3), (4, .int v4), (6, .int v6)]) C d_Model_calendar_101 (Nat.le_of_ble_eq_true rfl) rfl ?_
  refine r_iinc (pc := 103) C (v := v6 + 1) (lv' := [(6, .int (v6 + 1)), (5, .int s0), (0, .ref (Γ.2.1 176)), (1, .int v1), (2, .int v2), (3, .int v3), (4, .int v4)]) 6 d_Model_calendar_103 rfl rfl (Nat.le_of_ble_eq_true rfl) rfl ?_
  refine r_goto (pc := 106) C (tgt := 63) d_Model_calendar_106 (by decide) ?_
  exact r_lv (pc := 63) C [2, 3, 4, 5, 6, 1, 0] rfl (hk63 v1 v2 v3 v4 s0 (v6 + 1) D hf)
def b_Model_calendar_100 (k63 : Int32 → Int32 → Int32 → Int32 → Int32 → Int32 → Dt → Option (Int32 × Dt)) (v1 : Int32) (v2 : Int32) (v3 : Int32) (v4 : Int32) (v6 : Int32) (D : Dt) : Option (Int32 × Dt) :=
  b_Model_calendar_101 k63 v1 v2 v3 v4 v6 0 D
set_option maxHeartbeats 4000000 in
theorem tb_Model_calendar_100 {Γ : GmT} {G : Dt → Nat → List (Nat × Value) → List Value → Prop} {rr : Int32} {DD : Dt} (C : Cx Γ "RiverTuesdaysModel" b_Model_calendar 9 3 (some .int) (some (.int rr)) DD G) {k63 : Int32 → Int32 → Int32 → Int32 → Int32 → Int32 → Dt → Option (Int32 × Dt)} (hk63 : ∀ (v1 : Int32) (v2 : Int32) (v3 : Int32) (v4 : Int32) (v5 : Int32) (v6 : Int32) (D : Dt), k63 v1 v2 v3 v4 v5 v6 D = some (rr, DD) → G D 63 [(0, .ref (Γ.2.1 176)), (1, .int v1), (2, .int v2), (3, .int v3), (4, .int v4), (5, .int v5), (6, .int v6)] []) {v1 : Int32} {v2 : Int32} {v3 : Int32} {v4 : Int32} {v6 : Int32} {D : Dt} (hf : b_Model_calendar_100 k63 v1 v2 v3 v4 v6 D = some (rr, DD)) : G D 100 [(0, .ref (Γ.2.1 176)), (1, .int v1), (2, .int v2), (3, .int v3), (4, .int v4), (6, .int v6)] [] := by
  unfold b_Model_calendar_100 at hf
  refine r_iconst (pc := 100) C (v := 0) d_Model_calendar_100 (by decide) ?_
  exact r_lv (pc := 101) C [0, 1, 2, 3, 4, 5] rfl (tb_Model_calendar_101 C hk63 hf)
def s_Model_calendar_63 (k63 : Int32 → Int32 → Int32 → Int32 → Int32 → Int32 → Dt → Option (Int32 × Dt)) (v1 : Int32) (v2 : Int32) (v3 : Int32) (v4 : Int32) (v5 : Int32) (v6 : Int32) (D : Dt) : Option (Int32 × Dt) :=
  (if inb v3 6 = true then (if (D 178 v3.toNatClampNeg) ≤ v6 then (if v5 = 0 then bnd (f_Model_meets 3 D) (fun x11 D12 => some (x11, D12)) else lp_Model_calendar_126 FU v1 v2 v3 v4 0 0 D) else (if v5 = 0 then b_Model_calendar_100 k63 v1 v2 v3 v4 v6 D else bnd (f_Model_rowAt v3 v6 D) (fun x13 D14 => bnd (f_Model_in x13 0 (v2 - 1) D14) (fun x15 D16 => (if x15 = 0 then b_Model_calendar_100 k63 v1 v2 v3 v4 v6 D16 else b_Model_calendar_101 k63 v1 v2 v3 v4 v6 1 D16))))) else none)
def lp_Model_calendar_63 (n : Nat) : Int32 → Int32 → Int32 → Int32 → Int32 → Int32 → Dt → Option (Int32 × Dt) := itr (fun _ _ _ _ _ _ _ => none) (s_Model_calendar_63) n
set_option maxHeartbeats 4000000 in
theorem ts_Model_calendar_63 {Γ : GmT} {G : Dt → Nat → List (Nat × Value) → List Value → Prop} {rr : Int32} {DD : Dt} (C : Cx Γ "RiverTuesdaysModel" b_Model_calendar 9 3 (some .int) (some (.int rr)) DD G) {k63 : Int32 → Int32 → Int32 → Int32 → Int32 → Int32 → Dt → Option (Int32 × Dt)} (hk63 : ∀ (v1 : Int32) (v2 : Int32) (v3 : Int32) (v4 : Int32) (v5 : Int32) (v6 : Int32) (D : Dt), k63 v1 v2 v3 v4 v5 v6 D = some (rr, DD) → G D 63 [(0, .ref (Γ.2.1 176)), (1, .int v1), (2, .int v2), (3, .int v3), (4, .int v4), (5, .int v5), (6, .int v6)] []) {v1 : Int32} {v2 : Int32} {v3 : Int32} {v4 : Int32} {v5 : Int32} {v6 : Int32} {D : Dt} (hf : s_Model_calendar_63 k63 v1 v2 v3 v4 v5 v6 D = some (rr, DD)) : G D 63 [(0, .ref (Γ.2.1 176)), (1, .int v1), (2, .int v2), (3, .int v3), (4, .int v4), (5, .int v5), (6, .int v6)] [] := by
  unfold s_Model_calendar_63 at hf
  refine r_iload (pc := 63) C 6 d_Model_calendar_63 rfl ?_
  refine r_aload_n (pc := 65) C 0 d_Model_calendar_65 rfl rfl ?_
  refine g_Model_sizes (pc := 66) C k_id176 Lf_Model_13 d_Model_calendar_66 ?_
  refine r_iload_n (pc := 69) C 3 d_Model_calendar_69 rfl rfl ?_
  refine r_iald (pc := 70) C kq_Model_sizes d_Model_calendar_70 hf (fun hf => ?_)
  refine r_icmp_ge (pc := 71) C (tgt := 109) d_Model_calendar_71 (by decide) hf (fun c71 hf => ?_) (fun c71 hf => ?_)
  · refine r_iload (pc := 109) C 5 d_Model_calendar_109 rfl ?_
    refine r_if_ne (pc := 111) C (tgt := 120) d_Model_calendar_111 (by decide) hf (fun c111 hf => ?_) (fun c111 hf => ?_)
    · refine r_iconst (pc := 120) C (v := 0) d_Model_calendar_120 (by decide) ?_
      refine r_istore (pc := 121) (lv' := [(6, .int 0), (0, .ref (Γ.2.1 176)), (1, .int v1), (2, .int v2), (3, .int v3), (4, .int v4), (5, .int v5)]) C d_Model_calendar_121 (Nat.le_of_ble_eq_true rfl) rfl ?_
      refine r_iconst (pc := 123) C (v := 0) d_Model_calendar_123 (by decide) ?_
      refine r_istore (pc := 124) (lv' := [(7, .int 0), (6, .int 0), (0, .ref (Γ.2.1 176)), (1, .int v1), (2, .int v2), (3, .int v3), (4, .int v4), (5, .int v5)]) C d_Model_calendar_124 (Nat.le_of_ble_eq_true rfl) rfl ?_
      exact r_lv (pc := 126) C [2, 3, 4, 5, 6, 1, 0] rfl (tl_Model_calendar_126 C FU v1 v2 v3 v4 0 0 D hf)
    · refine r_aload_n (pc := 114) C 0 d_Model_calendar_114 rfl rfl ?_
      refine r_iconst (pc := 115) C (v := 3) d_Model_calendar_115 (by decide) ?_
      refine r_callVi (pc := 116) (As := [.int 3]) (rest := []) C ok_Model_meets Lm_Model_129 k_id176 (by decide) ⟨by decide, by decide⟩ rfl rfl (Nat.le_of_ble_eq_true rfl) d_Model_calendar_116 hf (fun x D1 hc => c_Model_meets Γ hc) (fun x11 D12 hf => ?_)
      exact r_iret (pc := 119) C d_Model_calendar_119 hf
  · refine r_iload (pc := 74) C 5 d_Model_calendar_74 rfl ?_
    refine r_if_eq (pc := 76) C (tgt := 100) d_Model_calendar_76 (by decide) hf (fun c76 hf => ?_) (fun c76 hf => ?_)
    · exact r_lv (pc := 100) C [0, 1, 2, 3, 4, 6] rfl (tb_Model_calendar_100 C hk63 hf)
    · refine r_aload_n (pc := 79) C 0 d_Model_calendar_79 rfl rfl ?_
      refine r_iload_n (pc := 80) C 3 d_Model_calendar_80 rfl rfl ?_
      refine r_iload (pc := 81) C 6 d_Model_calendar_81 rfl ?_
      refine r_callVi (pc := 83) (As := [.int v3, .int v6]) (rest := []) C ok_Model_rowAt Lm_Model_133 k_id176 (by decide) ⟨by decide, by decide⟩ rfl rfl (Nat.le_of_ble_eq_true rfl) d_Model_calendar_83 hf (fun x D1 hc => c_Model_rowAt Γ hc) (fun x13 D14 hf => ?_)
      refine r_iconst (pc := 86) C (v := 0) d_Model_calendar_86 (by decide) ?_
      refine r_iload_n (pc := 87) C 2 d_Model_calendar_87 rfl rfl ?_
      refine r_iconst (pc := 88) C (v := 1) d_Model_calendar_88 (by decide) ?_
      refine r_isub (pc := 89) C d_Model_calendar_89 ?_
      refine r_callSi (pc := 90) (As := [.int x13, .int 0, .int (v2 - 1)]) (rest := []) C ok_Model_in Lm_Model_118 ⟨by decide, by decide⟩ rfl rfl (Nat.le_of_ble_eq_true rfl) d_Model_calendar_90 hf (fun x D1 hc => c_Model_in Γ hc) (fun x15 D16 hf => ?_)
      refine r_if_eq (pc := 93) C (tgt := 100) d_Model_calendar_93 (by decide) hf (fun c93 hf => ?_) (fun c93 hf => ?_)
      · exact r_lv (pc := 100) C [0, 1, 2, 3, 4, 6] rfl (tb_Model_calendar_100 C hk63 hf)
      · refine r_iconst (pc := 96) C (v := 1) d_Model_calendar_96 (by decide) ?_
        refine r_goto (pc := 97) C (tgt := 101) d_Model_calendar_97 (by decide) ?_
        exact r_lv (pc := 101) C [0, 1, 2, 3, 4, 6] rfl (tb_Model_calendar_101 C hk63 hf)
theorem tl_Model_calendar_63 {Γ : GmT} {G : Dt → Nat → List (Nat × Value) → List Value → Prop} {rr : Int32} {DD : Dt} (C : Cx Γ "RiverTuesdaysModel" b_Model_calendar 9 3 (some .int) (some (.int rr)) DD G) : ∀ (n : Nat) (v1 : Int32) (v2 : Int32) (v3 : Int32) (v4 : Int32) (v5 : Int32) (v6 : Int32) (D : Dt), lp_Model_calendar_63 n v1 v2 v3 v4 v5 v6 D = some (rr, DD) → G D 63 [(0, .ref (Γ.2.1 176)), (1, .int v1), (2, .int v2), (3, .int v3), (4, .int v4), (5, .int v5), (6, .int v6)] [] := by
  intro n
  induction n with
  | zero =>
    intro v1 v2 v3 v4 v5 v6 D hf
    exact absurd (show (none : Option (Int32 × Dt)) = some (rr, DD) from hf) (by simp)
  | succ n ih =>
    intro v1 v2 v3 v4 v5 v6 D hf
    exact ts_Model_calendar_63 C (k63 := lp_Model_calendar_63 n) ih hf
def f_Model_calendar (v1 : Int32) (v2 : Int32) (v3 : Int32) (v4 : Int32) (D : Dt) : Option (Int32 × Dt) :=
  bnd (f_Model_in v1 0 9999 D) (fun x1 D2 => (if x1 = 0 then some ((-1), D2) else bnd (f_Model_in v2 1 30 D2) (fun x3 D4 => (if x3 = 0 then some ((-1), D4) else bnd (f_Model_isRow v3 D4) (fun x5 D6 => (if x5 = 0 then some ((-1), D6) else bnd (f_Model_in v4 (-9) 9 D6) (fun x7 D8 => (if x7 = 0 then some ((-1), D8) else (if inb v3 6 = true then (if 0 ≤ (D8 178 v3.toNatClampNeg) then lp_Model_calendar_63 FU v1 v2 v3 v4 1 0 D8 else bnd (f_Model_meets 1 D8) (fun x17 D18 => some (x17, D18))) else none)))))))))
set_option maxHeartbeats 4000000 in
theorem te_Model_calendar {Γ : GmT} {G : Dt → Nat → List (Nat × Value) → List Value → Prop} {rr : Int32} {DD : Dt} (C : Cx Γ "RiverTuesdaysModel" b_Model_calendar 9 3 (some .int) (some (.int rr)) DD G) {v1 : Int32} {v2 : Int32} {v3 : Int32} {v4 : Int32} {D : Dt} (hf : f_Model_calendar v1 v2 v3 v4 D = some (rr, DD)) : G D 0 [(0, .ref (Γ.2.1 176)), (1, .int v1), (2, .int v2), (3, .int v3), (4, .int v4)] [] := by
  unfold f_Model_calendar at hf
  refine r_iload_n (pc := 0) C 1 d_Model_calendar_0 rfl rfl ?_
  refine r_iconst (pc := 1) C (v := 0) d_Model_calendar_1 (by decide) ?_
  refine r_sipush (pc := 2) C (v := 9999) d_Model_calendar_2 (by decide) ?_
  refine r_callSi (pc := 5) (As := [.int v1, .int 0, .int 9999]) (rest := []) C ok_Model_in Lm_Model_118 ⟨by decide, by decide⟩ rfl rfl (Nat.le_of_ble_eq_true rfl) d_Model_calendar_5 hf (fun x D1 hc => c_Model_in Γ hc) (fun x1 D2 hf => ?_)
  refine r_if_eq (pc := 8) C (tgt := 40) d_Model_calendar_8 (by decide) hf (fun c8 hf => ?_) (fun c8 hf => ?_)
  · refine r_iconst (pc := 40) C (v := (-1)) d_Model_calendar_40 (by decide) ?_
    exact r_iret (pc := 41) C d_Model_calendar_41 hf
  · refine r_iload_n (pc := 11) C 2 d_Model_calendar_11 rfl rfl ?_
    refine r_iconst (pc := 12) C (v := 1) d_Model_calendar_12 (by decide) ?_
    refine r_bipush (pc := 13) C (v := 30) d_Model_calendar_13 (by decide) ?_
    refine r_callSi (pc := 15) (As := [.int v2, .int 1, .int 30]) (rest := []) C ok_Model_in Lm_Model_118 ⟨by decide, by decide⟩ rfl rfl (Nat.le_of_ble_eq_true rfl) d_Model_calendar_15 hf (fun x D1 hc => c_Model_in Γ hc) (fun x3 D4 hf => ?_)
    refine r_if_eq (pc := 18) C (tgt := 40) d_Model_calendar_18 (by decide) hf (fun c18 hf => ?_) (fun c18 hf => ?_)
    · refine r_iconst (pc := 40) C (v := (-1)) d_Model_calendar_40 (by decide) ?_
      exact r_iret (pc := 41) C d_Model_calendar_41 hf
    · refine r_iload_n (pc := 21) C 3 d_Model_calendar_21 rfl rfl ?_
      refine r_callSi (pc := 22) (As := [.int v3]) (rest := []) C ok_Model_isRow Lm_Model_125 ⟨by decide, by decide⟩ rfl rfl (Nat.le_of_ble_eq_true rfl) d_Model_calendar_22 hf (fun x D1 hc => c_Model_isRow Γ hc) (fun x5 D6 hf => ?_)
      refine r_if_eq (pc := 25) C (tgt := 40) d_Model_calendar_25 (by decide) hf (fun c25 hf => ?_) (fun c25 hf => ?_)
      · refine r_iconst (pc := 40) C (v := (-1)) d_Model_calendar_40 (by decide) ?_
        exact r_iret (pc := 41) C d_Model_calendar_41 hf
      · refine r_iload (pc := 28) C 4 d_Model_calendar_28 rfl ?_
        refine r_bipush (pc := 30) C (v := (-9)) d_Model_calendar_30 (by decide) ?_
        refine r_bipush (pc := 32) C (v := 9) d_Model_calendar_32 (by decide) ?_
        refine r_callSi (pc := 34) (As := [.int v4, .int ((-9)), .int 9]) (rest := []) C ok_Model_in Lm_Model_118 ⟨by decide, by decide⟩ rfl rfl (Nat.le_of_ble_eq_true rfl) d_Model_calendar_34 hf (fun x D1 hc => c_Model_in Γ hc) (fun x7 D8 hf => ?_)
        refine r_if_ne (pc := 37) C (tgt := 42) d_Model_calendar_37 (by decide) hf (fun c37 hf => ?_) (fun c37 hf => ?_)
        · refine r_aload_n (pc := 42) C 0 d_Model_calendar_42 rfl rfl ?_
          refine g_Model_sizes (pc := 43) C k_id176 Lf_Model_13 d_Model_calendar_43 ?_
          refine r_iload_n (pc := 46) C 3 d_Model_calendar_46 rfl rfl ?_
          refine r_iald (pc := 47) C kq_Model_sizes d_Model_calendar_47 hf (fun hf => ?_)
          refine r_if_ge (pc := 48) C (tgt := 57) d_Model_calendar_48 (by decide) hf (fun c48 hf => ?_) (fun c48 hf => ?_)
          · refine r_iconst (pc := 57) C (v := 1) d_Model_calendar_57 (by decide) ?_
            refine r_istore (pc := 58) (lv' := [(5, .int 1), (0, .ref (Γ.2.1 176)), (1, .int v1), (2, .int v2), (3, .int v3), (4, .int v4)]) C d_Model_calendar_58 (Nat.le_of_ble_eq_true rfl) rfl ?_
            refine r_iconst (pc := 60) C (v := 0) d_Model_calendar_60 (by decide) ?_
            refine r_istore (pc := 61) (lv' := [(6, .int 0), (5, .int 1), (0, .ref (Γ.2.1 176)), (1, .int v1), (2, .int v2), (3, .int v3), (4, .int v4)]) C d_Model_calendar_61 (Nat.le_of_ble_eq_true rfl) rfl ?_
            exact r_lv (pc := 63) C [2, 3, 4, 5, 6, 1, 0] rfl (tl_Model_calendar_63 C FU v1 v2 v3 v4 1 0 D8 hf)
          · refine r_aload_n (pc := 51) C 0 d_Model_calendar_51 rfl rfl ?_
            refine r_iconst (pc := 52) C (v := 1) d_Model_calendar_52 (by decide) ?_
            refine r_callVi (pc := 53) (As := [.int 1]) (rest := []) C ok_Model_meets Lm_Model_129 k_id176 (by decide) ⟨by decide, by decide⟩ rfl rfl (Nat.le_of_ble_eq_true rfl) d_Model_calendar_53 hf (fun x D1 hc => c_Model_meets Γ hc) (fun x17 D18 hf => ?_)
            exact r_iret (pc := 56) C d_Model_calendar_56 hf
        · refine r_iconst (pc := 40) C (v := (-1)) d_Model_calendar_40 (by decide) ?_
          exact r_iret (pc := 41) C d_Model_calendar_41 hf
theorem c_Model_calendar (Γ : GmT) {v1 : Int32} {v2 : Int32} {v3 : Int32} {v4 : Int32} {D : Dt} {rr : Int32} {DD : Dt} (hf : f_Model_calendar v1 v2 v3 v4 D = some (rr, DD)) : Mt Γ y_Model_calendar b_Model_calendar 9 (some .int) 3 [.ref (Γ.2.1 176), .int v1, .int v2, .int v3, .int v4] D (some (.int rr)) DD := Mt_of (by decide) (Nat.le_of_ble_eq_true rfl) (fun G C => te_Model_calendar C hf)
