/-! 15.model1: printed by wip/whole/gen/gmeth.py out of the bytecode -/
abbrev b_Model_standing : ByteArray := prog_11_method_39_code
abbrev y_Model_standing : MethodName := ⟨"RiverTuesdaysModel", "standing", "(I)I"⟩
theorem ok_Model_standing : okV y_Model_standing b_Model_standing 4 (some .int) 1 9 := ⟨mGW (List.mem_of_getElem? (i := 1396) (by decide +kernel)) rfl, mGW (List.mem_of_getElem? (i := 53) (by decide +kernel)) rfl, mGW (List.mem_of_getElem? (i := 83) (by decide +kernel)) rfl, mGW (List.mem_of_getElem? (i := 1397) (by decide +kernel)) rfl, ⟨by decide, by decide, by decide +kernel⟩, rfl⟩
theorem d_Model_standing_0 : decode b_Model_standing 0 = .ok (.iconst 0, 1) := by decide +kernel
theorem d_Model_standing_1 : decode b_Model_standing 1 = .ok (.istore_n 2, 1) := by decide +kernel
theorem d_Model_standing_2 : decode b_Model_standing 2 = .ok (.iconst 0, 1) := by decide +kernel
theorem d_Model_standing_3 : decode b_Model_standing 3 = .ok (.istore_n 3, 1) := by decide +kernel
theorem d_Model_standing_4 : decode b_Model_standing 4 = .ok (.iload_n 3, 1) := by decide +kernel
theorem d_Model_standing_5 : decode b_Model_standing 5 = .ok (.aload_n 0, 1) := by decide +kernel
theorem d_Model_standing_6 : decode b_Model_standing 6 = .ok (.getfield 176, 3) := by decide +kernel
theorem d_Model_standing_9 : decode b_Model_standing 9 = .ok (.if_icmp .ge 20, 3) := by decide +kernel
theorem d_Model_standing_12 : decode b_Model_standing 12 = .ok (.iload_n 2, 1) := by decide +kernel
theorem d_Model_standing_13 : decode b_Model_standing 13 = .ok (.aload_n 0, 1) := by decide +kernel
theorem d_Model_standing_14 : decode b_Model_standing 14 = .ok (.iload_n 1, 1) := by decide +kernel
theorem d_Model_standing_15 : decode b_Model_standing 15 = .ok (.iconst 0, 1) := by decide +kernel
theorem d_Model_standing_16 : decode b_Model_standing 16 = .ok (.iload_n 3, 1) := by decide +kernel
theorem d_Model_standing_17 : decode b_Model_standing 17 = .ok (.iadd, 1) := by decide +kernel
theorem d_Model_standing_18 : decode b_Model_standing 18 = .ok (.invokevirtual 192, 3) := by decide +kernel
theorem d_Model_standing_21 : decode b_Model_standing 21 = .ok (.iadd, 1) := by decide +kernel
theorem d_Model_standing_22 : decode b_Model_standing 22 = .ok (.istore_n 2, 1) := by decide +kernel
theorem d_Model_standing_23 : decode b_Model_standing 23 = .ok (.iinc 3 1, 3) := by decide +kernel
theorem d_Model_standing_26 : decode b_Model_standing 26 = .ok (.goto (-22), 3) := by decide +kernel
theorem d_Model_standing_29 : decode b_Model_standing 29 = .ok (.iload_n 2, 1) := by decide +kernel
theorem d_Model_standing_30 : decode b_Model_standing 30 = .ok (.ireturn, 1) := by decide +kernel
abbrev b_Model_houseTells : ByteArray := prog_11_method_40_code
abbrev y_Model_houseTells : MethodName := ⟨"RiverTuesdaysModel", "houseTells", "(II)I"⟩
theorem ok_Model_houseTells : okV y_Model_houseTells b_Model_houseTells 3 (some .int) 2 9 := ⟨mGW (List.mem_of_getElem? (i := 1327) (by decide +kernel)) rfl, mGW (List.mem_of_getElem? (i := 44) (by decide +kernel)) rfl, mGW (List.mem_of_getElem? (i := 83) (by decide +kernel)) rfl, mGW (List.mem_of_getElem? (i := 1328) (by decide +kernel)) rfl, ⟨by decide, by decide, by decide +kernel⟩, rfl⟩
theorem d_Model_houseTells_0 : decode b_Model_houseTells 0 = .ok (.iload_n 2, 1) := by decide +kernel
theorem d_Model_houseTells_1 : decode b_Model_houseTells 1 = .ok (.tableswitch 86 0 5 #[39, 46, 53, 60, 67, 76], 39) := by decide +kernel
theorem d_Model_houseTells_40 : decode b_Model_houseTells 40 = .ok (.aload_n 0, 1) := by decide +kernel
theorem d_Model_houseTells_41 : decode b_Model_houseTells 41 = .ok (.getfield 29, 3) := by decide +kernel
theorem d_Model_houseTells_44 : decode b_Model_houseTells 44 = .ok (.iload_n 1, 1) := by decide +kernel
theorem d_Model_houseTells_45 : decode b_Model_houseTells 45 = .ok (.iaload, 1) := by decide +kernel
theorem d_Model_houseTells_46 : decode b_Model_houseTells 46 = .ok (.ireturn, 1) := by decide +kernel
theorem d_Model_houseTells_47 : decode b_Model_houseTells 47 = .ok (.aload_n 0, 1) := by decide +kernel
theorem d_Model_houseTells_48 : decode b_Model_houseTells 48 = .ok (.getfield 32, 3) := by decide +kernel
theorem d_Model_houseTells_51 : decode b_Model_houseTells 51 = .ok (.iload_n 1, 1) := by decide +kernel
theorem d_Model_houseTells_52 : decode b_Model_houseTells 52 = .ok (.iaload, 1) := by decide +kernel
theorem d_Model_houseTells_53 : decode b_Model_houseTells 53 = .ok (.ireturn, 1) := by decide +kernel
theorem d_Model_houseTells_54 : decode b_Model_houseTells 54 = .ok (.aload_n 0, 1) := by decide +kernel
theorem d_Model_houseTells_55 : decode b_Model_houseTells 55 = .ok (.getfield 35, 3) := by decide +kernel
theorem d_Model_houseTells_58 : decode b_Model_houseTells 58 = .ok (.iload_n 1, 1) := by decide +kernel
theorem d_Model_houseTells_59 : decode b_Model_houseTells 59 = .ok (.iaload, 1) := by decide +kernel
theorem d_Model_houseTells_60 : decode b_Model_houseTells 60 = .ok (.ireturn, 1) := by decide +kernel
theorem d_Model_houseTells_61 : decode b_Model_houseTells 61 = .ok (.aload_n 0, 1) := by decide +kernel
theorem d_Model_houseTells_62 : decode b_Model_houseTells 62 = .ok (.getfield 38, 3) := by decide +kernel
theorem d_Model_houseTells_65 : decode b_Model_houseTells 65 = .ok (.iload_n 1, 1) := by decide +kernel
theorem d_Model_houseTells_66 : decode b_Model_houseTells 66 = .ok (.iaload, 1) := by decide +kernel
theorem d_Model_houseTells_67 : decode b_Model_houseTells 67 = .ok (.ireturn, 1) := by decide +kernel
theorem d_Model_houseTells_68 : decode b_Model_houseTells 68 = .ok (.aload_n 0, 1) := by decide +kernel
theorem d_Model_houseTells_69 : decode b_Model_houseTells 69 = .ok (.iconst 0, 1) := by decide +kernel
theorem d_Model_houseTells_70 : decode b_Model_houseTells 70 = .ok (.iconst 0, 1) := by decide +kernel
theorem d_Model_houseTells_71 : decode b_Model_houseTells 71 = .ok (.iload_n 1, 1) := by decide +kernel
theorem d_Model_houseTells_72 : decode b_Model_houseTells 72 = .ok (.iadd, 1) := by decide +kernel
theorem d_Model_houseTells_73 : decode b_Model_houseTells 73 = .ok (.invokevirtual 192, 3) := by decide +kernel
theorem d_Model_houseTells_76 : decode b_Model_houseTells 76 = .ok (.ireturn, 1) := by decide +kernel
theorem d_Model_houseTells_77 : decode b_Model_houseTells 77 = .ok (.aload_n 0, 1) := by decide +kernel
theorem d_Model_houseTells_78 : decode b_Model_houseTells 78 = .ok (.iconst 0, 1) := by decide +kernel
theorem d_Model_houseTells_79 : decode b_Model_houseTells 79 = .ok (.bipush 8, 2) := by decide +kernel
theorem d_Model_houseTells_81 : decode b_Model_houseTells 81 = .ok (.iload_n 1, 1) := by decide +kernel
theorem d_Model_houseTells_82 : decode b_Model_houseTells 82 = .ok (.iadd, 1) := by decide +kernel
theorem d_Model_houseTells_83 : decode b_Model_houseTells 83 = .ok (.invokevirtual 192, 3) := by decide +kernel
theorem d_Model_houseTells_86 : decode b_Model_houseTells 86 = .ok (.ireturn, 1) := by decide +kernel
theorem d_Model_houseTells_87 : decode b_Model_houseTells 87 = .ok (.aload_n 0, 1) := by decide +kernel
theorem d_Model_houseTells_88 : decode b_Model_houseTells 88 = .ok (.iconst 0, 1) := by decide +kernel
theorem d_Model_houseTells_89 : decode b_Model_houseTells 89 = .ok (.bipush 16, 2) := by decide +kernel
theorem d_Model_houseTells_91 : decode b_Model_houseTells 91 = .ok (.iload_n 1, 1) := by decide +kernel
theorem d_Model_houseTells_92 : decode b_Model_houseTells 92 = .ok (.iadd, 1) := by decide +kernel
theorem d_Model_houseTells_93 : decode b_Model_houseTells 93 = .ok (.invokevirtual 192, 3) := by decide +kernel
theorem d_Model_houseTells_96 : decode b_Model_houseTells 96 = .ok (.ireturn, 1) := by decide +kernel
abbrev b_Model_house : ByteArray := prog_11_method_41_code
abbrev y_Model_house : MethodName := ⟨"RiverTuesdaysModel", "house", "(II)I"⟩
theorem ok_Model_house : okV y_Model_house b_Model_house 3 (some .int) 2 9 := ⟨mGW (List.mem_of_getElem? (i := 1318) (by decide +kernel)) rfl, mGW (List.mem_of_getElem? (i := 1319) (by decide +kernel)) rfl, mGW (List.mem_of_getElem? (i := 83) (by decide +kernel)) rfl, mGW (List.mem_of_getElem? (i := 1320) (by decide +kernel)) rfl, ⟨by decide, by decide, by decide +kernel⟩, rfl⟩
theorem d_Model_house_0 : decode b_Model_house 0 = .ok (.aload_n 0, 1) := by decide +kernel
theorem d_Model_house_1 : decode b_Model_house 1 = .ok (.iload_n 1, 1) := by decide +kernel
theorem d_Model_house_2 : decode b_Model_house 2 = .ok (.invokevirtual 216, 3) := by decide +kernel
theorem d_Model_house_5 : decode b_Model_house 5 = .ok (.ifCond .eq 27, 3) := by decide +kernel
theorem d_Model_house_8 : decode b_Model_house 8 = .ok (.iload_n 2, 1) := by decide +kernel
theorem d_Model_house_9 : decode b_Model_house 9 = .ok (.iconst 0, 1) := by decide +kernel
theorem d_Model_house_10 : decode b_Model_house 10 = .ok (.bipush 6, 2) := by decide +kernel
theorem d_Model_house_12 : decode b_Model_house 12 = .ok (.invokestatic 118, 3) := by decide +kernel
theorem d_Model_house_15 : decode b_Model_house 15 = .ok (.ifCond .eq 17, 3) := by decide +kernel
theorem d_Model_house_18 : decode b_Model_house 18 = .ok (.aload_n 0, 1) := by decide +kernel
theorem d_Model_house_19 : decode b_Model_house 19 = .ok (.aload_n 0, 1) := by decide +kernel
theorem d_Model_house_20 : decode b_Model_house 20 = .ok (.iload_n 1, 1) := by decide +kernel
theorem d_Model_house_21 : decode b_Model_house 21 = .ok (.iload_n 2, 1) := by decide +kernel
theorem d_Model_house_22 : decode b_Model_house 22 = .ok (.invokevirtual 219, 3) := by decide +kernel
theorem d_Model_house_25 : decode b_Model_house 25 = .ok (.iconst 1, 1) := by decide +kernel
theorem d_Model_house_26 : decode b_Model_house 26 = .ok (.invokevirtual 137, 3) := by decide +kernel
theorem d_Model_house_29 : decode b_Model_house 29 = .ok (.goto 4, 3) := by decide +kernel
theorem d_Model_house_32 : decode b_Model_house 32 = .ok (.iconst (-1), 1) := by decide +kernel
theorem d_Model_house_33 : decode b_Model_house 33 = .ok (.ireturn, 1) := by decide +kernel
abbrev b_Model_copyStreet : ByteArray := prog_11_method_42_code
abbrev y_Model_copyStreet : MethodName := ⟨"RiverTuesdaysModel", "copyStreet", "()V"⟩
theorem ok_Model_copyStreet : okV y_Model_copyStreet b_Model_copyStreet 2 none 0 9 := ⟨mGW (List.mem_of_getElem? (i := 1343) (by decide +kernel)) rfl, mGW (List.mem_of_getElem? (i := 47) (by decide +kernel)) rfl, mGW (List.mem_of_getElem? (i := 83) (by decide +kernel)) rfl, mGW (List.mem_of_getElem? (i := 1344) (by decide +kernel)) rfl, ⟨by decide, by decide, by decide +kernel⟩, rfl⟩
theorem d_Model_copyStreet_0 : decode b_Model_copyStreet 0 = .ok (.iconst 0, 1) := by decide +kernel
theorem d_Model_copyStreet_1 : decode b_Model_copyStreet 1 = .ok (.istore_n 1, 1) := by decide +kernel
theorem d_Model_copyStreet_2 : decode b_Model_copyStreet 2 = .ok (.iload_n 1, 1) := by decide +kernel
theorem d_Model_copyStreet_3 : decode b_Model_copyStreet 3 = .ok (.bipush 26, 2) := by decide +kernel
theorem d_Model_copyStreet_5 : decode b_Model_copyStreet 5 = .ok (.if_icmp .ge 21, 3) := by decide +kernel
theorem d_Model_copyStreet_8 : decode b_Model_copyStreet 8 = .ok (.aload_n 0, 1) := by decide +kernel
theorem d_Model_copyStreet_9 : decode b_Model_copyStreet 9 = .ok (.iconst 1, 1) := by decide +kernel
theorem d_Model_copyStreet_10 : decode b_Model_copyStreet 10 = .ok (.iload_n 1, 1) := by decide +kernel
theorem d_Model_copyStreet_11 : decode b_Model_copyStreet 11 = .ok (.aload_n 0, 1) := by decide +kernel
theorem d_Model_copyStreet_12 : decode b_Model_copyStreet 12 = .ok (.iconst 0, 1) := by decide +kernel
theorem d_Model_copyStreet_13 : decode b_Model_copyStreet 13 = .ok (.iload_n 1, 1) := by decide +kernel
theorem d_Model_copyStreet_14 : decode b_Model_copyStreet 14 = .ok (.invokevirtual 192, 3) := by decide +kernel
theorem d_Model_copyStreet_17 : decode b_Model_copyStreet 17 = .ok (.invokevirtual 185, 3) := by decide +kernel
theorem d_Model_copyStreet_20 : decode b_Model_copyStreet 20 = .ok (.iinc 1 1, 3) := by decide +kernel
theorem d_Model_copyStreet_23 : decode b_Model_copyStreet 23 = .ok (.goto (-21), 3) := by decide +kernel
theorem d_Model_copyStreet_26 : decode b_Model_copyStreet 26 = .ok (.return_, 1) := by decide +kernel
abbrev b_Model_wouldRun : ByteArray := prog_11_method_43_code
abbrev y_Model_wouldRun : MethodName := ⟨"RiverTuesdaysModel", "wouldRun", "(I)I"⟩
theorem ok_Model_wouldRun : okV y_Model_wouldRun b_Model_wouldRun 2 (some .int) 1 9 := ⟨mGW (List.mem_of_getElem? (i := 1339) (by decide +kernel)) rfl, mGW (List.mem_of_getElem? (i := 46) (by decide +kernel)) rfl, mGW (List.mem_of_getElem? (i := 83) (by decide +kernel)) rfl, mGW (List.mem_of_getElem? (i := 1340) (by decide +kernel)) rfl, ⟨by decide, by decide, by decide +kernel⟩, rfl⟩
theorem d_Model_wouldRun_0 : decode b_Model_wouldRun 0 = .ok (.aload_n 0, 1) := by decide +kernel
theorem d_Model_wouldRun_1 : decode b_Model_wouldRun 1 = .ok (.invokevirtual 222, 3) := by decide +kernel
theorem d_Model_wouldRun_4 : decode b_Model_wouldRun 4 = .ok (.aload_n 0, 1) := by decide +kernel
theorem d_Model_wouldRun_5 : decode b_Model_wouldRun 5 = .ok (.iconst 1, 1) := by decide +kernel
theorem d_Model_wouldRun_6 : decode b_Model_wouldRun 6 = .ok (.iconst 1, 1) := by decide +kernel
theorem d_Model_wouldRun_7 : decode b_Model_wouldRun 7 = .ok (.invokevirtual 225, 3) := by decide +kernel
theorem d_Model_wouldRun_10 : decode b_Model_wouldRun 10 = .ok (.aload_n 0, 1) := by decide +kernel
theorem d_Model_wouldRun_11 : decode b_Model_wouldRun 11 = .ok (.getfield 50, 3) := by decide +kernel
theorem d_Model_wouldRun_14 : decode b_Model_wouldRun 14 = .ok (.iload_n 1, 1) := by decide +kernel
theorem d_Model_wouldRun_15 : decode b_Model_wouldRun 15 = .ok (.iaload, 1) := by decide +kernel
theorem d_Model_wouldRun_16 : decode b_Model_wouldRun 16 = .ok (.ireturn, 1) := by decide +kernel
abbrev b_Model_mark : ByteArray := prog_11_method_44_code
abbrev y_Model_mark : MethodName := ⟨"RiverTuesdaysModel", "mark", "(II)I"⟩
theorem ok_Model_mark : okV y_Model_mark b_Model_mark 4 (some .int) 2 9 := ⟨mGW (List.mem_of_getElem? (i := 1334) (by decide +kernel)) rfl, mGW (List.mem_of_getElem? (i := 1335) (by decide +kernel)) rfl, mGW (List.mem_of_getElem? (i := 83) (by decide +kernel)) rfl, mGW (List.mem_of_getElem? (i := 1336) (by decide +kernel)) rfl, ⟨by decide, by decide, by decide +kernel⟩, rfl⟩
theorem d_Model_mark_0 : decode b_Model_mark 0 = .ok (.aload_n 0, 1) := by decide +kernel
theorem d_Model_mark_1 : decode b_Model_mark 1 = .ok (.iload_n 1, 1) := by decide +kernel
theorem d_Model_mark_2 : decode b_Model_mark 2 = .ok (.invokevirtual 216, 3) := by decide +kernel
theorem d_Model_mark_5 : decode b_Model_mark 5 = .ok (.ifCond .eq 12, 3) := by decide +kernel
theorem d_Model_mark_8 : decode b_Model_mark 8 = .ok (.iload_n 2, 1) := by decide +kernel
theorem d_Model_mark_9 : decode b_Model_mark 9 = .ok (.iconst 1, 1) := by decide +kernel
theorem d_Model_mark_10 : decode b_Model_mark 10 = .ok (.iconst 5, 1) := by decide +kernel
theorem d_Model_mark_11 : decode b_Model_mark 11 = .ok (.invokestatic 118, 3) := by decide +kernel
theorem d_Model_mark_14 : decode b_Model_mark 14 = .ok (.ifCond .ne 5, 3) := by decide +kernel
theorem d_Model_mark_17 : decode b_Model_mark 17 = .ok (.iconst (-1), 1) := by decide +kernel
theorem d_Model_mark_18 : decode b_Model_mark 18 = .ok (.ireturn, 1) := by decide +kernel
theorem d_Model_mark_19 : decode b_Model_mark 19 = .ok (.aload_n 0, 1) := by decide +kernel
theorem d_Model_mark_20 : decode b_Model_mark 20 = .ok (.getfield 29, 3) := by decide +kernel
theorem d_Model_mark_23 : decode b_Model_mark 23 = .ok (.iload_n 1, 1) := by decide +kernel
theorem d_Model_mark_24 : decode b_Model_mark 24 = .ok (.iaload, 1) := by decide +kernel
theorem d_Model_mark_25 : decode b_Model_mark 25 = .ok (.istore_n 3, 1) := by decide +kernel
theorem d_Model_mark_26 : decode b_Model_mark 26 = .ok (.iload_n 3, 1) := by decide +kernel
theorem d_Model_mark_27 : decode b_Model_mark 27 = .ok (.iload_n 2, 1) := by decide +kernel
theorem d_Model_mark_28 : decode b_Model_mark 28 = .ok (.if_icmp .eq 29, 3) := by decide +kernel
theorem d_Model_mark_31 : decode b_Model_mark 31 = .ok (.iload_n 2, 1) := by decide +kernel
theorem d_Model_mark_32 : decode b_Model_mark 32 = .ok (.iconst 1, 1) := by decide +kernel
theorem d_Model_mark_33 : decode b_Model_mark 33 = .ok (.if_icmp .ne 8, 3) := by decide +kernel
theorem d_Model_mark_36 : decode b_Model_mark 36 = .ok (.iload_n 3, 1) := by decide +kernel
theorem d_Model_mark_37 : decode b_Model_mark 37 = .ok (.iconst 4, 1) := by decide +kernel
theorem d_Model_mark_38 : decode b_Model_mark 38 = .ok (.if_icmp .eq 19, 3) := by decide +kernel
theorem d_Model_mark_41 : decode b_Model_mark 41 = .ok (.iload_n 2, 1) := by decide +kernel
theorem d_Model_mark_42 : decode b_Model_mark 42 = .ok (.iconst 3, 1) := by decide +kernel
theorem d_Model_mark_43 : decode b_Model_mark 43 = .ok (.if_icmp .ne 8, 3) := by decide +kernel
theorem d_Model_mark_46 : decode b_Model_mark 46 = .ok (.iload_n 3, 1) := by decide +kernel
theorem d_Model_mark_47 : decode b_Model_mark 47 = .ok (.iconst 5, 1) := by decide +kernel
theorem d_Model_mark_48 : decode b_Model_mark 48 = .ok (.if_icmp .eq 9, 3) := by decide +kernel
theorem d_Model_mark_51 : decode b_Model_mark 51 = .ok (.aload_n 0, 1) := by decide +kernel
theorem d_Model_mark_52 : decode b_Model_mark 52 = .ok (.iconst 3, 1) := by decide +kernel
theorem d_Model_mark_53 : decode b_Model_mark 53 = .ok (.invokevirtual 129, 3) := by decide +kernel
theorem d_Model_mark_56 : decode b_Model_mark 56 = .ok (.ireturn, 1) := by decide +kernel
theorem d_Model_mark_57 : decode b_Model_mark 57 = .ok (.iload_n 2, 1) := by decide +kernel
theorem d_Model_mark_58 : decode b_Model_mark 58 = .ok (.tableswitch 68 1 4 #[30, 36, 53, 60], 30) := by decide +kernel
theorem d_Model_mark_88 : decode b_Model_mark 88 = .ok (.aload_n 0, 1) := by decide +kernel
theorem d_Model_mark_89 : decode b_Model_mark 89 = .ok (.iload_n 1, 1) := by decide +kernel
theorem d_Model_mark_90 : decode b_Model_mark 90 = .ok (.invokevirtual 229, 3) := by decide +kernel
theorem d_Model_mark_93 : decode b_Model_mark 93 = .ok (.ireturn, 1) := by decide +kernel
theorem d_Model_mark_94 : decode b_Model_mark 94 = .ok (.aload_n 0, 1) := by decide +kernel
theorem d_Model_mark_95 : decode b_Model_mark 95 = .ok (.getfield 38, 3) := by decide +kernel
theorem d_Model_mark_98 : decode b_Model_mark 98 = .ok (.iload_n 1, 1) := by decide +kernel
theorem d_Model_mark_99 : decode b_Model_mark 99 = .ok (.iaload, 1) := by decide +kernel
theorem d_Model_mark_100 : decode b_Model_mark 100 = .ok (.aload_n 0, 1) := by decide +kernel
theorem d_Model_mark_101 : decode b_Model_mark 101 = .ok (.iconst 0, 1) := by decide +kernel
theorem d_Model_mark_102 : decode b_Model_mark 102 = .ok (.bipush 8, 2) := by decide +kernel
theorem d_Model_mark_104 : decode b_Model_mark 104 = .ok (.iload_n 1, 1) := by decide +kernel
theorem d_Model_mark_105 : decode b_Model_mark 105 = .ok (.iadd, 1) := by decide +kernel
theorem d_Model_mark_106 : decode b_Model_mark 106 = .ok (.invokevirtual 192, 3) := by decide +kernel
theorem d_Model_mark_109 : decode b_Model_mark 109 = .ok (.isub, 1) := by decide +kernel
theorem d_Model_mark_110 : decode b_Model_mark 110 = .ok (.ireturn, 1) := by decide +kernel
theorem d_Model_mark_111 : decode b_Model_mark 111 = .ok (.aload_n 0, 1) := by decide +kernel
theorem d_Model_mark_112 : decode b_Model_mark 112 = .ok (.iconst 0, 1) := by decide +kernel
theorem d_Model_mark_113 : decode b_Model_mark 113 = .ok (.iload_n 1, 1) := by decide +kernel
theorem d_Model_mark_114 : decode b_Model_mark 114 = .ok (.invokevirtual 195, 3) := by decide +kernel
theorem d_Model_mark_117 : decode b_Model_mark 117 = .ok (.ireturn, 1) := by decide +kernel
theorem d_Model_mark_118 : decode b_Model_mark 118 = .ok (.aload_n 0, 1) := by decide +kernel
theorem d_Model_mark_119 : decode b_Model_mark 119 = .ok (.iload_n 1, 1) := by decide +kernel
theorem d_Model_mark_120 : decode b_Model_mark 120 = .ok (.invokevirtual 229, 3) := by decide +kernel
theorem d_Model_mark_123 : decode b_Model_mark 123 = .ok (.iconst 2, 1) := by decide +kernel
theorem d_Model_mark_124 : decode b_Model_mark 124 = .ok (.idiv, 1) := by decide +kernel
theorem d_Model_mark_125 : decode b_Model_mark 125 = .ok (.ireturn, 1) := by decide +kernel
theorem d_Model_mark_126 : decode b_Model_mark 126 = .ok (.aload_n 0, 1) := by decide +kernel
theorem d_Model_mark_127 : decode b_Model_mark 127 = .ok (.getfield 41, 3) := by decide +kernel
theorem d_Model_mark_130 : decode b_Model_mark 130 = .ok (.iload_n 1, 1) := by decide +kernel
theorem d_Model_mark_131 : decode b_Model_mark 131 = .ok (.iaload, 1) := by decide +kernel
theorem d_Model_mark_132 : decode b_Model_mark 132 = .ok (.ireturn, 1) := by decide +kernel
abbrev b_Model_sill : ByteArray := prog_11_method_45_code
abbrev y_Model_sill : MethodName := ⟨"RiverTuesdaysModel", "sill", "(II)I"⟩
theorem ok_Model_sill : okV y_Model_sill b_Model_sill 4 (some .int) 2 9 := ⟨mGW (List.mem_of_getElem? (i := 1371) (by decide +kernel)) rfl, mGW (List.mem_of_getElem? (i := 1372) (by decide +kernel)) rfl, mGW (List.mem_of_getElem? (i := 83) (by decide +kernel)) rfl, mGW (List.mem_of_getElem? (i := 1373) (by decide +kernel)) rfl, ⟨by decide, by decide, by decide +kernel⟩, rfl⟩
theorem d_Model_sill_0 : decode b_Model_sill 0 = .ok (.aload_n 0, 1) := by decide +kernel
theorem d_Model_sill_1 : decode b_Model_sill 1 = .ok (.iload_n 1, 1) := by decide +kernel
theorem d_Model_sill_2 : decode b_Model_sill 2 = .ok (.invokevirtual 216, 3) := by decide +kernel
theorem d_Model_sill_5 : decode b_Model_sill 5 = .ok (.ifCond .eq 13, 3) := by decide +kernel
theorem d_Model_sill_8 : decode b_Model_sill 8 = .ok (.iload_n 2, 1) := by decide +kernel
theorem d_Model_sill_9 : decode b_Model_sill 9 = .ok (.iconst 0, 1) := by decide +kernel
theorem d_Model_sill_10 : decode b_Model_sill 10 = .ok (.bipush 20, 2) := by decide +kernel
theorem d_Model_sill_12 : decode b_Model_sill 12 = .ok (.invokestatic 118, 3) := by decide +kernel
theorem d_Model_sill_15 : decode b_Model_sill 15 = .ok (.ifCond .ne 5, 3) := by decide +kernel
theorem d_Model_sill_18 : decode b_Model_sill 18 = .ok (.iconst (-1), 1) := by decide +kernel
theorem d_Model_sill_19 : decode b_Model_sill 19 = .ok (.ireturn, 1) := by decide +kernel
theorem d_Model_sill_20 : decode b_Model_sill 20 = .ok (.aload_n 0, 1) := by decide +kernel
theorem d_Model_sill_21 : decode b_Model_sill 21 = .ok (.getfield 35, 3) := by decide +kernel
theorem d_Model_sill_24 : decode b_Model_sill 24 = .ok (.iload_n 1, 1) := by decide +kernel
theorem d_Model_sill_25 : decode b_Model_sill 25 = .ok (.iaload, 1) := by decide +kernel
theorem d_Model_sill_26 : decode b_Model_sill 26 = .ok (.istore_n 3, 1) := by decide +kernel
theorem d_Model_sill_27 : decode b_Model_sill 27 = .ok (.aload_n 0, 1) := by decide +kernel
theorem d_Model_sill_28 : decode b_Model_sill 28 = .ok (.getfield 35, 3) := by decide +kernel
theorem d_Model_sill_31 : decode b_Model_sill 31 = .ok (.iload_n 1, 1) := by decide +kernel
theorem d_Model_sill_32 : decode b_Model_sill 32 = .ok (.iload_n 2, 1) := by decide +kernel
theorem d_Model_sill_33 : decode b_Model_sill 33 = .ok (.iastore, 1) := by decide +kernel
theorem d_Model_sill_34 : decode b_Model_sill 34 = .ok (.iload_n 3, 1) := by decide +kernel
theorem d_Model_sill_35 : decode b_Model_sill 35 = .ok (.ireturn, 1) := by decide +kernel
abbrev b_Model_flow : ByteArray := prog_11_method_46_code
abbrev y_Model_flow : MethodName := ⟨"RiverTuesdaysModel", "flow", "(I)I"⟩
theorem ok_Model_flow : okV y_Model_flow b_Model_flow 3 (some .int) 1 9 := ⟨mGW (List.mem_of_getElem? (i := 1375) (by decide +kernel)) rfl, mGW (List.mem_of_getElem? (i := 1376) (by decide +kernel)) rfl, mGW (List.mem_of_getElem? (i := 83) (by decide +kernel)) rfl, mGW (List.mem_of_getElem? (i := 1377) (by decide +kernel)) rfl, ⟨by decide, by decide, by decide +kernel⟩, rfl⟩
theorem d_Model_flow_0 : decode b_Model_flow 0 = .ok (.iload_n 1, 1) := by decide +kernel
theorem d_Model_flow_1 : decode b_Model_flow 1 = .ok (.iconst 1, 1) := by decide +kernel
theorem d_Model_flow_2 : decode b_Model_flow 2 = .ok (.bipush 9, 2) := by decide +kernel
theorem d_Model_flow_4 : decode b_Model_flow 4 = .ok (.invokestatic 118, 3) := by decide +kernel
theorem d_Model_flow_7 : decode b_Model_flow 7 = .ok (.ifCond .ne 5, 3) := by decide +kernel
theorem d_Model_flow_10 : decode b_Model_flow 10 = .ok (.iconst (-1), 1) := by decide +kernel
theorem d_Model_flow_11 : decode b_Model_flow 11 = .ok (.ireturn, 1) := by decide +kernel
theorem d_Model_flow_12 : decode b_Model_flow 12 = .ok (.aload_n 0, 1) := by decide +kernel
theorem d_Model_flow_13 : decode b_Model_flow 13 = .ok (.getfield 176, 3) := by decide +kernel
theorem d_Model_flow_16 : decode b_Model_flow 16 = .ok (.ifCond .ne 6, 3) := by decide +kernel
theorem d_Model_flow_19 : decode b_Model_flow 19 = .ok (.bipush (-4), 2) := by decide +kernel
theorem d_Model_flow_21 : decode b_Model_flow 21 = .ok (.ireturn, 1) := by decide +kernel
theorem d_Model_flow_22 : decode b_Model_flow 22 = .ok (.aload_n 0, 1) := by decide +kernel
theorem d_Model_flow_23 : decode b_Model_flow 23 = .ok (.getfield 179, 3) := by decide +kernel
theorem d_Model_flow_26 : decode b_Model_flow 26 = .ok (.istore_n 2, 1) := by decide +kernel
theorem d_Model_flow_27 : decode b_Model_flow 27 = .ok (.aload_n 0, 1) := by decide +kernel
theorem d_Model_flow_28 : decode b_Model_flow 28 = .ok (.iload_n 1, 1) := by decide +kernel
theorem d_Model_flow_29 : decode b_Model_flow 29 = .ok (.putfield 179, 3) := by decide +kernel
theorem d_Model_flow_32 : decode b_Model_flow 32 = .ok (.iload_n 2, 1) := by decide +kernel
theorem d_Model_flow_33 : decode b_Model_flow 33 = .ok (.ireturn, 1) := by decide +kernel
abbrev b_Model_shut : ByteArray := prog_11_method_47_code
abbrev y_Model_shut : MethodName := ⟨"RiverTuesdaysModel", "shut", "(II)I"⟩
theorem ok_Model_shut : okV y_Model_shut b_Model_shut 4 (some .int) 2 9 := ⟨mGW (List.mem_of_getElem? (i := 1379) (by decide +kernel)) rfl, mGW (List.mem_of_getElem? (i := 1380) (by decide +kernel)) rfl, mGW (List.mem_of_getElem? (i := 83) (by decide +kernel)) rfl, mGW (List.mem_of_getElem? (i := 1381) (by decide +kernel)) rfl, ⟨by decide, by decide, by decide +kernel⟩, rfl⟩
theorem d_Model_shut_0 : decode b_Model_shut 0 = .ok (.aload_n 0, 1) := by decide +kernel
theorem d_Model_shut_1 : decode b_Model_shut 1 = .ok (.iload_n 1, 1) := by decide +kernel
theorem d_Model_shut_2 : decode b_Model_shut 2 = .ok (.invokevirtual 216, 3) := by decide +kernel
theorem d_Model_shut_5 : decode b_Model_shut 5 = .ok (.ifCond .eq 12, 3) := by decide +kernel
theorem d_Model_shut_8 : decode b_Model_shut 8 = .ok (.iload_n 2, 1) := by decide +kernel
theorem d_Model_shut_9 : decode b_Model_shut 9 = .ok (.iconst 0, 1) := by decide +kernel
theorem d_Model_shut_10 : decode b_Model_shut 10 = .ok (.iconst 1, 1) := by decide +kernel
theorem d_Model_shut_11 : decode b_Model_shut 11 = .ok (.invokestatic 118, 3) := by decide +kernel
theorem d_Model_shut_14 : decode b_Model_shut 14 = .ok (.ifCond .ne 5, 3) := by decide +kernel
theorem d_Model_shut_17 : decode b_Model_shut 17 = .ok (.iconst (-1), 1) := by decide +kernel
theorem d_Model_shut_18 : decode b_Model_shut 18 = .ok (.ireturn, 1) := by decide +kernel
theorem d_Model_shut_19 : decode b_Model_shut 19 = .ok (.aload_n 0, 1) := by decide +kernel
theorem d_Model_shut_20 : decode b_Model_shut 20 = .ok (.getfield 29, 3) := by decide +kernel
theorem d_Model_shut_23 : decode b_Model_shut 23 = .ok (.iload_n 1, 1) := by decide +kernel
theorem d_Model_shut_24 : decode b_Model_shut 24 = .ok (.iaload, 1) := by decide +kernel
theorem d_Model_shut_25 : decode b_Model_shut 25 = .ok (.iconst 5, 1) := by decide +kernel
theorem d_Model_shut_26 : decode b_Model_shut 26 = .ok (.if_icmp .eq 9, 3) := by decide +kernel
theorem d_Model_shut_29 : decode b_Model_shut 29 = .ok (.aload_n 0, 1) := by decide +kernel
theorem d_Model_shut_30 : decode b_Model_shut 30 = .ok (.iconst 3, 1) := by decide +kernel
theorem d_Model_shut_31 : decode b_Model_shut 31 = .ok (.invokevirtual 129, 3) := by decide +kernel
theorem d_Model_shut_34 : decode b_Model_shut 34 = .ok (.ireturn, 1) := by decide +kernel
theorem d_Model_shut_35 : decode b_Model_shut 35 = .ok (.aload_n 0, 1) := by decide +kernel
theorem d_Model_shut_36 : decode b_Model_shut 36 = .ok (.getfield 41, 3) := by decide +kernel
theorem d_Model_shut_39 : decode b_Model_shut 39 = .ok (.iload_n 1, 1) := by decide +kernel
theorem d_Model_shut_40 : decode b_Model_shut 40 = .ok (.iaload, 1) := by decide +kernel
theorem d_Model_shut_41 : decode b_Model_shut 41 = .ok (.istore_n 3, 1) := by decide +kernel
theorem d_Model_shut_42 : decode b_Model_shut 42 = .ok (.aload_n 0, 1) := by decide +kernel
theorem d_Model_shut_43 : decode b_Model_shut 43 = .ok (.getfield 41, 3) := by decide +kernel
theorem d_Model_shut_46 : decode b_Model_shut 46 = .ok (.iload_n 1, 1) := by decide +kernel
theorem d_Model_shut_47 : decode b_Model_shut 47 = .ok (.iload_n 2, 1) := by decide +kernel
theorem d_Model_shut_48 : decode b_Model_shut 48 = .ok (.iastore, 1) := by decide +kernel
theorem d_Model_shut_49 : decode b_Model_shut 49 = .ok (.iload_n 3, 1) := by decide +kernel
theorem d_Model_shut_50 : decode b_Model_shut 50 = .ok (.ireturn, 1) := by decide +kernel
abbrev b_Model_pump : ByteArray := prog_11_method_48_code
abbrev y_Model_pump : MethodName := ⟨"RiverTuesdaysModel", "pump", "(I)I"⟩
theorem ok_Model_pump : okV y_Model_pump b_Model_pump 3 (some .int) 1 9 := ⟨mGW (List.mem_of_getElem? (i := 1383) (by decide +kernel)) rfl, mGW (List.mem_of_getElem? (i := 1384) (by decide +kernel)) rfl, mGW (List.mem_of_getElem? (i := 83) (by decide +kernel)) rfl, mGW (List.mem_of_getElem? (i := 1385) (by decide +kernel)) rfl, ⟨by decide, by decide, by decide +kernel⟩, rfl⟩
theorem d_Model_pump_0 : decode b_Model_pump 0 = .ok (.aload_n 0, 1) := by decide +kernel
theorem d_Model_pump_1 : decode b_Model_pump 1 = .ok (.iload_n 1, 1) := by decide +kernel
theorem d_Model_pump_2 : decode b_Model_pump 2 = .ok (.invokevirtual 216, 3) := by decide +kernel
theorem d_Model_pump_5 : decode b_Model_pump 5 = .ok (.ifCond .ne 5, 3) := by decide +kernel
theorem d_Model_pump_8 : decode b_Model_pump 8 = .ok (.iconst (-1), 1) := by decide +kernel
theorem d_Model_pump_9 : decode b_Model_pump 9 = .ok (.ireturn, 1) := by decide +kernel
theorem d_Model_pump_10 : decode b_Model_pump 10 = .ok (.aload_n 0, 1) := by decide +kernel
theorem d_Model_pump_11 : decode b_Model_pump 11 = .ok (.iconst 0, 1) := by decide +kernel
theorem d_Model_pump_12 : decode b_Model_pump 12 = .ok (.bipush 8, 2) := by decide +kernel
theorem d_Model_pump_14 : decode b_Model_pump 14 = .ok (.iload_n 1, 1) := by decide +kernel
theorem d_Model_pump_15 : decode b_Model_pump 15 = .ok (.iadd, 1) := by decide +kernel
theorem d_Model_pump_16 : decode b_Model_pump 16 = .ok (.invokevirtual 192, 3) := by decide +kernel
theorem d_Model_pump_19 : decode b_Model_pump 19 = .ok (.istore_n 2, 1) := by decide +kernel
theorem d_Model_pump_20 : decode b_Model_pump 20 = .ok (.aload_n 0, 1) := by decide +kernel
theorem d_Model_pump_21 : decode b_Model_pump 21 = .ok (.iconst 0, 1) := by decide +kernel
theorem d_Model_pump_22 : decode b_Model_pump 22 = .ok (.bipush 8, 2) := by decide +kernel
theorem d_Model_pump_24 : decode b_Model_pump 24 = .ok (.iload_n 1, 1) := by decide +kernel
theorem d_Model_pump_25 : decode b_Model_pump 25 = .ok (.iadd, 1) := by decide +kernel
theorem d_Model_pump_26 : decode b_Model_pump 26 = .ok (.iconst 0, 1) := by decide +kernel
theorem d_Model_pump_27 : decode b_Model_pump 27 = .ok (.invokevirtual 185, 3) := by decide +kernel
theorem d_Model_pump_30 : decode b_Model_pump 30 = .ok (.aload_n 0, 1) := by decide +kernel
theorem d_Model_pump_31 : decode b_Model_pump 31 = .ok (.iconst 0, 1) := by decide +kernel
theorem d_Model_pump_32 : decode b_Model_pump 32 = .ok (.bipush 25, 2) := by decide +kernel
theorem d_Model_pump_34 : decode b_Model_pump 34 = .ok (.iload_n 2, 1) := by decide +kernel
theorem d_Model_pump_35 : decode b_Model_pump 35 = .ok (.invokevirtual 201, 3) := by decide +kernel
theorem d_Model_pump_38 : decode b_Model_pump 38 = .ok (.iload_n 2, 1) := by decide +kernel
theorem d_Model_pump_39 : decode b_Model_pump 39 = .ok (.ireturn, 1) := by decide +kernel
abbrev b_Model_goesBy : ByteArray := prog_11_method_49_code
abbrev y_Model_goesBy : MethodName := ⟨"RiverTuesdaysModel", "goesBy", "(Z)V"⟩
theorem ok_Model_goesBy : okV y_Model_goesBy b_Model_goesBy 4 none 1 9 := ⟨mGW (List.mem_of_getElem? (i := 1392) (by decide +kernel)) rfl, mGW (List.mem_of_getElem? (i := 52) (by decide +kernel)) rfl, mGW (List.mem_of_getElem? (i := 83) (by decide +kernel)) rfl, mGW (List.mem_of_getElem? (i := 1393) (by decide +kernel)) rfl, ⟨by decide, by decide, by decide +kernel⟩, rfl⟩
theorem d_Model_goesBy_0 : decode b_Model_goesBy 0 = .ok (.bipush 27, 2) := by decide +kernel
theorem d_Model_goesBy_2 : decode b_Model_goesBy 2 = .ok (.aload_n 0, 1) := by decide +kernel
theorem d_Model_goesBy_3 : decode b_Model_goesBy 3 = .ok (.getfield 189, 3) := by decide +kernel
theorem d_Model_goesBy_6 : decode b_Model_goesBy 6 = .ok (.imul, 1) := by decide +kernel
theorem d_Model_goesBy_7 : decode b_Model_goesBy 7 = .ok (.istore_n 2, 1) := by decide +kernel
theorem d_Model_goesBy_8 : decode b_Model_goesBy 8 = .ok (.iconst 0, 1) := by decide +kernel
theorem d_Model_goesBy_9 : decode b_Model_goesBy 9 = .ok (.istore_n 3, 1) := by decide +kernel
theorem d_Model_goesBy_10 : decode b_Model_goesBy 10 = .ok (.iload_n 3, 1) := by decide +kernel
theorem d_Model_goesBy_11 : decode b_Model_goesBy 11 = .ok (.bipush 26, 2) := by decide +kernel
theorem d_Model_goesBy_13 : decode b_Model_goesBy 13 = .ok (.if_icmp .ge 23, 3) := by decide +kernel
theorem d_Model_goesBy_16 : decode b_Model_goesBy 16 = .ok (.aload_n 0, 1) := by decide +kernel
theorem d_Model_goesBy_17 : decode b_Model_goesBy 17 = .ok (.getfield 56, 3) := by decide +kernel
theorem d_Model_goesBy_20 : decode b_Model_goesBy 20 = .ok (.iload_n 2, 1) := by decide +kernel
theorem d_Model_goesBy_21 : decode b_Model_goesBy 21 = .ok (.iload_n 3, 1) := by decide +kernel
theorem d_Model_goesBy_22 : decode b_Model_goesBy 22 = .ok (.iadd, 1) := by decide +kernel
theorem d_Model_goesBy_23 : decode b_Model_goesBy 23 = .ok (.aload_n 0, 1) := by decide +kernel
theorem d_Model_goesBy_24 : decode b_Model_goesBy 24 = .ok (.iconst 0, 1) := by decide +kernel
theorem d_Model_goesBy_25 : decode b_Model_goesBy 25 = .ok (.iload_n 3, 1) := by decide +kernel
theorem d_Model_goesBy_26 : decode b_Model_goesBy 26 = .ok (.invokevirtual 192, 3) := by decide +kernel
theorem d_Model_goesBy_29 : decode b_Model_goesBy 29 = .ok (.iastore, 1) := by decide +kernel
theorem d_Model_goesBy_30 : decode b_Model_goesBy 30 = .ok (.iinc 3 1, 3) := by decide +kernel
theorem d_Model_goesBy_33 : decode b_Model_goesBy 33 = .ok (.goto (-23), 3) := by decide +kernel
theorem d_Model_goesBy_36 : decode b_Model_goesBy 36 = .ok (.aload_n 0, 1) := by decide +kernel
theorem d_Model_goesBy_37 : decode b_Model_goesBy 37 = .ok (.getfield 56, 3) := by decide +kernel
theorem d_Model_goesBy_40 : decode b_Model_goesBy 40 = .ok (.iload_n 2, 1) := by decide +kernel
theorem d_Model_goesBy_41 : decode b_Model_goesBy 41 = .ok (.bipush 26, 2) := by decide +kernel
theorem d_Model_goesBy_43 : decode b_Model_goesBy 43 = .ok (.iadd, 1) := by decide +kernel
theorem d_Model_goesBy_44 : decode b_Model_goesBy 44 = .ok (.iload_n 1, 1) := by decide +kernel
theorem d_Model_goesBy_45 : decode b_Model_goesBy 45 = .ok (.ifCond .eq 7, 3) := by decide +kernel
theorem d_Model_goesBy_48 : decode b_Model_goesBy 48 = .ok (.iconst 1, 1) := by decide +kernel
theorem d_Model_goesBy_49 : decode b_Model_goesBy 49 = .ok (.goto 4, 3) := by decide +kernel
theorem d_Model_goesBy_52 : decode b_Model_goesBy 52 = .ok (.iconst 0, 1) := by decide +kernel
theorem d_Model_goesBy_53 : decode b_Model_goesBy 53 = .ok (.iastore, 1) := by decide +kernel
theorem d_Model_goesBy_54 : decode b_Model_goesBy 54 = .ok (.aload_n 0, 1) := by decide +kernel
theorem d_Model_goesBy_55 : decode b_Model_goesBy 55 = .ok (.iconst 0, 1) := by decide +kernel
theorem d_Model_goesBy_56 : decode b_Model_goesBy 56 = .ok (.iload_n 1, 1) := by decide +kernel
theorem d_Model_goesBy_57 : decode b_Model_goesBy 57 = .ok (.invokevirtual 225, 3) := by decide +kernel
theorem d_Model_goesBy_60 : decode b_Model_goesBy 60 = .ok (.aload_n 0, 1) := by decide +kernel
theorem d_Model_goesBy_61 : decode b_Model_goesBy 61 = .ok (.dup, 1) := by decide +kernel
theorem d_Model_goesBy_62 : decode b_Model_goesBy 62 = .ok (.getfield 189, 3) := by decide +kernel
theorem d_Model_goesBy_65 : decode b_Model_goesBy 65 = .ok (.iconst 1, 1) := by decide +kernel
theorem d_Model_goesBy_66 : decode b_Model_goesBy 66 = .ok (.iadd, 1) := by decide +kernel
theorem d_Model_goesBy_67 : decode b_Model_goesBy 67 = .ok (.putfield 189, 3) := by decide +kernel
theorem d_Model_goesBy_70 : decode b_Model_goesBy 70 = .ok (.return_, 1) := by decide +kernel
abbrev b_Model_hour : ByteArray := prog_11_method_50_code
abbrev y_Model_hour : MethodName := ⟨"RiverTuesdaysModel", "hour", "(I)I"⟩
theorem ok_Model_hour : okV y_Model_hour b_Model_hour 2 (some .int) 1 9 := ⟨mGW (List.mem_of_getElem? (i := 1387) (by decide +kernel)) rfl, mGW (List.mem_of_getElem? (i := 1388) (by decide +kernel)) rfl, mGW (List.mem_of_getElem? (i := 83) (by decide +kernel)) rfl, mGW (List.mem_of_getElem? (i := 1389) (by decide +kernel)) rfl, ⟨by decide, by decide, by decide +kernel⟩, rfl⟩
theorem d_Model_hour_0 : decode b_Model_hour 0 = .ok (.iload_n 1, 1) := by decide +kernel
theorem d_Model_hour_1 : decode b_Model_hour 1 = .ok (.iconst 0, 1) := by decide +kernel
theorem d_Model_hour_2 : decode b_Model_hour 2 = .ok (.iconst 1, 1) := by decide +kernel
theorem d_Model_hour_3 : decode b_Model_hour 3 = .ok (.invokestatic 118, 3) := by decide +kernel
theorem d_Model_hour_6 : decode b_Model_hour 6 = .ok (.ifCond .ne 5, 3) := by decide +kernel
theorem d_Model_hour_9 : decode b_Model_hour 9 = .ok (.iconst (-1), 1) := by decide +kernel
theorem d_Model_hour_10 : decode b_Model_hour 10 = .ok (.ireturn, 1) := by decide +kernel
theorem d_Model_hour_11 : decode b_Model_hour 11 = .ok (.aload_n 0, 1) := by decide +kernel
theorem d_Model_hour_12 : decode b_Model_hour 12 = .ok (.getfield 176, 3) := by decide +kernel
theorem d_Model_hour_15 : decode b_Model_hour 15 = .ok (.ifCond .ne 6, 3) := by decide +kernel
theorem d_Model_hour_18 : decode b_Model_hour 18 = .ok (.bipush (-4), 2) := by decide +kernel
theorem d_Model_hour_20 : decode b_Model_hour 20 = .ok (.ireturn, 1) := by decide +kernel
theorem d_Model_hour_21 : decode b_Model_hour 21 = .ok (.aload_n 0, 1) := by decide +kernel
theorem d_Model_hour_22 : decode b_Model_hour 22 = .ok (.getfield 189, 3) := by decide +kernel
theorem d_Model_hour_25 : decode b_Model_hour 25 = .ok (.bipush 60, 2) := by decide +kernel
theorem d_Model_hour_27 : decode b_Model_hour 27 = .ok (.if_icmp .ne 6, 3) := by decide +kernel
theorem d_Model_hour_30 : decode b_Model_hour 30 = .ok (.bipush (-2), 2) := by decide +kernel
theorem d_Model_hour_32 : decode b_Model_hour 32 = .ok (.ireturn, 1) := by decide +kernel
theorem d_Model_hour_33 : decode b_Model_hour 33 = .ok (.aload_n 0, 1) := by decide +kernel
theorem d_Model_hour_34 : decode b_Model_hour 34 = .ok (.iload_n 1, 1) := by decide +kernel
theorem d_Model_hour_35 : decode b_Model_hour 35 = .ok (.iconst 1, 1) := by decide +kernel
theorem d_Model_hour_36 : decode b_Model_hour 36 = .ok (.if_icmp .ne 7, 3) := by decide +kernel
theorem d_Model_hour_39 : decode b_Model_hour 39 = .ok (.iconst 1, 1) := by decide +kernel
theorem d_Model_hour_40 : decode b_Model_hour 40 = .ok (.goto 4, 3) := by decide +kernel
theorem d_Model_hour_43 : decode b_Model_hour 43 = .ok (.iconst 0, 1) := by decide +kernel
theorem d_Model_hour_44 : decode b_Model_hour 44 = .ok (.invokevirtual 232, 3) := by decide +kernel
theorem d_Model_hour_47 : decode b_Model_hour 47 = .ok (.aload_n 0, 1) := by decide +kernel
theorem d_Model_hour_48 : decode b_Model_hour 48 = .ok (.aload_n 0, 1) := by decide +kernel
theorem d_Model_hour_49 : decode b_Model_hour 49 = .ok (.getfield 204, 3) := by decide +kernel
theorem d_Model_hour_52 : decode b_Model_hour 52 = .ok (.aload_n 0, 1) := by decide +kernel
theorem d_Model_hour_53 : decode b_Model_hour 53 = .ok (.iconst 0, 1) := by decide +kernel
theorem d_Model_hour_54 : decode b_Model_hour 54 = .ok (.invokevirtual 236, 3) := by decide +kernel
theorem d_Model_hour_57 : decode b_Model_hour 57 = .ok (.invokevirtual 137, 3) := by decide +kernel
theorem d_Model_hour_60 : decode b_Model_hour 60 = .ok (.ireturn, 1) := by decide +kernel
abbrev b_Model_undo : ByteArray := prog_11_method_51_code
abbrev y_Model_undo : MethodName := ⟨"RiverTuesdaysModel", "undo", "(I)I"⟩
theorem ok_Model_undo : okV y_Model_undo b_Model_undo 4 (some .int) 1 9 := ⟨mGW (List.mem_of_getElem? (i := 1399) (by decide +kernel)) rfl, mGW (List.mem_of_getElem? (i := 1400) (by decide +kernel)) rfl, mGW (List.mem_of_getElem? (i := 83) (by decide +kernel)) rfl, mGW (List.mem_of_getElem? (i := 1401) (by decide +kernel)) rfl, ⟨by decide, by decide, by decide +kernel⟩, rfl⟩
theorem d_Model_undo_0 : decode b_Model_undo 0 = .ok (.iload_n 1, 1) := by decide +kernel
theorem d_Model_undo_1 : decode b_Model_undo 1 = .ok (.iconst 0, 1) := by decide +kernel
theorem d_Model_undo_2 : decode b_Model_undo 2 = .ok (.aload_n 0, 1) := by decide +kernel
theorem d_Model_undo_3 : decode b_Model_undo 3 = .ok (.getfield 189, 3) := by decide +kernel
theorem d_Model_undo_6 : decode b_Model_undo 6 = .ok (.invokestatic 118, 3) := by decide +kernel
theorem d_Model_undo_9 : decode b_Model_undo 9 = .ok (.ifCond .ne 5, 3) := by decide +kernel
theorem d_Model_undo_12 : decode b_Model_undo 12 = .ok (.iconst (-1), 1) := by decide +kernel
theorem d_Model_undo_13 : decode b_Model_undo 13 = .ok (.ireturn, 1) := by decide +kernel
theorem d_Model_undo_14 : decode b_Model_undo 14 = .ok (.aload_n 0, 1) := by decide +kernel
theorem d_Model_undo_15 : decode b_Model_undo 15 = .ok (.getfield 189, 3) := by decide +kernel
theorem d_Model_undo_18 : decode b_Model_undo 18 = .ok (.iload_n 1, 1) := by decide +kernel
theorem d_Model_undo_19 : decode b_Model_undo 19 = .ok (.isub, 1) := by decide +kernel
theorem d_Model_undo_20 : decode b_Model_undo 20 = .ok (.istore_n 2, 1) := by decide +kernel
theorem d_Model_undo_21 : decode b_Model_undo 21 = .ok (.iconst 0, 1) := by decide +kernel
theorem d_Model_undo_22 : decode b_Model_undo 22 = .ok (.istore_n 3, 1) := by decide +kernel
theorem d_Model_undo_23 : decode b_Model_undo 23 = .ok (.iload_n 3, 1) := by decide +kernel
theorem d_Model_undo_24 : decode b_Model_undo 24 = .ok (.bipush 26, 2) := by decide +kernel
theorem d_Model_undo_26 : decode b_Model_undo 26 = .ok (.if_icmp .ge 30, 3) := by decide +kernel
theorem d_Model_undo_29 : decode b_Model_undo 29 = .ok (.iload_n 2, 1) := by decide +kernel
theorem d_Model_undo_30 : decode b_Model_undo 30 = .ok (.ifCond .le 26, 3) := by decide +kernel
theorem d_Model_undo_33 : decode b_Model_undo 33 = .ok (.aload_n 0, 1) := by decide +kernel
theorem d_Model_undo_34 : decode b_Model_undo 34 = .ok (.iconst 0, 1) := by decide +kernel
theorem d_Model_undo_35 : decode b_Model_undo 35 = .ok (.iload_n 3, 1) := by decide +kernel
theorem d_Model_undo_36 : decode b_Model_undo 36 = .ok (.aload_n 0, 1) := by decide +kernel
theorem d_Model_undo_37 : decode b_Model_undo 37 = .ok (.getfield 56, 3) := by decide +kernel
theorem d_Model_undo_40 : decode b_Model_undo 40 = .ok (.bipush 27, 2) := by decide +kernel
theorem d_Model_undo_42 : decode b_Model_undo 42 = .ok (.iload_n 1, 1) := by decide +kernel
theorem d_Model_undo_43 : decode b_Model_undo 43 = .ok (.imul, 1) := by decide +kernel
theorem d_Model_undo_44 : decode b_Model_undo 44 = .ok (.iload_n 3, 1) := by decide +kernel
theorem d_Model_undo_45 : decode b_Model_undo 45 = .ok (.iadd, 1) := by decide +kernel
theorem d_Model_undo_46 : decode b_Model_undo 46 = .ok (.iaload, 1) := by decide +kernel
theorem d_Model_undo_47 : decode b_Model_undo 47 = .ok (.invokevirtual 185, 3) := by decide +kernel
theorem d_Model_undo_50 : decode b_Model_undo 50 = .ok (.iinc 3 1, 3) := by decide +kernel
theorem d_Model_undo_53 : decode b_Model_undo 53 = .ok (.goto (-30), 3) := by decide +kernel
theorem d_Model_undo_56 : decode b_Model_undo 56 = .ok (.aload_n 0, 1) := by decide +kernel
theorem d_Model_undo_57 : decode b_Model_undo 57 = .ok (.iload_n 1, 1) := by decide +kernel
theorem d_Model_undo_58 : decode b_Model_undo 58 = .ok (.putfield 189, 3) := by decide +kernel
theorem d_Model_undo_61 : decode b_Model_undo 61 = .ok (.iload_n 2, 1) := by decide +kernel
theorem d_Model_undo_62 : decode b_Model_undo 62 = .ok (.ireturn, 1) := by decide +kernel
abbrev b_Model_water : ByteArray := prog_11_method_52_code
abbrev y_Model_water : MethodName := ⟨"RiverTuesdaysModel", "water", "()I"⟩
theorem ok_Model_water : okV y_Model_water b_Model_water 1 (some .int) 0 9 := ⟨mGW (List.mem_of_getElem? (i := 1403) (by decide +kernel)) rfl, mGW (List.mem_of_getElem? (i := 1404) (by decide +kernel)) rfl, mGW (List.mem_of_getElem? (i := 83) (by decide +kernel)) rfl, mGW (List.mem_of_getElem? (i := 1405) (by decide +kernel)) rfl, ⟨by decide, by decide, by decide +kernel⟩, rfl⟩
theorem d_Model_water_0 : decode b_Model_water 0 = .ok (.aload_n 0, 1) := by decide +kernel
theorem d_Model_water_1 : decode b_Model_water 1 = .ok (.aload_n 0, 1) := by decide +kernel
theorem d_Model_water_2 : decode b_Model_water 2 = .ok (.iconst 0, 1) := by decide +kernel
theorem d_Model_water_3 : decode b_Model_water 3 = .ok (.bipush 25, 2) := by decide +kernel
theorem d_Model_water_5 : decode b_Model_water 5 = .ok (.invokevirtual 192, 3) := by decide +kernel
theorem d_Model_water_8 : decode b_Model_water 8 = .ok (.aload_n 0, 1) := by decide +kernel
theorem d_Model_water_9 : decode b_Model_water 9 = .ok (.iconst 0, 1) := by decide +kernel
theorem d_Model_water_10 : decode b_Model_water 10 = .ok (.bipush 24, 2) := by decide +kernel
theorem d_Model_water_12 : decode b_Model_water 12 = .ok (.invokevirtual 192, 3) := by decide +kernel
theorem d_Model_water_15 : decode b_Model_water 15 = .ok (.invokevirtual 137, 3) := by decide +kernel
theorem d_Model_water_18 : decode b_Model_water 18 = .ok (.ireturn, 1) := by decide +kernel
abbrev b_Model_keep : ByteArray := prog_11_method_53_code
abbrev y_Model_keep : MethodName := ⟨"RiverTuesdaysModel", "keep", "(I)I"⟩
theorem ok_Model_keep : okV y_Model_keep b_Model_keep 3 (some .int) 1 9 := ⟨mGW (List.mem_of_getElem? (i := 1407) (by decide +kernel)) rfl, mGW (List.mem_of_getElem? (i := 1408) (by decide +kernel)) rfl, mGW (List.mem_of_getElem? (i := 83) (by decide +kernel)) rfl, mGW (List.mem_of_getElem? (i := 1409) (by decide +kernel)) rfl, ⟨by decide, by decide, by decide +kernel⟩, rfl⟩
theorem d_Model_keep_0 : decode b_Model_keep 0 = .ok (.iload_n 1, 1) := by decide +kernel
theorem d_Model_keep_1 : decode b_Model_keep 1 = .ok (.iconst 0, 1) := by decide +kernel
theorem d_Model_keep_2 : decode b_Model_keep 2 = .ok (.iconst 2, 1) := by decide +kernel
theorem d_Model_keep_3 : decode b_Model_keep 3 = .ok (.invokestatic 118, 3) := by decide +kernel
theorem d_Model_keep_6 : decode b_Model_keep 6 = .ok (.ifCond .ne 5, 3) := by decide +kernel
theorem d_Model_keep_9 : decode b_Model_keep 9 = .ok (.iconst (-1), 1) := by decide +kernel
theorem d_Model_keep_10 : decode b_Model_keep 10 = .ok (.ireturn, 1) := by decide +kernel
theorem d_Model_keep_11 : decode b_Model_keep 11 = .ok (.aload_n 0, 1) := by decide +kernel
theorem d_Model_keep_12 : decode b_Model_keep 12 = .ok (.getfield 176, 3) := by decide +kernel
theorem d_Model_keep_15 : decode b_Model_keep 15 = .ok (.ifCond .ne 6, 3) := by decide +kernel
theorem d_Model_keep_18 : decode b_Model_keep 18 = .ok (.bipush (-4), 2) := by decide +kernel
theorem d_Model_keep_20 : decode b_Model_keep 20 = .ok (.ireturn, 1) := by decide +kernel
theorem d_Model_keep_21 : decode b_Model_keep 21 = .ok (.iconst 0, 1) := by decide +kernel
theorem d_Model_keep_22 : decode b_Model_keep 22 = .ok (.istore_n 2, 1) := by decide +kernel
theorem d_Model_keep_23 : decode b_Model_keep 23 = .ok (.iload_n 2, 1) := by decide +kernel
theorem d_Model_keep_24 : decode b_Model_keep 24 = .ok (.bipush 26, 2) := by decide +kernel
theorem d_Model_keep_26 : decode b_Model_keep 26 = .ok (.if_icmp .ge 26, 3) := by decide +kernel
theorem d_Model_keep_29 : decode b_Model_keep 29 = .ok (.aload_n 0, 1) := by decide +kernel
theorem d_Model_keep_30 : decode b_Model_keep 30 = .ok (.getfield 62, 3) := by decide +kernel
theorem d_Model_keep_33 : decode b_Model_keep 33 = .ok (.bipush 26, 2) := by decide +kernel
theorem d_Model_keep_35 : decode b_Model_keep 35 = .ok (.iload_n 1, 1) := by decide +kernel
theorem d_Model_keep_36 : decode b_Model_keep 36 = .ok (.imul, 1) := by decide +kernel
theorem d_Model_keep_37 : decode b_Model_keep 37 = .ok (.iload_n 2, 1) := by decide +kernel
theorem d_Model_keep_38 : decode b_Model_keep 38 = .ok (.iadd, 1) := by decide +kernel
theorem d_Model_keep_39 : decode b_Model_keep 39 = .ok (.aload_n 0, 1) := by decide +kernel
theorem d_Model_keep_40 : decode b_Model_keep 40 = .ok (.iconst 0, 1) := by decide +kernel
theorem d_Model_keep_41 : decode b_Model_keep 41 = .ok (.iload_n 2, 1) := by decide +kernel
theorem d_Model_keep_42 : decode b_Model_keep 42 = .ok (.invokevirtual 192, 3) := by decide +kernel
theorem d_Model_keep_45 : decode b_Model_keep 45 = .ok (.iastore, 1) := by decide +kernel
theorem d_Model_keep_46 : decode b_Model_keep 46 = .ok (.iinc 2 1, 3) := by decide +kernel
theorem d_Model_keep_49 : decode b_Model_keep 49 = .ok (.goto (-26), 3) := by decide +kernel
theorem d_Model_keep_52 : decode b_Model_keep 52 = .ok (.iconst 0, 1) := by decide +kernel
theorem d_Model_keep_53 : decode b_Model_keep 53 = .ok (.istore_n 2, 1) := by decide +kernel
theorem d_Model_keep_54 : decode b_Model_keep 54 = .ok (.iload_n 2, 1) := by decide +kernel
theorem d_Model_keep_55 : decode b_Model_keep 55 = .ok (.bipush 8, 2) := by decide +kernel
theorem d_Model_keep_57 : decode b_Model_keep 57 = .ok (.if_icmp .ge 43, 3) := by decide +kernel
theorem d_Model_keep_60 : decode b_Model_keep 60 = .ok (.aload_n 0, 1) := by decide +kernel
theorem d_Model_keep_61 : decode b_Model_keep 61 = .ok (.getfield 65, 3) := by decide +kernel
theorem d_Model_keep_64 : decode b_Model_keep 64 = .ok (.bipush 8, 2) := by decide +kernel
theorem d_Model_keep_66 : decode b_Model_keep 66 = .ok (.iload_n 1, 1) := by decide +kernel
theorem d_Model_keep_67 : decode b_Model_keep 67 = .ok (.imul, 1) := by decide +kernel
theorem d_Model_keep_68 : decode b_Model_keep 68 = .ok (.iload_n 2, 1) := by decide +kernel
theorem d_Model_keep_69 : decode b_Model_keep 69 = .ok (.iadd, 1) := by decide +kernel
theorem d_Model_keep_70 : decode b_Model_keep 70 = .ok (.aload_n 0, 1) := by decide +kernel
theorem d_Model_keep_71 : decode b_Model_keep 71 = .ok (.getfield 35, 3) := by decide +kernel
theorem d_Model_keep_74 : decode b_Model_keep 74 = .ok (.iload_n 2, 1) := by decide +kernel
theorem d_Model_keep_75 : decode b_Model_keep 75 = .ok (.iaload, 1) := by decide +kernel
theorem d_Model_keep_76 : decode b_Model_keep 76 = .ok (.iastore, 1) := by decide +kernel
theorem d_Model_keep_77 : decode b_Model_keep 77 = .ok (.aload_n 0, 1) := by decide +kernel
theorem d_Model_keep_78 : decode b_Model_keep 78 = .ok (.getfield 68, 3) := by decide +kernel
theorem d_Model_keep_81 : decode b_Model_keep 81 = .ok (.bipush 8, 2) := by decide +kernel
theorem d_Model_keep_83 : decode b_Model_keep 83 = .ok (.iload_n 1, 1) := by decide +kernel
theorem d_Model_keep_84 : decode b_Model_keep 84 = .ok (.imul, 1) := by decide +kernel
theorem d_Model_keep_85 : decode b_Model_keep 85 = .ok (.iload_n 2, 1) := by decide +kernel
theorem d_Model_keep_86 : decode b_Model_keep 86 = .ok (.iadd, 1) := by decide +kernel
theorem d_Model_keep_87 : decode b_Model_keep 87 = .ok (.aload_n 0, 1) := by decide +kernel
theorem d_Model_keep_88 : decode b_Model_keep 88 = .ok (.getfield 41, 3) := by decide +kernel
theorem d_Model_keep_91 : decode b_Model_keep 91 = .ok (.iload_n 2, 1) := by decide +kernel
theorem d_Model_keep_92 : decode b_Model_keep 92 = .ok (.iaload, 1) := by decide +kernel
theorem d_Model_keep_93 : decode b_Model_keep 93 = .ok (.iastore, 1) := by decide +kernel
theorem d_Model_keep_94 : decode b_Model_keep 94 = .ok (.iinc 2 1, 3) := by decide +kernel
theorem d_Model_keep_97 : decode b_Model_keep 97 = .ok (.goto (-43), 3) := by decide +kernel
theorem d_Model_keep_100 : decode b_Model_keep 100 = .ok (.iconst 0, 1) := by decide +kernel
theorem d_Model_keep_101 : decode b_Model_keep 101 = .ok (.istore_n 2, 1) := by decide +kernel
theorem d_Model_keep_102 : decode b_Model_keep 102 = .ok (.iload_n 2, 1) := by decide +kernel
theorem d_Model_keep_103 : decode b_Model_keep 103 = .ok (.bipush 27, 2) := by decide +kernel
theorem d_Model_keep_105 : decode b_Model_keep 105 = .ok (.aload_n 0, 1) := by decide +kernel
theorem d_Model_keep_106 : decode b_Model_keep 106 = .ok (.getfield 189, 3) := by decide +kernel
theorem d_Model_keep_109 : decode b_Model_keep 109 = .ok (.imul, 1) := by decide +kernel
theorem d_Model_keep_110 : decode b_Model_keep 110 = .ok (.if_icmp .ge 27, 3) := by decide +kernel
theorem d_Model_keep_113 : decode b_Model_keep 113 = .ok (.aload_n 0, 1) := by decide +kernel
theorem d_Model_keep_114 : decode b_Model_keep 114 = .ok (.getfield 74, 3) := by decide +kernel
theorem d_Model_keep_117 : decode b_Model_keep 117 = .ok (.sipush 1620, 3) := by decide +kernel
theorem d_Model_keep_120 : decode b_Model_keep 120 = .ok (.iload_n 1, 1) := by decide +kernel
theorem d_Model_keep_121 : decode b_Model_keep 121 = .ok (.imul, 1) := by decide +kernel
theorem d_Model_keep_122 : decode b_Model_keep 122 = .ok (.iload_n 2, 1) := by decide +kernel
theorem d_Model_keep_123 : decode b_Model_keep 123 = .ok (.iadd, 1) := by decide +kernel
theorem d_Model_keep_124 : decode b_Model_keep 124 = .ok (.aload_n 0, 1) := by decide +kernel
theorem d_Model_keep_125 : decode b_Model_keep 125 = .ok (.getfield 56, 3) := by decide +kernel
theorem d_Model_keep_128 : decode b_Model_keep 128 = .ok (.iload_n 2, 1) := by decide +kernel
theorem d_Model_keep_129 : decode b_Model_keep 129 = .ok (.iaload, 1) := by decide +kernel
theorem d_Model_keep_130 : decode b_Model_keep 130 = .ok (.iastore, 1) := by decide +kernel
theorem d_Model_keep_131 : decode b_Model_keep 131 = .ok (.iinc 2 1, 3) := by decide +kernel
theorem d_Model_keep_134 : decode b_Model_keep 134 = .ok (.goto (-32), 3) := by decide +kernel
theorem d_Model_keep_137 : decode b_Model_keep 137 = .ok (.aload_n 0, 1) := by decide +kernel
theorem d_Model_keep_138 : decode b_Model_keep 138 = .ok (.getfield 71, 3) := by decide +kernel
theorem d_Model_keep_141 : decode b_Model_keep 141 = .ok (.iload_n 1, 1) := by decide +kernel
theorem d_Model_keep_142 : decode b_Model_keep 142 = .ok (.aload_n 0, 1) := by decide +kernel
theorem d_Model_keep_143 : decode b_Model_keep 143 = .ok (.getfield 179, 3) := by decide +kernel
theorem d_Model_keep_146 : decode b_Model_keep 146 = .ok (.iastore, 1) := by decide +kernel
theorem d_Model_keep_147 : decode b_Model_keep 147 = .ok (.aload_n 0, 1) := by decide +kernel
theorem d_Model_keep_148 : decode b_Model_keep 148 = .ok (.getfield 59, 3) := by decide +kernel
theorem d_Model_keep_151 : decode b_Model_keep 151 = .ok (.iload_n 1, 1) := by decide +kernel
theorem d_Model_keep_152 : decode b_Model_keep 152 = .ok (.aload_n 0, 1) := by decide +kernel
theorem d_Model_keep_153 : decode b_Model_keep 153 = .ok (.getfield 189, 3) := by decide +kernel
theorem d_Model_keep_156 : decode b_Model_keep 156 = .ok (.iastore, 1) := by decide +kernel
theorem d_Model_keep_157 : decode b_Model_keep 157 = .ok (.aload_n 0, 1) := by decide +kernel
theorem d_Model_keep_158 : decode b_Model_keep 158 = .ok (.getfield 77, 3) := by decide +kernel
theorem d_Model_keep_161 : decode b_Model_keep 161 = .ok (.iload_n 1, 1) := by decide +kernel
theorem d_Model_keep_162 : decode b_Model_keep 162 = .ok (.iconst 1, 1) := by decide +kernel
theorem d_Model_keep_163 : decode b_Model_keep 163 = .ok (.bastore, 1) := by decide +kernel
theorem d_Model_keep_164 : decode b_Model_keep 164 = .ok (.aload_n 0, 1) := by decide +kernel
theorem d_Model_keep_165 : decode b_Model_keep 165 = .ok (.getfield 189, 3) := by decide +kernel
theorem d_Model_keep_168 : decode b_Model_keep 168 = .ok (.ireturn, 1) := by decide +kernel
abbrev b_Model_isThere : ByteArray := prog_11_method_54_code
abbrev y_Model_isThere : MethodName := ⟨"RiverTuesdaysModel", "isThere", "(I)Z"⟩
theorem ok_Model_isThere : okV y_Model_isThere b_Model_isThere 2 (some .boolean) 1 9 := ⟨mGW (List.mem_of_getElem? (i := 1416) (by decide +kernel)) rfl, mGW (List.mem_of_getElem? (i := 54) (by decide +kernel)) rfl, mGW (List.mem_of_getElem? (i := 83) (by decide +kernel)) rfl, mGW (List.mem_of_getElem? (i := 1417) (by decide +kernel)) rfl, ⟨by decide, by decide, by decide +kernel⟩, rfl⟩
theorem d_Model_isThere_0 : decode b_Model_isThere 0 = .ok (.aload_n 0, 1) := by decide +kernel
theorem d_Model_isThere_1 : decode b_Model_isThere 1 = .ok (.getfield 77, 3) := by decide +kernel
theorem d_Model_isThere_4 : decode b_Model_isThere 4 = .ok (.iload_n 1, 1) := by decide +kernel
theorem d_Model_isThere_5 : decode b_Model_isThere 5 = .ok (.baload, 1) := by decide +kernel
theorem d_Model_isThere_6 : decode b_Model_isThere 6 = .ok (.ifCond .eq 16, 3) := by decide +kernel
theorem d_Model_isThere_9 : decode b_Model_isThere 9 = .ok (.aload_n 0, 1) := by decide +kernel
theorem d_Model_isThere_10 : decode b_Model_isThere 10 = .ok (.getfield 59, 3) := by decide +kernel
theorem d_Model_isThere_13 : decode b_Model_isThere 13 = .ok (.iload_n 1, 1) := by decide +kernel
theorem d_Model_isThere_14 : decode b_Model_isThere 14 = .ok (.iaload, 1) := by decide +kernel
theorem d_Model_isThere_15 : decode b_Model_isThere 15 = .ok (.ifCond .lt 7, 3) := by decide +kernel
theorem d_Model_isThere_18 : decode b_Model_isThere 18 = .ok (.iconst 1, 1) := by decide +kernel
theorem d_Model_isThere_19 : decode b_Model_isThere 19 = .ok (.goto 4, 3) := by decide +kernel
theorem d_Model_isThere_22 : decode b_Model_isThere 22 = .ok (.iconst 0, 1) := by decide +kernel
theorem d_Model_isThere_23 : decode b_Model_isThere 23 = .ok (.ireturn, 1) := by decide +kernel
abbrev b_Model_on : ByteArray := prog_11_method_55_code
abbrev y_Model_on : MethodName := ⟨"RiverTuesdaysModel", "on", "(I)I"⟩
theorem ok_Model_on : okV y_Model_on b_Model_on 3 (some .int) 1 9 := ⟨mGW (List.mem_of_getElem? (i := 1411) (by decide +kernel)) rfl, mGW (List.mem_of_getElem? (i := 1412) (by decide +kernel)) rfl, mGW (List.mem_of_getElem? (i := 83) (by decide +kernel)) rfl, mGW (List.mem_of_getElem? (i := 1413) (by decide +kernel)) rfl, ⟨by decide, by decide, by decide +kernel⟩, rfl⟩
theorem d_Model_on_0 : decode b_Model_on 0 = .ok (.iload_n 1, 1) := by decide +kernel
theorem d_Model_on_1 : decode b_Model_on 1 = .ok (.iconst 0, 1) := by decide +kernel
theorem d_Model_on_2 : decode b_Model_on 2 = .ok (.iconst 2, 1) := by decide +kernel
theorem d_Model_on_3 : decode b_Model_on 3 = .ok (.invokestatic 118, 3) := by decide +kernel
theorem d_Model_on_6 : decode b_Model_on 6 = .ok (.ifCond .ne 5, 3) := by decide +kernel
theorem d_Model_on_9 : decode b_Model_on 9 = .ok (.iconst (-1), 1) := by decide +kernel
theorem d_Model_on_10 : decode b_Model_on 10 = .ok (.ireturn, 1) := by decide +kernel
theorem d_Model_on_11 : decode b_Model_on 11 = .ok (.aload_n 0, 1) := by decide +kernel
theorem d_Model_on_12 : decode b_Model_on 12 = .ok (.iload_n 1, 1) := by decide +kernel
theorem d_Model_on_13 : decode b_Model_on 13 = .ok (.invokevirtual 239, 3) := by decide +kernel
theorem d_Model_on_16 : decode b_Model_on 16 = .ok (.ifCond .ne 9, 3) := by decide +kernel
theorem d_Model_on_19 : decode b_Model_on 19 = .ok (.aload_n 0, 1) := by decide +kernel
theorem d_Model_on_20 : decode b_Model_on 20 = .ok (.iconst 1, 1) := by decide +kernel
theorem d_Model_on_21 : decode b_Model_on 21 = .ok (.invokevirtual 129, 3) := by decide +kernel
theorem d_Model_on_24 : decode b_Model_on 24 = .ok (.ireturn, 1) := by decide +kernel
theorem d_Model_on_25 : decode b_Model_on 25 = .ok (.aload_n 0, 1) := by decide +kernel
theorem d_Model_on_26 : decode b_Model_on 26 = .ok (.aload_n 0, 1) := by decide +kernel
theorem d_Model_on_27 : decode b_Model_on 27 = .ok (.getfield 59, 3) := by decide +kernel
theorem d_Model_on_30 : decode b_Model_on 30 = .ok (.iload_n 1, 1) := by decide +kernel
theorem d_Model_on_31 : decode b_Model_on 31 = .ok (.iaload, 1) := by decide +kernel
theorem d_Model_on_32 : decode b_Model_on 32 = .ok (.putfield 189, 3) := by decide +kernel
theorem d_Model_on_35 : decode b_Model_on 35 = .ok (.aload_n 0, 1) := by decide +kernel
theorem d_Model_on_36 : decode b_Model_on 36 = .ok (.aload_n 0, 1) := by decide +kernel
theorem d_Model_on_37 : decode b_Model_on 37 = .ok (.getfield 71, 3) := by decide +kernel
theorem d_Model_on_40 : decode b_Model_on 40 = .ok (.iload_n 1, 1) := by decide +kernel
theorem d_Model_on_41 : decode b_Model_on 41 = .ok (.iaload, 1) := by decide +kernel
theorem d_Model_on_42 : decode b_Model_on 42 = .ok (.putfield 179, 3) := by decide +kernel
theorem d_Model_on_45 : decode b_Model_on 45 = .ok (.iconst 0, 1) := by decide +kernel
theorem d_Model_on_46 : decode b_Model_on 46 = .ok (.istore_n 2, 1) := by decide +kernel
theorem d_Model_on_47 : decode b_Model_on 47 = .ok (.iload_n 2, 1) := by decide +kernel
theorem d_Model_on_48 : decode b_Model_on 48 = .ok (.bipush 26, 2) := by decide +kernel
theorem d_Model_on_50 : decode b_Model_on 50 = .ok (.if_icmp .ge 26, 3) := by decide +kernel
theorem d_Model_on_53 : decode b_Model_on 53 = .ok (.aload_n 0, 1) := by decide +kernel
theorem d_Model_on_54 : decode b_Model_on 54 = .ok (.iconst 0, 1) := by decide +kernel
theorem d_Model_on_55 : decode b_Model_on 55 = .ok (.iload_n 2, 1) := by decide +kernel
theorem d_Model_on_56 : decode b_Model_on 56 = .ok (.aload_n 0, 1) := by decide +kernel
theorem d_Model_on_57 : decode b_Model_on 57 = .ok (.getfield 62, 3) := by decide +kernel
theorem d_Model_on_60 : decode b_Model_on 60 = .ok (.bipush 26, 2) := by decide +kernel
theorem d_Model_on_62 : decode b_Model_on 62 = .ok (.iload_n 1, 1) := by decide +kernel
theorem d_Model_on_63 : decode b_Model_on 63 = .ok (.imul, 1) := by decide +kernel
theorem d_Model_on_64 : decode b_Model_on 64 = .ok (.iload_n 2, 1) := by decide +kernel
theorem d_Model_on_65 : decode b_Model_on 65 = .ok (.iadd, 1) := by decide +kernel
theorem d_Model_on_66 : decode b_Model_on 66 = .ok (.iaload, 1) := by decide +kernel
theorem d_Model_on_67 : decode b_Model_on 67 = .ok (.invokevirtual 185, 3) := by decide +kernel
theorem d_Model_on_70 : decode b_Model_on 70 = .ok (.iinc 2 1, 3) := by decide +kernel
theorem d_Model_on_73 : decode b_Model_on 73 = .ok (.goto (-26), 3) := by decide +kernel
theorem d_Model_on_76 : decode b_Model_on 76 = .ok (.iconst 0, 1) := by decide +kernel
theorem d_Model_on_77 : decode b_Model_on 77 = .ok (.istore_n 2, 1) := by decide +kernel
theorem d_Model_on_78 : decode b_Model_on 78 = .ok (.iload_n 2, 1) := by decide +kernel
theorem d_Model_on_79 : decode b_Model_on 79 = .ok (.bipush 8, 2) := by decide +kernel
theorem d_Model_on_81 : decode b_Model_on 81 = .ok (.if_icmp .ge 43, 3) := by decide +kernel
theorem d_Model_on_84 : decode b_Model_on 84 = .ok (.aload_n 0, 1) := by decide +kernel
theorem d_Model_on_85 : decode b_Model_on 85 = .ok (.getfield 35, 3) := by decide +kernel
theorem d_Model_on_88 : decode b_Model_on 88 = .ok (.iload_n 2, 1) := by decide +kernel
theorem d_Model_on_89 : decode b_Model_on 89 = .ok (.aload_n 0, 1) := by decide +kernel
theorem d_Model_on_90 : decode b_Model_on 90 = .ok (.getfield 65, 3) := by decide +kernel
theorem d_Model_on_93 : decode b_Model_on 93 = .ok (.bipush 8, 2) := by decide +kernel
theorem d_Model_on_95 : decode b_Model_on 95 = .ok (.iload_n 1, 1) := by decide +kernel
theorem d_Model_on_96 : decode b_Model_on 96 = .ok (.imul, 1) := by decide +kernel
theorem d_Model_on_97 : decode b_Model_on 97 = .ok (.iload_n 2, 1) := by decide +kernel
theorem d_Model_on_98 : decode b_Model_on 98 = .ok (.iadd, 1) := by decide +kernel
theorem d_Model_on_99 : decode b_Model_on 99 = .ok (.iaload, 1) := by decide +kernel
theorem d_Model_on_100 : decode b_Model_on 100 = .ok (.iastore, 1) := by decide +kernel
theorem d_Model_on_101 : decode b_Model_on 101 = .ok (.aload_n 0, 1) := by decide +kernel
theorem d_Model_on_102 : decode b_Model_on 102 = .ok (.getfield 41, 3) := by decide +kernel
theorem d_Model_on_105 : decode b_Model_on 105 = .ok (.iload_n 2, 1) := by decide +kernel
theorem d_Model_on_106 : decode b_Model_on 106 = .ok (.aload_n 0, 1) := by decide +kernel
theorem d_Model_on_107 : decode b_Model_on 107 = .ok (.getfield 68, 3) := by decide +kernel
theorem d_Model_on_110 : decode b_Model_on 110 = .ok (.bipush 8, 2) := by decide +kernel
theorem d_Model_on_112 : decode b_Model_on 112 = .ok (.iload_n 1, 1) := by decide +kernel
theorem d_Model_on_113 : decode b_Model_on 113 = .ok (.imul, 1) := by decide +kernel
theorem d_Model_on_114 : decode b_Model_on 114 = .ok (.iload_n 2, 1) := by decide +kernel
theorem d_Model_on_115 : decode b_Model_on 115 = .ok (.iadd, 1) := by decide +kernel
theorem d_Model_on_116 : decode b_Model_on 116 = .ok (.iaload, 1) := by decide +kernel
theorem d_Model_on_117 : decode b_Model_on 117 = .ok (.iastore, 1) := by decide +kernel
theorem d_Model_on_118 : decode b_Model_on 118 = .ok (.iinc 2 1, 3) := by decide +kernel
theorem d_Model_on_121 : decode b_Model_on 121 = .ok (.goto (-43), 3) := by decide +kernel
theorem d_Model_on_124 : decode b_Model_on 124 = .ok (.iconst 0, 1) := by decide +kernel
theorem d_Model_on_125 : decode b_Model_on 125 = .ok (.istore_n 2, 1) := by decide +kernel
theorem d_Model_on_126 : decode b_Model_on 126 = .ok (.iload_n 2, 1) := by decide +kernel
theorem d_Model_on_127 : decode b_Model_on 127 = .ok (.bipush 27, 2) := by decide +kernel
theorem d_Model_on_129 : decode b_Model_on 129 = .ok (.aload_n 0, 1) := by decide +kernel
theorem d_Model_on_130 : decode b_Model_on 130 = .ok (.getfield 189, 3) := by decide +kernel
theorem d_Model_on_133 : decode b_Model_on 133 = .ok (.imul, 1) := by decide +kernel
theorem d_Model_on_134 : decode b_Model_on 134 = .ok (.if_icmp .ge 27, 3) := by decide +kernel
theorem d_Model_on_137 : decode b_Model_on 137 = .ok (.aload_n 0, 1) := by decide +kernel
theorem d_Model_on_138 : decode b_Model_on 138 = .ok (.getfield 56, 3) := by decide +kernel
theorem d_Model_on_141 : decode b_Model_on 141 = .ok (.iload_n 2, 1) := by decide +kernel
theorem d_Model_on_142 : decode b_Model_on 142 = .ok (.aload_n 0, 1) := by decide +kernel
theorem d_Model_on_143 : decode b_Model_on 143 = .ok (.getfield 74, 3) := by decide +kernel
theorem d_Model_on_146 : decode b_Model_on 146 = .ok (.sipush 1620, 3) := by decide +kernel
theorem d_Model_on_149 : decode b_Model_on 149 = .ok (.iload_n 1, 1) := by decide +kernel
theorem d_Model_on_150 : decode b_Model_on 150 = .ok (.imul, 1) := by decide +kernel
theorem d_Model_on_151 : decode b_Model_on 151 = .ok (.iload_n 2, 1) := by decide +kernel
theorem d_Model_on_152 : decode b_Model_on 152 = .ok (.iadd, 1) := by decide +kernel
theorem d_Model_on_153 : decode b_Model_on 153 = .ok (.iaload, 1) := by decide +kernel
theorem d_Model_on_154 : decode b_Model_on 154 = .ok (.iastore, 1) := by decide +kernel
theorem d_Model_on_155 : decode b_Model_on 155 = .ok (.iinc 2 1, 3) := by decide +kernel
theorem d_Model_on_158 : decode b_Model_on 158 = .ok (.goto (-32), 3) := by decide +kernel
theorem d_Model_on_161 : decode b_Model_on 161 = .ok (.aload_n 0, 1) := by decide +kernel
theorem d_Model_on_162 : decode b_Model_on 162 = .ok (.getfield 189, 3) := by decide +kernel
theorem d_Model_on_165 : decode b_Model_on 165 = .ok (.ireturn, 1) := by decide +kernel
abbrev b_Model_noTuesday : ByteArray := prog_11_method_56_code
abbrev y_Model_noTuesday : MethodName := ⟨"RiverTuesdaysModel", "noTuesday", "()V"⟩
theorem ok_Model_noTuesday : okV y_Model_noTuesday b_Model_noTuesday 2 none 0 9 := ⟨mGW (List.mem_of_getElem? (i := 1439) (by decide +kernel)) rfl, mGW (List.mem_of_getElem? (i := 58) (by decide +kernel)) rfl, mGW (List.mem_of_getElem? (i := 83) (by decide +kernel)) rfl, mGW (List.mem_of_getElem? (i := 1440) (by decide +kernel)) rfl, ⟨by decide, by decide, by decide +kernel⟩, rfl⟩
theorem d_Model_noTuesday_0 : decode b_Model_noTuesday 0 = .ok (.aload_n 0, 1) := by decide +kernel
theorem d_Model_noTuesday_1 : decode b_Model_noTuesday 1 = .ok (.iconst 0, 1) := by decide +kernel
theorem d_Model_noTuesday_2 : decode b_Model_noTuesday 2 = .ok (.putfield 242, 3) := by decide +kernel
theorem d_Model_noTuesday_5 : decode b_Model_noTuesday 5 = .ok (.aload_n 0, 1) := by decide +kernel
theorem d_Model_noTuesday_6 : decode b_Model_noTuesday 6 = .ok (.iconst 0, 1) := by decide +kernel
theorem d_Model_noTuesday_7 : decode b_Model_noTuesday 7 = .ok (.putfield 245, 3) := by decide +kernel
theorem d_Model_noTuesday_10 : decode b_Model_noTuesday 10 = .ok (.iconst 0, 1) := by decide +kernel
theorem d_Model_noTuesday_11 : decode b_Model_noTuesday 11 = .ok (.istore_n 1, 1) := by decide +kernel
theorem d_Model_noTuesday_12 : decode b_Model_noTuesday 12 = .ok (.iload_n 1, 1) := by decide +kernel
theorem d_Model_noTuesday_13 : decode b_Model_noTuesday 13 = .ok (.bipush 8, 2) := by decide +kernel
theorem d_Model_noTuesday_15 : decode b_Model_noTuesday 15 = .ok (.if_icmp .ge 24, 3) := by decide +kernel
theorem d_Model_noTuesday_18 : decode b_Model_noTuesday 18 = .ok (.aload_n 0, 1) := by decide +kernel
theorem d_Model_noTuesday_19 : decode b_Model_noTuesday 19 = .ok (.getfield 81, 3) := by decide +kernel
theorem d_Model_noTuesday_22 : decode b_Model_noTuesday 22 = .ok (.iload_n 1, 1) := by decide +kernel
theorem d_Model_noTuesday_23 : decode b_Model_noTuesday 23 = .ok (.bipush (-9), 2) := by decide +kernel
theorem d_Model_noTuesday_25 : decode b_Model_noTuesday 25 = .ok (.iastore, 1) := by decide +kernel
theorem d_Model_noTuesday_26 : decode b_Model_noTuesday 26 = .ok (.aload_n 0, 1) := by decide +kernel
theorem d_Model_noTuesday_27 : decode b_Model_noTuesday 27 = .ok (.getfield 87, 3) := by decide +kernel
theorem d_Model_noTuesday_30 : decode b_Model_noTuesday 30 = .ok (.iload_n 1, 1) := by decide +kernel
theorem d_Model_noTuesday_31 : decode b_Model_noTuesday 31 = .ok (.iconst 0, 1) := by decide +kernel
theorem d_Model_noTuesday_32 : decode b_Model_noTuesday 32 = .ok (.iastore, 1) := by decide +kernel
theorem d_Model_noTuesday_33 : decode b_Model_noTuesday 33 = .ok (.iinc 1 1, 3) := by decide +kernel
theorem d_Model_noTuesday_36 : decode b_Model_noTuesday 36 = .ok (.goto (-24), 3) := by decide +kernel
theorem d_Model_noTuesday_39 : decode b_Model_noTuesday 39 = .ok (.return_, 1) := by decide +kernel
abbrev b_Model_groundAll : ByteArray := prog_11_method_57_code
abbrev y_Model_groundAll : MethodName := ⟨"RiverTuesdaysModel", "groundAll", "(I)I"⟩
theorem ok_Model_groundAll : okV y_Model_groundAll b_Model_groundAll 4 (some .int) 1 9 := ⟨mGW (List.mem_of_getElem? (i := 1443) (by decide +kernel)) rfl, mGW (List.mem_of_getElem? (i := 59) (by decide +kernel)) rfl, mGW (List.mem_of_getElem? (i := 83) (by decide +kernel)) rfl, mGW (List.mem_of_getElem? (i := 1444) (by decide +kernel)) rfl, ⟨by decide, by decide, by decide +kernel⟩, rfl⟩
theorem d_Model_groundAll_0 : decode b_Model_groundAll 0 = .ok (.iconst 0, 1) := by decide +kernel
theorem d_Model_groundAll_1 : decode b_Model_groundAll 1 = .ok (.istore_n 2, 1) := by decide +kernel
theorem d_Model_groundAll_2 : decode b_Model_groundAll 2 = .ok (.iconst 0, 1) := by decide +kernel
theorem d_Model_groundAll_3 : decode b_Model_groundAll 3 = .ok (.istore_n 3, 1) := by decide +kernel
theorem d_Model_groundAll_4 : decode b_Model_groundAll 4 = .ok (.iload_n 3, 1) := by decide +kernel
theorem d_Model_groundAll_5 : decode b_Model_groundAll 5 = .ok (.aload_n 0, 1) := by decide +kernel
theorem d_Model_groundAll_6 : decode b_Model_groundAll 6 = .ok (.getfield 176, 3) := by decide +kernel
theorem d_Model_groundAll_9 : decode b_Model_groundAll 9 = .ok (.if_icmp .ge 21, 3) := by decide +kernel
theorem d_Model_groundAll_12 : decode b_Model_groundAll 12 = .ok (.iload_n 2, 1) := by decide +kernel
theorem d_Model_groundAll_13 : decode b_Model_groundAll 13 = .ok (.aload_n 0, 1) := by decide +kernel
theorem d_Model_groundAll_14 : decode b_Model_groundAll 14 = .ok (.iload_n 1, 1) := by decide +kernel
theorem d_Model_groundAll_15 : decode b_Model_groundAll 15 = .ok (.bipush 16, 2) := by decide +kernel
theorem d_Model_groundAll_17 : decode b_Model_groundAll 17 = .ok (.iload_n 3, 1) := by decide +kernel
theorem d_Model_groundAll_18 : decode b_Model_groundAll 18 = .ok (.iadd, 1) := by decide +kernel
theorem d_Model_groundAll_19 : decode b_Model_groundAll 19 = .ok (.invokevirtual 192, 3) := by decide +kernel
theorem d_Model_groundAll_22 : decode b_Model_groundAll 22 = .ok (.iadd, 1) := by decide +kernel
theorem d_Model_groundAll_23 : decode b_Model_groundAll 23 = .ok (.istore_n 2, 1) := by decide +kernel
theorem d_Model_groundAll_24 : decode b_Model_groundAll 24 = .ok (.iinc 3 1, 3) := by decide +kernel
theorem d_Model_groundAll_27 : decode b_Model_groundAll 27 = .ok (.goto (-23), 3) := by decide +kernel
theorem d_Model_groundAll_30 : decode b_Model_groundAll 30 = .ok (.iload_n 2, 1) := by decide +kernel
theorem d_Model_groundAll_31 : decode b_Model_groundAll 31 = .ok (.ireturn, 1) := by decide +kernel
abbrev b_Model_meetsHour : ByteArray := prog_11_method_58_code
abbrev y_Model_meetsHour : MethodName := ⟨"RiverTuesdaysModel", "meetsHour", "(II)V"⟩
theorem ok_Model_meetsHour : okV y_Model_meetsHour b_Model_meetsHour 4 none 2 9 := ⟨mGW (List.mem_of_getElem? (i := 1450) (by decide +kernel)) rfl, mGW (List.mem_of_getElem? (i := 60) (by decide +kernel)) rfl, mGW (List.mem_of_getElem? (i := 83) (by decide +kernel)) rfl, mGW (List.mem_of_getElem? (i := 1451) (by decide +kernel)) rfl, ⟨by decide, by decide, by decide +kernel⟩, rfl⟩
theorem d_Model_meetsHour_0 : decode b_Model_meetsHour 0 = .ok (.aload_n 0, 1) := by decide +kernel
theorem d_Model_meetsHour_1 : decode b_Model_meetsHour 1 = .ok (.getfield 84, 3) := by decide +kernel
theorem d_Model_meetsHour_4 : decode b_Model_meetsHour 4 = .ok (.iload_n 2, 1) := by decide +kernel
theorem d_Model_meetsHour_5 : decode b_Model_meetsHour 5 = .ok (.iconst 0, 1) := by decide +kernel
theorem d_Model_meetsHour_6 : decode b_Model_meetsHour 6 = .ok (.iastore, 1) := by decide +kernel
theorem d_Model_meetsHour_7 : decode b_Model_meetsHour 7 = .ok (.iconst 0, 1) := by decide +kernel
theorem d_Model_meetsHour_8 : decode b_Model_meetsHour 8 = .ok (.istore_n 3, 1) := by decide +kernel
theorem d_Model_meetsHour_9 : decode b_Model_meetsHour 9 = .ok (.iload_n 3, 1) := by decide +kernel
theorem d_Model_meetsHour_10 : decode b_Model_meetsHour 10 = .ok (.aload_n 0, 1) := by decide +kernel
theorem d_Model_meetsHour_11 : decode b_Model_meetsHour 11 = .ok (.getfield 176, 3) := by decide +kernel
theorem d_Model_meetsHour_14 : decode b_Model_meetsHour 14 = .ok (.if_icmp .ge 139, 3) := by decide +kernel
theorem d_Model_meetsHour_17 : decode b_Model_meetsHour 17 = .ok (.aload_n 0, 1) := by decide +kernel
theorem d_Model_meetsHour_18 : decode b_Model_meetsHour 18 = .ok (.dup, 1) := by decide +kernel
theorem d_Model_meetsHour_19 : decode b_Model_meetsHour 19 = .ok (.getfield 242, 3) := by decide +kernel
theorem d_Model_meetsHour_22 : decode b_Model_meetsHour 22 = .ok (.aload_n 0, 1) := by decide +kernel
theorem d_Model_meetsHour_23 : decode b_Model_meetsHour 23 = .ok (.getfield 53, 3) := by decide +kernel
theorem d_Model_meetsHour_26 : decode b_Model_meetsHour 26 = .ok (.iload_n 3, 1) := by decide +kernel
theorem d_Model_meetsHour_27 : decode b_Model_meetsHour 27 = .ok (.iaload, 1) := by decide +kernel
theorem d_Model_meetsHour_28 : decode b_Model_meetsHour 28 = .ok (.aload_n 0, 1) := by decide +kernel
theorem d_Model_meetsHour_29 : decode b_Model_meetsHour 29 = .ok (.getfield 29, 3) := by decide +kernel
theorem d_Model_meetsHour_32 : decode b_Model_meetsHour 32 = .ok (.iload_n 3, 1) := by decide +kernel
theorem d_Model_meetsHour_33 : decode b_Model_meetsHour 33 = .ok (.iaload, 1) := by decide +kernel
theorem d_Model_meetsHour_34 : decode b_Model_meetsHour 34 = .ok (.iconst 2, 1) := by decide +kernel
theorem d_Model_meetsHour_35 : decode b_Model_meetsHour 35 = .ok (.if_icmp .ne 7, 3) := by decide +kernel
theorem d_Model_meetsHour_38 : decode b_Model_meetsHour 38 = .ok (.iconst 2, 1) := by decide +kernel
theorem d_Model_meetsHour_39 : decode b_Model_meetsHour 39 = .ok (.goto 4, 3) := by decide +kernel
theorem d_Model_meetsHour_42 : decode b_Model_meetsHour 42 = .ok (.iconst 1, 1) := by decide +kernel
theorem d_Model_meetsHour_43 : decode b_Model_meetsHour 43 = .ok (.imul, 1) := by decide +kernel
theorem d_Model_meetsHour_44 : decode b_Model_meetsHour 44 = .ok (.iadd, 1) := by decide +kernel
theorem d_Model_meetsHour_45 : decode b_Model_meetsHour 45 = .ok (.putfield 242, 3) := by decide +kernel
theorem d_Model_meetsHour_48 : decode b_Model_meetsHour 48 = .ok (.aload_n 0, 1) := by decide +kernel
theorem d_Model_meetsHour_49 : decode b_Model_meetsHour 49 = .ok (.getfield 53, 3) := by decide +kernel
theorem d_Model_meetsHour_52 : decode b_Model_meetsHour 52 = .ok (.iload_n 3, 1) := by decide +kernel
theorem d_Model_meetsHour_53 : decode b_Model_meetsHour 53 = .ok (.iaload, 1) := by decide +kernel
theorem d_Model_meetsHour_54 : decode b_Model_meetsHour 54 = .ok (.ifCond .le 42, 3) := by decide +kernel
theorem d_Model_meetsHour_57 : decode b_Model_meetsHour 57 = .ok (.aload_n 0, 1) := by decide +kernel
theorem d_Model_meetsHour_58 : decode b_Model_meetsHour 58 = .ok (.getfield 81, 3) := by decide +kernel
theorem d_Model_meetsHour_61 : decode b_Model_meetsHour 61 = .ok (.iload_n 3, 1) := by decide +kernel
theorem d_Model_meetsHour_62 : decode b_Model_meetsHour 62 = .ok (.aload_n 0, 1) := by decide +kernel
theorem d_Model_meetsHour_63 : decode b_Model_meetsHour 63 = .ok (.getfield 245, 3) := by decide +kernel
theorem d_Model_meetsHour_66 : decode b_Model_meetsHour 66 = .ok (.iload_n 3, 1) := by decide +kernel
theorem d_Model_meetsHour_67 : decode b_Model_meetsHour 67 = .ok (.invokestatic 248, 3) := by decide +kernel
theorem d_Model_meetsHour_70 : decode b_Model_meetsHour 70 = .ok (.ifCond .eq 12, 3) := by decide +kernel
theorem d_Model_meetsHour_73 : decode b_Model_meetsHour 73 = .ok (.aload_n 0, 1) := by decide +kernel
theorem d_Model_meetsHour_74 : decode b_Model_meetsHour 74 = .ok (.getfield 81, 3) := by decide +kernel
theorem d_Model_meetsHour_77 : decode b_Model_meetsHour 77 = .ok (.iload_n 3, 1) := by decide +kernel
theorem d_Model_meetsHour_78 : decode b_Model_meetsHour 78 = .ok (.iaload, 1) := by decide +kernel
theorem d_Model_meetsHour_79 : decode b_Model_meetsHour 79 = .ok (.goto 4, 3) := by decide +kernel
theorem d_Model_meetsHour_82 : decode b_Model_meetsHour 82 = .ok (.iload_n 2, 1) := by decide +kernel
theorem d_Model_meetsHour_83 : decode b_Model_meetsHour 83 = .ok (.iastore, 1) := by decide +kernel
theorem d_Model_meetsHour_84 : decode b_Model_meetsHour 84 = .ok (.aload_n 0, 1) := by decide +kernel
theorem d_Model_meetsHour_85 : decode b_Model_meetsHour 85 = .ok (.dup, 1) := by decide +kernel
theorem d_Model_meetsHour_86 : decode b_Model_meetsHour 86 = .ok (.getfield 245, 3) := by decide +kernel
theorem d_Model_meetsHour_89 : decode b_Model_meetsHour 89 = .ok (.iconst 1, 1) := by decide +kernel
theorem d_Model_meetsHour_90 : decode b_Model_meetsHour 90 = .ok (.iload_n 3, 1) := by decide +kernel
theorem d_Model_meetsHour_91 : decode b_Model_meetsHour 91 = .ok (.ishl, 1) := by decide +kernel
theorem d_Model_meetsHour_92 : decode b_Model_meetsHour 92 = .ok (.ior, 1) := by decide +kernel
theorem d_Model_meetsHour_93 : decode b_Model_meetsHour 93 = .ok (.putfield 245, 3) := by decide +kernel
theorem d_Model_meetsHour_96 : decode b_Model_meetsHour 96 = .ok (.aload_n 0, 1) := by decide +kernel
theorem d_Model_meetsHour_97 : decode b_Model_meetsHour 97 = .ok (.getfield 87, 3) := by decide +kernel
theorem d_Model_meetsHour_100 : decode b_Model_meetsHour 100 = .ok (.iload_n 3, 1) := by decide +kernel
theorem d_Model_meetsHour_101 : decode b_Model_meetsHour 101 = .ok (.aload_n 0, 1) := by decide +kernel
theorem d_Model_meetsHour_102 : decode b_Model_meetsHour 102 = .ok (.getfield 87, 3) := by decide +kernel
theorem d_Model_meetsHour_105 : decode b_Model_meetsHour 105 = .ok (.iload_n 3, 1) := by decide +kernel
theorem d_Model_meetsHour_106 : decode b_Model_meetsHour 106 = .ok (.iaload, 1) := by decide +kernel
theorem d_Model_meetsHour_107 : decode b_Model_meetsHour 107 = .ok (.aload_n 0, 1) := by decide +kernel
theorem d_Model_meetsHour_108 : decode b_Model_meetsHour 108 = .ok (.iload_n 1, 1) := by decide +kernel
theorem d_Model_meetsHour_109 : decode b_Model_meetsHour 109 = .ok (.iconst 0, 1) := by decide +kernel
theorem d_Model_meetsHour_110 : decode b_Model_meetsHour 110 = .ok (.iload_n 3, 1) := by decide +kernel
theorem d_Model_meetsHour_111 : decode b_Model_meetsHour 111 = .ok (.iadd, 1) := by decide +kernel
theorem d_Model_meetsHour_112 : decode b_Model_meetsHour 112 = .ok (.invokevirtual 192, 3) := by decide +kernel
theorem d_Model_meetsHour_115 : decode b_Model_meetsHour 115 = .ok (.invokestatic 213, 3) := by decide +kernel
theorem d_Model_meetsHour_118 : decode b_Model_meetsHour 118 = .ok (.iastore, 1) := by decide +kernel
theorem d_Model_meetsHour_119 : decode b_Model_meetsHour 119 = .ok (.aload_n 0, 1) := by decide +kernel
theorem d_Model_meetsHour_120 : decode b_Model_meetsHour 120 = .ok (.getfield 84, 3) := by decide +kernel
theorem d_Model_meetsHour_123 : decode b_Model_meetsHour 123 = .ok (.iload_n 2, 1) := by decide +kernel
theorem d_Model_meetsHour_124 : decode b_Model_meetsHour 124 = .ok (.dup2, 1) := by decide +kernel
theorem d_Model_meetsHour_125 : decode b_Model_meetsHour 125 = .ok (.iaload, 1) := by decide +kernel
theorem d_Model_meetsHour_126 : decode b_Model_meetsHour 126 = .ok (.aload_n 0, 1) := by decide +kernel
theorem d_Model_meetsHour_127 : decode b_Model_meetsHour 127 = .ok (.iload_n 1, 1) := by decide +kernel
theorem d_Model_meetsHour_128 : decode b_Model_meetsHour 128 = .ok (.iconst 0, 1) := by decide +kernel
theorem d_Model_meetsHour_129 : decode b_Model_meetsHour 129 = .ok (.iload_n 3, 1) := by decide +kernel
theorem d_Model_meetsHour_130 : decode b_Model_meetsHour 130 = .ok (.iadd, 1) := by decide +kernel
theorem d_Model_meetsHour_131 : decode b_Model_meetsHour 131 = .ok (.invokevirtual 192, 3) := by decide +kernel
theorem d_Model_meetsHour_134 : decode b_Model_meetsHour 134 = .ok (.iconst 2, 1) := by decide +kernel
theorem d_Model_meetsHour_135 : decode b_Model_meetsHour 135 = .ok (.if_icmp .lt 9, 3) := by decide +kernel
theorem d_Model_meetsHour_138 : decode b_Model_meetsHour 138 = .ok (.iconst 1, 1) := by decide +kernel
theorem d_Model_meetsHour_139 : decode b_Model_meetsHour 139 = .ok (.iload_n 3, 1) := by decide +kernel
theorem d_Model_meetsHour_140 : decode b_Model_meetsHour 140 = .ok (.ishl, 1) := by decide +kernel
theorem d_Model_meetsHour_141 : decode b_Model_meetsHour 141 = .ok (.goto 4, 3) := by decide +kernel
theorem d_Model_meetsHour_144 : decode b_Model_meetsHour 144 = .ok (.iconst 0, 1) := by decide +kernel
theorem d_Model_meetsHour_145 : decode b_Model_meetsHour 145 = .ok (.ior, 1) := by decide +kernel
theorem d_Model_meetsHour_146 : decode b_Model_meetsHour 146 = .ok (.iastore, 1) := by decide +kernel
theorem d_Model_meetsHour_147 : decode b_Model_meetsHour 147 = .ok (.iinc 3 1, 3) := by decide +kernel
theorem d_Model_meetsHour_150 : decode b_Model_meetsHour 150 = .ok (.goto (-141), 3) := by decide +kernel
theorem d_Model_meetsHour_153 : decode b_Model_meetsHour 153 = .ok (.return_, 1) := by decide +kernel
abbrev b_Model_runAside : ByteArray := prog_11_method_59_code
abbrev y_Model_runAside : MethodName := ⟨"RiverTuesdaysModel", "runAside", "(I)V"⟩
theorem ok_Model_runAside : okV y_Model_runAside b_Model_runAside 5 none 1 9 := ⟨mGW (List.mem_of_getElem? (i := 1435) (by decide +kernel)) rfl, mGW (List.mem_of_getElem? (i := 57) (by decide +kernel)) rfl, mGW (List.mem_of_getElem? (i := 83) (by decide +kernel)) rfl, mGW (List.mem_of_getElem? (i := 1436) (by decide +kernel)) rfl, ⟨by decide, by decide, by decide +kernel⟩, rfl⟩
theorem d_Model_runAside_0 : decode b_Model_runAside 0 = .ok (.aload_n 0, 1) := by decide +kernel
theorem d_Model_runAside_1 : decode b_Model_runAside 1 = .ok (.invokevirtual 252, 3) := by decide +kernel
theorem d_Model_runAside_4 : decode b_Model_runAside 4 = .ok (.aload_n 0, 1) := by decide +kernel
theorem d_Model_runAside_5 : decode b_Model_runAside 5 = .ok (.iconst 1, 1) := by decide +kernel
theorem d_Model_runAside_6 : decode b_Model_runAside 6 = .ok (.invokevirtual 255, 3) := by decide +kernel
theorem d_Model_runAside_9 : decode b_Model_runAside 9 = .ok (.istore_n 2, 1) := by decide +kernel
theorem d_Model_runAside_10 : decode b_Model_runAside 10 = .ok (.aload_n 0, 1) := by decide +kernel
theorem d_Model_runAside_11 : decode b_Model_runAside 11 = .ok (.iconst 1, 1) := by decide +kernel
theorem d_Model_runAside_12 : decode b_Model_runAside 12 = .ok (.bipush 25, 2) := by decide +kernel
theorem d_Model_runAside_14 : decode b_Model_runAside 14 = .ok (.invokevirtual 192, 3) := by decide +kernel
theorem d_Model_runAside_17 : decode b_Model_runAside 17 = .ok (.istore_n 3, 1) := by decide +kernel
theorem d_Model_runAside_18 : decode b_Model_runAside 18 = .ok (.iconst 0, 1) := by decide +kernel
theorem d_Model_runAside_19 : decode b_Model_runAside 19 = .ok (.istore 4, 2) := by decide +kernel
theorem d_Model_runAside_21 : decode b_Model_runAside 21 = .ok (.iload 4, 2) := by decide +kernel
theorem d_Model_runAside_23 : decode b_Model_runAside 23 = .ok (.bipush 8, 2) := by decide +kernel
theorem d_Model_runAside_25 : decode b_Model_runAside 25 = .ok (.if_icmp .ge 27, 3) := by decide +kernel
theorem d_Model_runAside_28 : decode b_Model_runAside 28 = .ok (.aload_n 0, 1) := by decide +kernel
theorem d_Model_runAside_29 : decode b_Model_runAside 29 = .ok (.iconst 1, 1) := by decide +kernel
theorem d_Model_runAside_30 : decode b_Model_runAside 30 = .ok (.iload_n 1, 1) := by decide +kernel
theorem d_Model_runAside_31 : decode b_Model_runAside 31 = .ok (.iload 4, 2) := by decide +kernel
theorem d_Model_runAside_33 : decode b_Model_runAside 33 = .ok (.invokestatic 248, 3) := by decide +kernel
theorem d_Model_runAside_36 : decode b_Model_runAside 36 = .ok (.invokevirtual 225, 3) := by decide +kernel
theorem d_Model_runAside_39 : decode b_Model_runAside 39 = .ok (.aload_n 0, 1) := by decide +kernel
theorem d_Model_runAside_40 : decode b_Model_runAside 40 = .ok (.iconst 1, 1) := by decide +kernel
theorem d_Model_runAside_41 : decode b_Model_runAside 41 = .ok (.iload 4, 2) := by decide +kernel
theorem d_Model_runAside_43 : decode b_Model_runAside 43 = .ok (.invokevirtual 258, 3) := by decide +kernel
theorem d_Model_runAside_46 : decode b_Model_runAside 46 = .ok (.iinc 4 1, 3) := by decide +kernel
theorem d_Model_runAside_49 : decode b_Model_runAside 49 = .ok (.goto (-28), 3) := by decide +kernel
theorem d_Model_runAside_52 : decode b_Model_runAside 52 = .ok (.aload_n 0, 1) := by decide +kernel
theorem d_Model_runAside_53 : decode b_Model_runAside 53 = .ok (.aload_n 0, 1) := by decide +kernel
theorem d_Model_runAside_54 : decode b_Model_runAside 54 = .ok (.iconst 1, 1) := by decide +kernel
theorem d_Model_runAside_55 : decode b_Model_runAside 55 = .ok (.invokevirtual 255, 3) := by decide +kernel
theorem d_Model_runAside_58 : decode b_Model_runAside 58 = .ok (.iload_n 2, 1) := by decide +kernel
theorem d_Model_runAside_59 : decode b_Model_runAside 59 = .ok (.isub, 1) := by decide +kernel
theorem d_Model_runAside_60 : decode b_Model_runAside 60 = .ok (.putfield 262, 3) := by decide +kernel
theorem d_Model_runAside_63 : decode b_Model_runAside 63 = .ok (.aload_n 0, 1) := by decide +kernel
theorem d_Model_runAside_64 : decode b_Model_runAside 64 = .ok (.aload_n 0, 1) := by decide +kernel
theorem d_Model_runAside_65 : decode b_Model_runAside 65 = .ok (.iconst 1, 1) := by decide +kernel
theorem d_Model_runAside_66 : decode b_Model_runAside 66 = .ok (.bipush 25, 2) := by decide +kernel
theorem d_Model_runAside_68 : decode b_Model_runAside 68 = .ok (.invokevirtual 192, 3) := by decide +kernel
theorem d_Model_runAside_71 : decode b_Model_runAside 71 = .ok (.iload_n 3, 1) := by decide +kernel
theorem d_Model_runAside_72 : decode b_Model_runAside 72 = .ok (.isub, 1) := by decide +kernel
theorem d_Model_runAside_73 : decode b_Model_runAside 73 = .ok (.putfield 265, 3) := by decide +kernel
theorem d_Model_runAside_76 : decode b_Model_runAside 76 = .ok (.aload_n 0, 1) := by decide +kernel
theorem d_Model_runAside_77 : decode b_Model_runAside 77 = .ok (.aload_n 0, 1) := by decide +kernel
theorem d_Model_runAside_78 : decode b_Model_runAside 78 = .ok (.iconst 1, 1) := by decide +kernel
theorem d_Model_runAside_79 : decode b_Model_runAside 79 = .ok (.invokevirtual 236, 3) := by decide +kernel
theorem d_Model_runAside_82 : decode b_Model_runAside 82 = .ok (.putfield 268, 3) := by decide +kernel
theorem d_Model_runAside_85 : decode b_Model_runAside 85 = .ok (.return_, 1) := by decide +kernel
abbrev b_Model_layTuesday : ByteArray := prog_11_method_60_code
abbrev y_Model_layTuesday : MethodName := ⟨"RiverTuesdaysModel", "layTuesday", "(I)V"⟩
theorem ok_Model_layTuesday : okV y_Model_layTuesday b_Model_layTuesday 2 none 1 9 := ⟨mGW (List.mem_of_getElem? (i := 1431) (by decide +kernel)) rfl, mGW (List.mem_of_getElem? (i := 56) (by decide +kernel)) rfl, mGW (List.mem_of_getElem? (i := 83) (by decide +kernel)) rfl, mGW (List.mem_of_getElem? (i := 1432) (by decide +kernel)) rfl, ⟨by decide, by decide, by decide +kernel⟩, rfl⟩
theorem d_Model_layTuesday_0 : decode b_Model_layTuesday 0 = .ok (.aload_n 0, 1) := by decide +kernel
theorem d_Model_layTuesday_1 : decode b_Model_layTuesday 1 = .ok (.invokevirtual 222, 3) := by decide +kernel
theorem d_Model_layTuesday_4 : decode b_Model_layTuesday 4 = .ok (.aload_n 0, 1) := by decide +kernel
theorem d_Model_layTuesday_5 : decode b_Model_layTuesday 5 = .ok (.iload_n 1, 1) := by decide +kernel
theorem d_Model_layTuesday_6 : decode b_Model_layTuesday 6 = .ok (.invokevirtual 271, 3) := by decide +kernel
theorem d_Model_layTuesday_9 : decode b_Model_layTuesday 9 = .ok (.return_, 1) := by decide +kernel
abbrev b_Model_isPlan : ByteArray := prog_11_method_61_code
abbrev y_Model_isPlan : MethodName := ⟨"RiverTuesdaysModel", "isPlan", "(I)Z"⟩
theorem ok_Model_isPlan : okS y_Model_isPlan b_Model_isPlan 1 (some .boolean) 1 := ⟨mGW (List.mem_of_getElem? (i := 1427) (by decide +kernel)) rfl, mGW (List.mem_of_getElem? (i := 83) (by decide +kernel)) rfl, mGW (List.mem_of_getElem? (i := 1428) (by decide +kernel)) rfl, ⟨by decide, by decide, by decide +kernel⟩⟩
theorem d_Model_isPlan_0 : decode b_Model_isPlan 0 = .ok (.iload_n 0, 1) := by decide +kernel
theorem d_Model_isPlan_1 : decode b_Model_isPlan 1 = .ok (.iconst 0, 1) := by decide +kernel
theorem d_Model_isPlan_2 : decode b_Model_isPlan 2 = .ok (.sipush 255, 3) := by decide +kernel
theorem d_Model_isPlan_5 : decode b_Model_isPlan 5 = .ok (.invokestatic 118, 3) := by decide +kernel
theorem d_Model_isPlan_8 : decode b_Model_isPlan 8 = .ok (.ireturn, 1) := by decide +kernel
abbrev b_Model_needTuesday : ByteArray := prog_11_method_62_code
abbrev y_Model_needTuesday : MethodName := ⟨"RiverTuesdaysModel", "needTuesday", "(ZI)I"⟩
theorem ok_Model_needTuesday : okV y_Model_needTuesday b_Model_needTuesday 3 (some .int) 2 9 := ⟨mGW (List.mem_of_getElem? (i := 1424) (by decide +kernel)) rfl, mGW (List.mem_of_getElem? (i := 55) (by decide +kernel)) rfl, mGW (List.mem_of_getElem? (i := 83) (by decide +kernel)) rfl, mGW (List.mem_of_getElem? (i := 1425) (by decide +kernel)) rfl, ⟨by decide, by decide, by decide +kernel⟩, rfl⟩
theorem d_Model_needTuesday_0 : decode b_Model_needTuesday 0 = .ok (.iload_n 1, 1) := by decide +kernel
theorem d_Model_needTuesday_1 : decode b_Model_needTuesday 1 = .ok (.ifCond .eq 10, 3) := by decide +kernel
theorem d_Model_needTuesday_4 : decode b_Model_needTuesday 4 = .ok (.iload_n 2, 1) := by decide +kernel
theorem d_Model_needTuesday_5 : decode b_Model_needTuesday 5 = .ok (.invokestatic 275, 3) := by decide +kernel
theorem d_Model_needTuesday_8 : decode b_Model_needTuesday 8 = .ok (.ifCond .ne 5, 3) := by decide +kernel
theorem d_Model_needTuesday_11 : decode b_Model_needTuesday 11 = .ok (.iconst (-1), 1) := by decide +kernel
theorem d_Model_needTuesday_12 : decode b_Model_needTuesday 12 = .ok (.ireturn, 1) := by decide +kernel
theorem d_Model_needTuesday_13 : decode b_Model_needTuesday 13 = .ok (.aload_n 0, 1) := by decide +kernel
theorem d_Model_needTuesday_14 : decode b_Model_needTuesday 14 = .ok (.getfield 176, 3) := by decide +kernel
theorem d_Model_needTuesday_17 : decode b_Model_needTuesday 17 = .ok (.ifCond .ne 6, 3) := by decide +kernel
theorem d_Model_needTuesday_20 : decode b_Model_needTuesday 20 = .ok (.bipush (-4), 2) := by decide +kernel
theorem d_Model_needTuesday_22 : decode b_Model_needTuesday 22 = .ok (.ireturn, 1) := by decide +kernel
theorem d_Model_needTuesday_23 : decode b_Model_needTuesday 23 = .ok (.aload_n 0, 1) := by decide +kernel
theorem d_Model_needTuesday_24 : decode b_Model_needTuesday 24 = .ok (.iload_n 2, 1) := by decide +kernel
theorem d_Model_needTuesday_25 : decode b_Model_needTuesday 25 = .ok (.invokevirtual 278, 3) := by decide +kernel
theorem d_Model_needTuesday_28 : decode b_Model_needTuesday 28 = .ok (.iconst 0, 1) := by decide +kernel
theorem d_Model_needTuesday_29 : decode b_Model_needTuesday 29 = .ok (.ireturn, 1) := by decide +kernel
abbrev b_Model_harm : ByteArray := prog_11_method_63_code
abbrev y_Model_harm : MethodName := ⟨"RiverTuesdaysModel", "harm", "(I)I"⟩
theorem ok_Model_harm : okV y_Model_harm b_Model_harm 3 (some .int) 1 9 := ⟨mGW (List.mem_of_getElem? (i := 1419) (by decide +kernel)) rfl, mGW (List.mem_of_getElem? (i := 1420) (by decide +kernel)) rfl, mGW (List.mem_of_getElem? (i := 83) (by decide +kernel)) rfl, mGW (List.mem_of_getElem? (i := 1421) (by decide +kernel)) rfl, ⟨by decide, by decide, by decide +kernel⟩, rfl⟩
theorem d_Model_harm_0 : decode b_Model_harm 0 = .ok (.aload_n 0, 1) := by decide +kernel
theorem d_Model_harm_1 : decode b_Model_harm 1 = .ok (.iconst 1, 1) := by decide +kernel
theorem d_Model_harm_2 : decode b_Model_harm 2 = .ok (.iload_n 1, 1) := by decide +kernel
theorem d_Model_harm_3 : decode b_Model_harm 3 = .ok (.invokevirtual 281, 3) := by decide +kernel
theorem d_Model_harm_6 : decode b_Model_harm 6 = .ok (.istore_n 2, 1) := by decide +kernel
theorem d_Model_harm_7 : decode b_Model_harm 7 = .ok (.iload_n 2, 1) := by decide +kernel
theorem d_Model_harm_8 : decode b_Model_harm 8 = .ok (.ifCond .ge 7, 3) := by decide +kernel
theorem d_Model_harm_11 : decode b_Model_harm 11 = .ok (.iload_n 2, 1) := by decide +kernel
theorem d_Model_harm_12 : decode b_Model_harm 12 = .ok (.goto 15, 3) := by decide +kernel
theorem d_Model_harm_15 : decode b_Model_harm 15 = .ok (.aload_n 0, 1) := by decide +kernel
theorem d_Model_harm_16 : decode b_Model_harm 16 = .ok (.aload_n 0, 1) := by decide +kernel
theorem d_Model_harm_17 : decode b_Model_harm 17 = .ok (.getfield 262, 3) := by decide +kernel
theorem d_Model_harm_20 : decode b_Model_harm 20 = .ok (.aload_n 0, 1) := by decide +kernel
theorem d_Model_harm_21 : decode b_Model_harm 21 = .ok (.getfield 242, 3) := by decide +kernel
theorem d_Model_harm_24 : decode b_Model_harm 24 = .ok (.invokevirtual 137, 3) := by decide +kernel
theorem d_Model_harm_27 : decode b_Model_harm 27 = .ok (.ireturn, 1) := by decide +kernel
abbrev b_Model_wet : ByteArray := prog_11_method_64_code
abbrev y_Model_wet : MethodName := ⟨"RiverTuesdaysModel", "wet", "(I)I"⟩
theorem ok_Model_wet : okV y_Model_wet b_Model_wet 3 (some .int) 1 9 := ⟨mGW (List.mem_of_getElem? (i := 1453) (by decide +kernel)) rfl, mGW (List.mem_of_getElem? (i := 1454) (by decide +kernel)) rfl, mGW (List.mem_of_getElem? (i := 83) (by decide +kernel)) rfl, mGW (List.mem_of_getElem? (i := 1455) (by decide +kernel)) rfl, ⟨by decide, by decide, by decide +kernel⟩, rfl⟩
theorem d_Model_wet_0 : decode b_Model_wet 0 = .ok (.aload_n 0, 1) := by decide +kernel
theorem d_Model_wet_1 : decode b_Model_wet 1 = .ok (.iconst 1, 1) := by decide +kernel
theorem d_Model_wet_2 : decode b_Model_wet 2 = .ok (.iload_n 1, 1) := by decide +kernel
theorem d_Model_wet_3 : decode b_Model_wet 3 = .ok (.invokevirtual 281, 3) := by decide +kernel
theorem d_Model_wet_6 : decode b_Model_wet 6 = .ok (.istore_n 2, 1) := by decide +kernel
theorem d_Model_wet_7 : decode b_Model_wet 7 = .ok (.iload_n 2, 1) := by decide +kernel
theorem d_Model_wet_8 : decode b_Model_wet 8 = .ok (.ifCond .ge 7, 3) := by decide +kernel
theorem d_Model_wet_11 : decode b_Model_wet 11 = .ok (.iload_n 2, 1) := by decide +kernel
theorem d_Model_wet_12 : decode b_Model_wet 12 = .ok (.goto 18, 3) := by decide +kernel
theorem d_Model_wet_15 : decode b_Model_wet 15 = .ok (.aload_n 0, 1) := by decide +kernel
theorem d_Model_wet_16 : decode b_Model_wet 16 = .ok (.aload_n 0, 1) := by decide +kernel
theorem d_Model_wet_17 : decode b_Model_wet 17 = .ok (.getfield 245, 3) := by decide +kernel
theorem d_Model_wet_20 : decode b_Model_wet 20 = .ok (.invokestatic 285, 3) := by decide +kernel
theorem d_Model_wet_23 : decode b_Model_wet 23 = .ok (.aload_n 0, 1) := by decide +kernel
theorem d_Model_wet_24 : decode b_Model_wet 24 = .ok (.getfield 245, 3) := by decide +kernel
theorem d_Model_wet_27 : decode b_Model_wet 27 = .ok (.invokevirtual 137, 3) := by decide +kernel
theorem d_Model_wet_30 : decode b_Model_wet 30 = .ok (.ireturn, 1) := by decide +kernel
abbrev b_Model_when : ByteArray := prog_11_method_65_code
abbrev y_Model_when : MethodName := ⟨"RiverTuesdaysModel", "when", "(II)I"⟩
theorem ok_Model_when : okV y_Model_when b_Model_when 4 (some .int) 2 9 := ⟨mGW (List.mem_of_getElem? (i := 1460) (by decide +kernel)) rfl, mGW (List.mem_of_getElem? (i := 1461) (by decide +kernel)) rfl, mGW (List.mem_of_getElem? (i := 83) (by decide +kernel)) rfl, mGW (List.mem_of_getElem? (i := 1462) (by decide +kernel)) rfl, ⟨by decide, by decide, by decide +kernel⟩, rfl⟩
theorem d_Model_when_0 : decode b_Model_when 0 = .ok (.aload_n 0, 1) := by decide +kernel
theorem d_Model_when_1 : decode b_Model_when 1 = .ok (.aload_n 0, 1) := by decide +kernel
theorem d_Model_when_2 : decode b_Model_when 2 = .ok (.iload_n 2, 1) := by decide +kernel
theorem d_Model_when_3 : decode b_Model_when 3 = .ok (.invokevirtual 216, 3) := by decide +kernel
theorem d_Model_when_6 : decode b_Model_when 6 = .ok (.iload_n 1, 1) := by decide +kernel
theorem d_Model_when_7 : decode b_Model_when 7 = .ok (.invokevirtual 281, 3) := by decide +kernel
theorem d_Model_when_10 : decode b_Model_when 10 = .ok (.istore_n 3, 1) := by decide +kernel
theorem d_Model_when_11 : decode b_Model_when 11 = .ok (.iload_n 3, 1) := by decide +kernel
theorem d_Model_when_12 : decode b_Model_when 12 = .ok (.ifCond .ge 7, 3) := by decide +kernel
theorem d_Model_when_15 : decode b_Model_when 15 = .ok (.iload_n 3, 1) := by decide +kernel
theorem d_Model_when_16 : decode b_Model_when 16 = .ok (.goto 9, 3) := by decide +kernel
theorem d_Model_when_19 : decode b_Model_when 19 = .ok (.aload_n 0, 1) := by decide +kernel
theorem d_Model_when_20 : decode b_Model_when 20 = .ok (.getfield 81, 3) := by decide +kernel
theorem d_Model_when_23 : decode b_Model_when 23 = .ok (.iload_n 2, 1) := by decide +kernel
theorem d_Model_when_24 : decode b_Model_when 24 = .ok (.iaload, 1) := by decide +kernel
theorem d_Model_when_25 : decode b_Model_when 25 = .ok (.ireturn, 1) := by decide +kernel
abbrev b_Model_cut : ByteArray := prog_11_method_66_code
abbrev y_Model_cut : MethodName := ⟨"RiverTuesdaysModel", "cut", "(II)I"⟩
theorem ok_Model_cut : okV y_Model_cut b_Model_cut 4 (some .int) 2 9 := ⟨mGW (List.mem_of_getElem? (i := 1464) (by decide +kernel)) rfl, mGW (List.mem_of_getElem? (i := 1465) (by decide +kernel)) rfl, mGW (List.mem_of_getElem? (i := 83) (by decide +kernel)) rfl, mGW (List.mem_of_getElem? (i := 1466) (by decide +kernel)) rfl, ⟨by decide, by decide, by decide +kernel⟩, rfl⟩
theorem d_Model_cut_0 : decode b_Model_cut 0 = .ok (.aload_n 0, 1) := by decide +kernel
theorem d_Model_cut_1 : decode b_Model_cut 1 = .ok (.iload_n 2, 1) := by decide +kernel
theorem d_Model_cut_2 : decode b_Model_cut 2 = .ok (.iconst 0, 1) := by decide +kernel
theorem d_Model_cut_3 : decode b_Model_cut 3 = .ok (.bipush 7, 2) := by decide +kernel
theorem d_Model_cut_5 : decode b_Model_cut 5 = .ok (.invokestatic 118, 3) := by decide +kernel
theorem d_Model_cut_8 : decode b_Model_cut 8 = .ok (.iload_n 1, 1) := by decide +kernel
theorem d_Model_cut_9 : decode b_Model_cut 9 = .ok (.invokevirtual 281, 3) := by decide +kernel
theorem d_Model_cut_12 : decode b_Model_cut 12 = .ok (.istore_n 3, 1) := by decide +kernel
theorem d_Model_cut_13 : decode b_Model_cut 13 = .ok (.iload_n 3, 1) := by decide +kernel
theorem d_Model_cut_14 : decode b_Model_cut 14 = .ok (.ifCond .ge 7, 3) := by decide +kernel
theorem d_Model_cut_17 : decode b_Model_cut 17 = .ok (.iload_n 3, 1) := by decide +kernel
theorem d_Model_cut_18 : decode b_Model_cut 18 = .ok (.goto 22, 3) := by decide +kernel
theorem d_Model_cut_21 : decode b_Model_cut 21 = .ok (.aload_n 0, 1) := by decide +kernel
theorem d_Model_cut_22 : decode b_Model_cut 22 = .ok (.aload_n 0, 1) := by decide +kernel
theorem d_Model_cut_23 : decode b_Model_cut 23 = .ok (.getfield 84, 3) := by decide +kernel
theorem d_Model_cut_26 : decode b_Model_cut 26 = .ok (.iload_n 2, 1) := by decide +kernel
theorem d_Model_cut_27 : decode b_Model_cut 27 = .ok (.iaload, 1) := by decide +kernel
theorem d_Model_cut_28 : decode b_Model_cut 28 = .ok (.invokestatic 285, 3) := by decide +kernel
theorem d_Model_cut_31 : decode b_Model_cut 31 = .ok (.aload_n 0, 1) := by decide +kernel
theorem d_Model_cut_32 : decode b_Model_cut 32 = .ok (.getfield 84, 3) := by decide +kernel
theorem d_Model_cut_35 : decode b_Model_cut 35 = .ok (.iload_n 2, 1) := by decide +kernel
theorem d_Model_cut_36 : decode b_Model_cut 36 = .ok (.iaload, 1) := by decide +kernel
theorem d_Model_cut_37 : decode b_Model_cut 37 = .ok (.invokevirtual 137, 3) := by decide +kernel
theorem d_Model_cut_40 : decode b_Model_cut 40 = .ok (.ireturn, 1) := by decide +kernel
abbrev b_Model_isWhole : ByteArray := prog_11_method_67_code
abbrev y_Model_isWhole : MethodName := ⟨"RiverTuesdaysModel", "isWhole", "(III)Z"⟩
theorem ok_Model_isWhole : okS y_Model_isWhole b_Model_isWhole 5 (some .boolean) 3 := ⟨mGW (List.mem_of_getElem? (i := 1472) (by decide +kernel)) rfl, mGW (List.mem_of_getElem? (i := 83) (by decide +kernel)) rfl, mGW (List.mem_of_getElem? (i := 1473) (by decide +kernel)) rfl, ⟨by decide, by decide, by decide +kernel⟩⟩
theorem d_Model_isWhole_0 : decode b_Model_isWhole 0 = .ok (.iconst 1, 1) := by decide +kernel
theorem d_Model_isWhole_1 : decode b_Model_isWhole 1 = .ok (.istore_n 3, 1) := by decide +kernel
theorem d_Model_isWhole_2 : decode b_Model_isWhole 2 = .ok (.iload_n 1, 1) := by decide +kernel
theorem d_Model_isWhole_3 : decode b_Model_isWhole 3 = .ok (.iload_n 2, 1) := by decide +kernel
theorem d_Model_isWhole_4 : decode b_Model_isWhole 4 = .ok (.invokestatic 198, 3) := by decide +kernel
theorem d_Model_isWhole_7 : decode b_Model_isWhole 7 = .ok (.istore 4, 2) := by decide +kernel
theorem d_Model_isWhole_9 : decode b_Model_isWhole 9 = .ok (.iload 4, 2) := by decide +kernel
theorem d_Model_isWhole_11 : decode b_Model_isWhole 11 = .ok (.iload_n 1, 1) := by decide +kernel
theorem d_Model_isWhole_12 : decode b_Model_isWhole 12 = .ok (.iload_n 2, 1) := by decide +kernel
theorem d_Model_isWhole_13 : decode b_Model_isWhole 13 = .ok (.invokestatic 213, 3) := by decide +kernel
theorem d_Model_isWhole_16 : decode b_Model_isWhole 16 = .ok (.if_icmp .gt 28, 3) := by decide +kernel
theorem d_Model_isWhole_19 : decode b_Model_isWhole 19 = .ok (.iload_n 3, 1) := by decide +kernel
theorem d_Model_isWhole_20 : decode b_Model_isWhole 20 = .ok (.ifCond .eq 16, 3) := by decide +kernel
theorem d_Model_isWhole_23 : decode b_Model_isWhole 23 = .ok (.iload_n 0, 1) := by decide +kernel
theorem d_Model_isWhole_24 : decode b_Model_isWhole 24 = .ok (.iload 4, 2) := by decide +kernel
theorem d_Model_isWhole_26 : decode b_Model_isWhole 26 = .ok (.invokestatic 248, 3) := by decide +kernel
theorem d_Model_isWhole_29 : decode b_Model_isWhole 29 = .ok (.ifCond .eq 7, 3) := by decide +kernel
theorem d_Model_isWhole_32 : decode b_Model_isWhole 32 = .ok (.iconst 1, 1) := by decide +kernel
theorem d_Model_isWhole_33 : decode b_Model_isWhole 33 = .ok (.goto 4, 3) := by decide +kernel
theorem d_Model_isWhole_36 : decode b_Model_isWhole 36 = .ok (.iconst 0, 1) := by decide +kernel
theorem d_Model_isWhole_37 : decode b_Model_isWhole 37 = .ok (.istore_n 3, 1) := by decide +kernel
theorem d_Model_isWhole_38 : decode b_Model_isWhole 38 = .ok (.iinc 4 1, 3) := by decide +kernel
theorem d_Model_isWhole_41 : decode b_Model_isWhole 41 = .ok (.goto (-32), 3) := by decide +kernel
theorem d_Model_isWhole_44 : decode b_Model_isWhole 44 = .ok (.iload_n 3, 1) := by decide +kernel
theorem d_Model_isWhole_45 : decode b_Model_isWhole 45 = .ok (.ireturn, 1) := by decide +kernel
abbrev b_Model_boat : ByteArray := prog_11_method_68_code
abbrev y_Model_boat : MethodName := ⟨"RiverTuesdaysModel", "boat", "(IIII)I"⟩
theorem ok_Model_boat : okV y_Model_boat b_Model_boat 6 (some .int) 4 9 := ⟨mGW (List.mem_of_getElem? (i := 1468) (by decide +kernel)) rfl, mGW (List.mem_of_getElem? (i := 1469) (by decide +kernel)) rfl, mGW (List.mem_of_getElem? (i := 83) (by decide +kernel)) rfl, mGW (List.mem_of_getElem? (i := 1470) (by decide +kernel)) rfl, ⟨by decide, by decide, by decide +kernel⟩, rfl⟩
theorem d_Model_boat_0 : decode b_Model_boat 0 = .ok (.aload_n 0, 1) := by decide +kernel
theorem d_Model_boat_1 : decode b_Model_boat 1 = .ok (.iload_n 2, 1) := by decide +kernel
theorem d_Model_boat_2 : decode b_Model_boat 2 = .ok (.iconst 0, 1) := by decide +kernel
theorem d_Model_boat_3 : decode b_Model_boat 3 = .ok (.bipush 7, 2) := by decide +kernel
theorem d_Model_boat_5 : decode b_Model_boat 5 = .ok (.invokestatic 118, 3) := by decide +kernel
theorem d_Model_boat_8 : decode b_Model_boat 8 = .ok (.ifCond .eq 24, 3) := by decide +kernel
theorem d_Model_boat_11 : decode b_Model_boat 11 = .ok (.aload_n 0, 1) := by decide +kernel
theorem d_Model_boat_12 : decode b_Model_boat 12 = .ok (.iload_n 3, 1) := by decide +kernel
theorem d_Model_boat_13 : decode b_Model_boat 13 = .ok (.invokevirtual 216, 3) := by decide +kernel
theorem d_Model_boat_16 : decode b_Model_boat 16 = .ok (.ifCond .eq 16, 3) := by decide +kernel
theorem d_Model_boat_19 : decode b_Model_boat 19 = .ok (.aload_n 0, 1) := by decide +kernel
theorem d_Model_boat_20 : decode b_Model_boat 20 = .ok (.iload 4, 2) := by decide +kernel
theorem d_Model_boat_22 : decode b_Model_boat 22 = .ok (.invokevirtual 216, 3) := by decide +kernel
theorem d_Model_boat_25 : decode b_Model_boat 25 = .ok (.ifCond .eq 7, 3) := by decide +kernel
theorem d_Model_boat_28 : decode b_Model_boat 28 = .ok (.iconst 1, 1) := by decide +kernel
theorem d_Model_boat_29 : decode b_Model_boat 29 = .ok (.goto 4, 3) := by decide +kernel
theorem d_Model_boat_32 : decode b_Model_boat 32 = .ok (.iconst 0, 1) := by decide +kernel
theorem d_Model_boat_33 : decode b_Model_boat 33 = .ok (.iload_n 1, 1) := by decide +kernel
theorem d_Model_boat_34 : decode b_Model_boat 34 = .ok (.invokevirtual 281, 3) := by decide +kernel
theorem d_Model_boat_37 : decode b_Model_boat 37 = .ok (.istore 5, 2) := by decide +kernel
theorem d_Model_boat_39 : decode b_Model_boat 39 = .ok (.iload 5, 2) := by decide +kernel
theorem d_Model_boat_41 : decode b_Model_boat 41 = .ok (.ifCond .ge 8, 3) := by decide +kernel
theorem d_Model_boat_44 : decode b_Model_boat 44 = .ok (.iload 5, 2) := by decide +kernel
theorem d_Model_boat_46 : decode b_Model_boat 46 = .ok (.goto 23, 3) := by decide +kernel
theorem d_Model_boat_49 : decode b_Model_boat 49 = .ok (.aload_n 0, 1) := by decide +kernel
theorem d_Model_boat_50 : decode b_Model_boat 50 = .ok (.getfield 84, 3) := by decide +kernel
theorem d_Model_boat_53 : decode b_Model_boat 53 = .ok (.iload_n 2, 1) := by decide +kernel
theorem d_Model_boat_54 : decode b_Model_boat 54 = .ok (.iaload, 1) := by decide +kernel
theorem d_Model_boat_55 : decode b_Model_boat 55 = .ok (.iload_n 3, 1) := by decide +kernel
theorem d_Model_boat_56 : decode b_Model_boat 56 = .ok (.iload 4, 2) := by decide +kernel
theorem d_Model_boat_58 : decode b_Model_boat 58 = .ok (.invokestatic 288, 3) := by decide +kernel
theorem d_Model_boat_61 : decode b_Model_boat 61 = .ok (.ifCond .eq 7, 3) := by decide +kernel
theorem d_Model_boat_64 : decode b_Model_boat 64 = .ok (.iconst 1, 1) := by decide +kernel
theorem d_Model_boat_65 : decode b_Model_boat 65 = .ok (.goto 4, 3) := by decide +kernel
theorem d_Model_boat_68 : decode b_Model_boat 68 = .ok (.iconst 0, 1) := by decide +kernel
theorem d_Model_boat_69 : decode b_Model_boat 69 = .ok (.ireturn, 1) := by decide +kernel
abbrev b_Model_trade : ByteArray := prog_11_method_69_code
abbrev y_Model_trade : MethodName := ⟨"RiverTuesdaysModel", "trade", "(I)I"⟩
theorem ok_Model_trade : okV y_Model_trade b_Model_trade 9 (some .int) 1 9 := ⟨mGW (List.mem_of_getElem? (i := 1475) (by decide +kernel)) rfl, mGW (List.mem_of_getElem? (i := 1476) (by decide +kernel)) rfl, mGW (List.mem_of_getElem? (i := 83) (by decide +kernel)) rfl, mGW (List.mem_of_getElem? (i := 1477) (by decide +kernel)) rfl, ⟨by decide, by decide, by decide +kernel⟩, rfl⟩
theorem d_Model_trade_0 : decode b_Model_trade 0 = .ok (.aload_n 0, 1) := by decide +kernel
theorem d_Model_trade_1 : decode b_Model_trade 1 = .ok (.iconst 1, 1) := by decide +kernel
theorem d_Model_trade_2 : decode b_Model_trade 2 = .ok (.iload_n 1, 1) := by decide +kernel
theorem d_Model_trade_3 : decode b_Model_trade 3 = .ok (.invokevirtual 281, 3) := by decide +kernel
theorem d_Model_trade_6 : decode b_Model_trade 6 = .ok (.istore_n 2, 1) := by decide +kernel
theorem d_Model_trade_7 : decode b_Model_trade 7 = .ok (.iload_n 2, 1) := by decide +kernel
theorem d_Model_trade_8 : decode b_Model_trade 8 = .ok (.ifCond .ge 5, 3) := by decide +kernel
theorem d_Model_trade_11 : decode b_Model_trade 11 = .ok (.iload_n 2, 1) := by decide +kernel
theorem d_Model_trade_12 : decode b_Model_trade 12 = .ok (.ireturn, 1) := by decide +kernel
theorem d_Model_trade_13 : decode b_Model_trade 13 = .ok (.iconst 0, 1) := by decide +kernel
theorem d_Model_trade_14 : decode b_Model_trade 14 = .ok (.istore_n 3, 1) := by decide +kernel
theorem d_Model_trade_15 : decode b_Model_trade 15 = .ok (.iconst (-1), 1) := by decide +kernel
theorem d_Model_trade_16 : decode b_Model_trade 16 = .ok (.istore 4, 2) := by decide +kernel
theorem d_Model_trade_18 : decode b_Model_trade 18 = .ok (.iconst 0, 1) := by decide +kernel
theorem d_Model_trade_19 : decode b_Model_trade 19 = .ok (.istore 5, 2) := by decide +kernel
theorem d_Model_trade_21 : decode b_Model_trade 21 = .ok (.iload 5, 2) := by decide +kernel
theorem d_Model_trade_23 : decode b_Model_trade 23 = .ok (.bipush 8, 2) := by decide +kernel
theorem d_Model_trade_25 : decode b_Model_trade 25 = .ok (.if_icmp .ge 101, 3) := by decide +kernel
theorem d_Model_trade_28 : decode b_Model_trade 28 = .ok (.iconst 0, 1) := by decide +kernel
theorem d_Model_trade_29 : decode b_Model_trade 29 = .ok (.istore 6, 2) := by decide +kernel
theorem d_Model_trade_31 : decode b_Model_trade 31 = .ok (.iconst 0, 1) := by decide +kernel
theorem d_Model_trade_32 : decode b_Model_trade 32 = .ok (.istore 7, 2) := by decide +kernel
theorem d_Model_trade_34 : decode b_Model_trade 34 = .ok (.iload 7, 2) := by decide +kernel
theorem d_Model_trade_36 : decode b_Model_trade 36 = .ok (.aload_n 0, 1) := by decide +kernel
theorem d_Model_trade_37 : decode b_Model_trade 37 = .ok (.getfield 176, 3) := by decide +kernel
theorem d_Model_trade_40 : decode b_Model_trade 40 = .ok (.if_icmp .ge 57, 3) := by decide +kernel
theorem d_Model_trade_43 : decode b_Model_trade 43 = .ok (.iload 7, 2) := by decide +kernel
theorem d_Model_trade_45 : decode b_Model_trade 45 = .ok (.iconst 1, 1) := by decide +kernel
theorem d_Model_trade_46 : decode b_Model_trade 46 = .ok (.iadd, 1) := by decide +kernel
theorem d_Model_trade_47 : decode b_Model_trade 47 = .ok (.istore 8, 2) := by decide +kernel
theorem d_Model_trade_49 : decode b_Model_trade 49 = .ok (.iload 8, 2) := by decide +kernel
theorem d_Model_trade_51 : decode b_Model_trade 51 = .ok (.aload_n 0, 1) := by decide +kernel
theorem d_Model_trade_52 : decode b_Model_trade 52 = .ok (.getfield 176, 3) := by decide +kernel
theorem d_Model_trade_55 : decode b_Model_trade 55 = .ok (.if_icmp .ge 36, 3) := by decide +kernel
theorem d_Model_trade_58 : decode b_Model_trade 58 = .ok (.iload 6, 2) := by decide +kernel
theorem d_Model_trade_60 : decode b_Model_trade 60 = .ok (.aload_n 0, 1) := by decide +kernel
theorem d_Model_trade_61 : decode b_Model_trade 61 = .ok (.getfield 84, 3) := by decide +kernel
theorem d_Model_trade_64 : decode b_Model_trade 64 = .ok (.iload 5, 2) := by decide +kernel
theorem d_Model_trade_66 : decode b_Model_trade 66 = .ok (.iaload, 1) := by decide +kernel
theorem d_Model_trade_67 : decode b_Model_trade 67 = .ok (.iload 7, 2) := by decide +kernel
theorem d_Model_trade_69 : decode b_Model_trade 69 = .ok (.iload 8, 2) := by decide +kernel
theorem d_Model_trade_71 : decode b_Model_trade 71 = .ok (.invokestatic 288, 3) := by decide +kernel
theorem d_Model_trade_74 : decode b_Model_trade 74 = .ok (.ifCond .eq 7, 3) := by decide +kernel
theorem d_Model_trade_77 : decode b_Model_trade 77 = .ok (.iconst 1, 1) := by decide +kernel
theorem d_Model_trade_78 : decode b_Model_trade 78 = .ok (.goto 4, 3) := by decide +kernel
theorem d_Model_trade_81 : decode b_Model_trade 81 = .ok (.iconst 0, 1) := by decide +kernel
theorem d_Model_trade_82 : decode b_Model_trade 82 = .ok (.iadd, 1) := by decide +kernel
theorem d_Model_trade_83 : decode b_Model_trade 83 = .ok (.istore 6, 2) := by decide +kernel
theorem d_Model_trade_85 : decode b_Model_trade 85 = .ok (.iinc 8 1, 3) := by decide +kernel
theorem d_Model_trade_88 : decode b_Model_trade 88 = .ok (.goto (-39), 3) := by decide +kernel
theorem d_Model_trade_91 : decode b_Model_trade 91 = .ok (.iinc 7 1, 3) := by decide +kernel
theorem d_Model_trade_94 : decode b_Model_trade 94 = .ok (.goto (-60), 3) := by decide +kernel
theorem d_Model_trade_97 : decode b_Model_trade 97 = .ok (.iload 6, 2) := by decide +kernel
theorem d_Model_trade_99 : decode b_Model_trade 99 = .ok (.iload 4, 2) := by decide +kernel
theorem d_Model_trade_101 : decode b_Model_trade 101 = .ok (.if_icmp .le 8, 3) := by decide +kernel
theorem d_Model_trade_104 : decode b_Model_trade 104 = .ok (.iload 5, 2) := by decide +kernel
theorem d_Model_trade_106 : decode b_Model_trade 106 = .ok (.goto 4, 3) := by decide +kernel
theorem d_Model_trade_109 : decode b_Model_trade 109 = .ok (.iload_n 3, 1) := by decide +kernel
theorem d_Model_trade_110 : decode b_Model_trade 110 = .ok (.istore_n 3, 1) := by decide +kernel
theorem d_Model_trade_111 : decode b_Model_trade 111 = .ok (.iload 4, 2) := by decide +kernel
theorem d_Model_trade_113 : decode b_Model_trade 113 = .ok (.iload 6, 2) := by decide +kernel
theorem d_Model_trade_115 : decode b_Model_trade 115 = .ok (.invokestatic 213, 3) := by decide +kernel
theorem d_Model_trade_118 : decode b_Model_trade 118 = .ok (.istore 4, 2) := by decide +kernel
theorem d_Model_trade_120 : decode b_Model_trade 120 = .ok (.iinc 5 1, 3) := by decide +kernel
theorem d_Model_trade_123 : decode b_Model_trade 123 = .ok (.goto (-102), 3) := by decide +kernel
theorem d_Model_trade_126 : decode b_Model_trade 126 = .ok (.aload_n 0, 1) := by decide +kernel
theorem d_Model_trade_127 : decode b_Model_trade 127 = .ok (.iload 4, 2) := by decide +kernel
theorem d_Model_trade_129 : decode b_Model_trade 129 = .ok (.iload_n 3, 1) := by decide +kernel
theorem d_Model_trade_130 : decode b_Model_trade 130 = .ok (.invokevirtual 137, 3) := by decide +kernel
theorem d_Model_trade_133 : decode b_Model_trade 133 = .ok (.ireturn, 1) := by decide +kernel
abbrev b_Model_marks : ByteArray := prog_11_method_70_code
abbrev y_Model_marks : MethodName := ⟨"RiverTuesdaysModel", "marks", "(II)I"⟩
theorem ok_Model_marks : okV y_Model_marks b_Model_marks 6 (some .int) 2 9 := ⟨mGW (List.mem_of_getElem? (i := 1479) (by decide +kernel)) rfl, mGW (List.mem_of_getElem? (i := 1480) (by decide +kernel)) rfl, mGW (List.mem_of_getElem? (i := 83) (by decide +kernel)) rfl, mGW (List.mem_of_getElem? (i := 1481) (by decide +kernel)) rfl, ⟨by decide, by decide, by decide +kernel⟩, rfl⟩
theorem d_Model_marks_0 : decode b_Model_marks 0 = .ok (.aload_n 0, 1) := by decide +kernel
theorem d_Model_marks_1 : decode b_Model_marks 1 = .ok (.iload_n 2, 1) := by decide +kernel
theorem d_Model_marks_2 : decode b_Model_marks 2 = .ok (.invokestatic 125, 3) := by decide +kernel
theorem d_Model_marks_5 : decode b_Model_marks 5 = .ok (.iload_n 1, 1) := by decide +kernel
theorem d_Model_marks_6 : decode b_Model_marks 6 = .ok (.invokevirtual 281, 3) := by decide +kernel
theorem d_Model_marks_9 : decode b_Model_marks 9 = .ok (.istore_n 3, 1) := by decide +kernel
theorem d_Model_marks_10 : decode b_Model_marks 10 = .ok (.iload_n 3, 1) := by decide +kernel
theorem d_Model_marks_11 : decode b_Model_marks 11 = .ok (.ifCond .ge 5, 3) := by decide +kernel
theorem d_Model_marks_14 : decode b_Model_marks 14 = .ok (.iload_n 3, 1) := by decide +kernel
theorem d_Model_marks_15 : decode b_Model_marks 15 = .ok (.ireturn, 1) := by decide +kernel
theorem d_Model_marks_16 : decode b_Model_marks 16 = .ok (.iconst 0, 1) := by decide +kernel
theorem d_Model_marks_17 : decode b_Model_marks 17 = .ok (.istore 4, 2) := by decide +kernel
theorem d_Model_marks_19 : decode b_Model_marks 19 = .ok (.aload_n 0, 1) := by decide +kernel
theorem d_Model_marks_20 : decode b_Model_marks 20 = .ok (.getfield 13, 3) := by decide +kernel
theorem d_Model_marks_23 : decode b_Model_marks 23 = .ok (.iload_n 2, 1) := by decide +kernel
theorem d_Model_marks_24 : decode b_Model_marks 24 = .ok (.aload_n 0, 1) := by decide +kernel
theorem d_Model_marks_25 : decode b_Model_marks 25 = .ok (.getfield 176, 3) := by decide +kernel
theorem d_Model_marks_28 : decode b_Model_marks 28 = .ok (.iastore, 1) := by decide +kernel
theorem d_Model_marks_29 : decode b_Model_marks 29 = .ok (.iconst 0, 1) := by decide +kernel
theorem d_Model_marks_30 : decode b_Model_marks 30 = .ok (.istore 5, 2) := by decide +kernel
theorem d_Model_marks_32 : decode b_Model_marks 32 = .ok (.iload 5, 2) := by decide +kernel
theorem d_Model_marks_34 : decode b_Model_marks 34 = .ok (.bipush 60, 2) := by decide +kernel
theorem d_Model_marks_36 : decode b_Model_marks 36 = .ok (.if_icmp .ge 69, 3) := by decide +kernel
theorem d_Model_marks_39 : decode b_Model_marks 39 = .ok (.aload_n 0, 1) := by decide +kernel
theorem d_Model_marks_40 : decode b_Model_marks 40 = .ok (.getfield 16, 3) := by decide +kernel
theorem d_Model_marks_43 : decode b_Model_marks 43 = .ok (.bipush 60, 2) := by decide +kernel
theorem d_Model_marks_45 : decode b_Model_marks 45 = .ok (.iload_n 2, 1) := by decide +kernel
theorem d_Model_marks_46 : decode b_Model_marks 46 = .ok (.imul, 1) := by decide +kernel
theorem d_Model_marks_47 : decode b_Model_marks 47 = .ok (.iload 5, 2) := by decide +kernel
theorem d_Model_marks_49 : decode b_Model_marks 49 = .ok (.iadd, 1) := by decide +kernel
theorem d_Model_marks_50 : decode b_Model_marks 50 = .ok (.iload 5, 2) := by decide +kernel
theorem d_Model_marks_52 : decode b_Model_marks 52 = .ok (.aload_n 0, 1) := by decide +kernel
theorem d_Model_marks_53 : decode b_Model_marks 53 = .ok (.getfield 176, 3) := by decide +kernel
theorem d_Model_marks_56 : decode b_Model_marks 56 = .ok (.if_icmp .ge 13, 3) := by decide +kernel
theorem d_Model_marks_59 : decode b_Model_marks 59 = .ok (.aload_n 0, 1) := by decide +kernel
theorem d_Model_marks_60 : decode b_Model_marks 60 = .ok (.getfield 87, 3) := by decide +kernel
theorem d_Model_marks_63 : decode b_Model_marks 63 = .ok (.iload 5, 2) := by decide +kernel
theorem d_Model_marks_65 : decode b_Model_marks 65 = .ok (.iaload, 1) := by decide +kernel
theorem d_Model_marks_66 : decode b_Model_marks 66 = .ok (.goto 4, 3) := by decide +kernel
theorem d_Model_marks_69 : decode b_Model_marks 69 = .ok (.iconst 0, 1) := by decide +kernel
theorem d_Model_marks_70 : decode b_Model_marks 70 = .ok (.iastore, 1) := by decide +kernel
theorem d_Model_marks_71 : decode b_Model_marks 71 = .ok (.iload 5, 2) := by decide +kernel
theorem d_Model_marks_73 : decode b_Model_marks 73 = .ok (.aload_n 0, 1) := by decide +kernel
theorem d_Model_marks_74 : decode b_Model_marks 74 = .ok (.getfield 176, 3) := by decide +kernel
theorem d_Model_marks_77 : decode b_Model_marks 77 = .ok (.if_icmp .ge 18, 3) := by decide +kernel
theorem d_Model_marks_80 : decode b_Model_marks 80 = .ok (.iload 4, 2) := by decide +kernel
theorem d_Model_marks_82 : decode b_Model_marks 82 = .ok (.aload_n 0, 1) := by decide +kernel
theorem d_Model_marks_83 : decode b_Model_marks 83 = .ok (.getfield 87, 3) := by decide +kernel
theorem d_Model_marks_86 : decode b_Model_marks 86 = .ok (.iload 5, 2) := by decide +kernel
theorem d_Model_marks_88 : decode b_Model_marks 88 = .ok (.iaload, 1) := by decide +kernel
theorem d_Model_marks_89 : decode b_Model_marks 89 = .ok (.invokestatic 213, 3) := by decide +kernel
theorem d_Model_marks_92 : decode b_Model_marks 92 = .ok (.goto 5, 3) := by decide +kernel
theorem d_Model_marks_95 : decode b_Model_marks 95 = .ok (.iload 4, 2) := by decide +kernel
theorem d_Model_marks_97 : decode b_Model_marks 97 = .ok (.istore 4, 2) := by decide +kernel
theorem d_Model_marks_99 : decode b_Model_marks 99 = .ok (.iinc 5 1, 3) := by decide +kernel
theorem d_Model_marks_102 : decode b_Model_marks 102 = .ok (.goto (-70), 3) := by decide +kernel
theorem d_Model_marks_105 : decode b_Model_marks 105 = .ok (.iload 4, 2) := by decide +kernel
theorem d_Model_marks_107 : decode b_Model_marks 107 = .ok (.ireturn, 1) := by decide +kernel
def s_Model_standing_4 (k4 : Int32 → Int32 → Int32 → Dt → Option (Int32 × Dt)) (v1 : Int32) (v2 : Int32) (v3 : Int32) (D : Dt) : Option (Int32 × Dt) :=
  (if (D 176 10) ≤ v3 then some (v2, D) else bnd (f_Model_v v1 (0 + v3) D) (fun x1 D2 => k4 v1 (v2 + x1) (v3 + 1) D2))
def lp_Model_standing_4 (n : Nat) : Int32 → Int32 → Int32 → Dt → Option (Int32 × Dt) := itr (fun _ _ _ _ => none) (s_Model_standing_4) n
set_option maxHeartbeats 4000000 in
theorem ts_Model_standing_4 {Γ : GmT} {G : Dt → Nat → List (Nat × Value) → List Value → Prop} {rr : Int32} {DD : Dt} (C : Cx Γ "RiverTuesdaysModel" b_Model_standing 4 2 (some .int) (some (.int rr)) DD G) {k4 : Int32 → Int32 → Int32 → Dt → Option (Int32 × Dt)} (hk4 : ∀ (v1 : Int32) (v2 : Int32) (v3 : Int32) (D : Dt), k4 v1 v2 v3 D = some (rr, DD) → G D 4 [(0, .ref (Γ.2.1 176)), (1, .int v1), (2, .int v2), (3, .int v3)] []) {v1 : Int32} {v2 : Int32} {v3 : Int32} {D : Dt} (hf : s_Model_standing_4 k4 v1 v2 v3 D = some (rr, DD)) : G D 4 [(0, .ref (Γ.2.1 176)), (1, .int v1), (2, .int v2), (3, .int v3)] [] := by
  unfold s_Model_standing_4 at hf
  refine r_iload_n (pc := 4) C 3 d_Model_standing_4 rfl rfl ?_
  refine r_aload_n (pc := 5) C 0 d_Model_standing_5 rfl rfl ?_
  refine g_Model_n (pc := 6) C k_id176 Lf_Model_176 d_Model_standing_6 ?_
  refine r_icmp_ge (pc := 9) C (tgt := 29) d_Model_standing_9 (by decide) hf (fun c9 hf => ?_) (fun c9 hf => ?_)
  · refine r_iload_n (pc := 29) C 2 d_Model_standing_29 rfl rfl ?_
    exact r_iret (pc := 30) C d_Model_standing_30 hf
  · refine r_iload_n (pc := 12) C 2 d_Model_standing_12 rfl rfl ?_
    refine r_aload_n (pc := 13) C 0 d_Model_standing_13 rfl rfl ?_
    refine r_iload_n (pc := 14) C 1 d_Model_standing_14 rfl rfl ?_
    refine r_iconst (pc := 15) C (v := 0) d_Model_standing_15 (by decide) ?_
    refine r_iload_n (pc := 16) C 3 d_Model_standing_16 rfl rfl ?_
    refine r_iadd (pc := 17) C d_Model_standing_17 ?_
    refine r_callVi (pc := 18) (As := [.int v1, .int (0 + v3)]) (rest := [.int v2]) C ok_Model_v Lm_Model_192 k_id176 (by decide) ⟨by decide, by decide⟩ rfl rfl (Nat.le_of_ble_eq_true rfl) d_Model_standing_18 hf (fun x D1 hc => c_Model_v Γ hc) (fun x1 D2 hf => ?_)
    refine r_iadd (pc := 21) C d_Model_standing_21 ?_
    refine r_istore_n (pc := 22) (lv' := [(2, .int (v2 + x1)), (0, .ref (Γ.2.1 176)), (1, .int v1), (3, .int v3)]) C d_Model_standing_22 rfl (Nat.le_of_ble_eq_true rfl) rfl ?_
    refine r_iinc (pc := 23) C (v := v3 + 1) (lv' := [(3, .int (v3 + 1)), (2, .int (v2 + x1)), (0, .ref (Γ.2.1 176)), (1, .int v1)]) 3 d_Model_standing_23 rfl rfl (Nat.le_of_ble_eq_true rfl) rfl ?_
    refine r_goto (pc := 26) C (tgt := 4) d_Model_standing_26 (by decide) ?_
    exact r_lv (pc := 4) C [2, 3, 1, 0] rfl (hk4 v1 (v2 + x1) (v3 + 1) D2 hf)
theorem tl_Model_standing_4 {Γ : GmT} {G : Dt → Nat → List (Nat × Value) → List Value → Prop} {rr : Int32} {DD : Dt} (C : Cx Γ "RiverTuesdaysModel" b_Model_standing 4 2 (some .int) (some (.int rr)) DD G) : ∀ (n : Nat) (v1 : Int32) (v2 : Int32) (v3 : Int32) (D : Dt), lp_Model_standing_4 n v1 v2 v3 D = some (rr, DD) → G D 4 [(0, .ref (Γ.2.1 176)), (1, .int v1), (2, .int v2), (3, .int v3)] [] := by
  intro n
  induction n with
  | zero =>
    intro v1 v2 v3 D hf
    exact absurd (show (none : Option (Int32 × Dt)) = some (rr, DD) from hf) (by simp)
  | succ n ih =>
    intro v1 v2 v3 D hf
    exact ts_Model_standing_4 C (k4 := lp_Model_standing_4 n) ih hf
def f_Model_standing (v1 : Int32) (D : Dt) : Option (Int32 × Dt) :=
  lp_Model_standing_4 FU v1 0 0 D
set_option maxHeartbeats 4000000 in
theorem te_Model_standing {Γ : GmT} {G : Dt → Nat → List (Nat × Value) → List Value → Prop} {rr : Int32} {DD : Dt} (C : Cx Γ "RiverTuesdaysModel" b_Model_standing 4 2 (some .int) (some (.int rr)) DD G) {v1 : Int32} {D : Dt} (hf : f_Model_standing v1 D = some (rr, DD)) : G D 0 [(0, .ref (Γ.2.1 176)), (1, .int v1)] [] := by
  unfold f_Model_standing at hf
  refine r_iconst (pc := 0) C (v := 0) d_Model_standing_0 (by decide) ?_
  refine r_istore_n (pc := 1) (lv' := [(2, .int 0), (0, .ref (Γ.2.1 176)), (1, .int v1)]) C d_Model_standing_1 rfl (Nat.le_of_ble_eq_true rfl) rfl ?_
  refine r_iconst (pc := 2) C (v := 0) d_Model_standing_2 (by decide) ?_
  refine r_istore_n (pc := 3) (lv' := [(3, .int 0), (2, .int 0), (0, .ref (Γ.2.1 176)), (1, .int v1)]) C d_Model_standing_3 rfl (Nat.le_of_ble_eq_true rfl) rfl ?_
  exact r_lv (pc := 4) C [2, 3, 1, 0] rfl (tl_Model_standing_4 C FU v1 0 0 D hf)
theorem c_Model_standing (Γ : GmT) {v1 : Int32} {D : Dt} {rr : Int32} {DD : Dt} (hf : f_Model_standing v1 D = some (rr, DD)) : Mt Γ y_Model_standing b_Model_standing 4 (some .int) 2 [.ref (Γ.2.1 176), .int v1] D (some (.int rr)) DD := Mt_of (by decide) (Nat.le_of_ble_eq_true rfl) (fun G C => te_Model_standing C hf)
def f_Model_houseTells (v1 : Int32) (v2 : Int32) (D : Dt) : Option (Int32 × Dt) :=
  (if v2 = 0 then (if inb v1 8 = true then some (D 183 v1.toNatClampNeg, D) else none) else (if v2 = 1 then (if inb v1 8 = true then some (D 184 v1.toNatClampNeg, D) else none) else (if v2 = 2 then (if inb v1 8 = true then some (D 185 v1.toNatClampNeg, D) else none) else (if v2 = 3 then (if inb v1 8 = true then some (D 186 v1.toNatClampNeg, D) else none) else (if v2 = 4 then bnd (f_Model_v 0 (0 + v1) D) (fun x1 D2 => some (x1, D2)) else (if v2 = 5 then bnd (f_Model_v 0 (8 + v1) D) (fun x3 D4 => some (x3, D4)) else bnd (f_Model_v 0 (16 + v1) D) (fun x5 D6 => some (x5, D6))))))))
set_option maxHeartbeats 4000000 in
theorem te_Model_houseTells {Γ : GmT} {G : Dt → Nat → List (Nat × Value) → List Value → Prop} {rr : Int32} {DD : Dt} (C : Cx Γ "RiverTuesdaysModel" b_Model_houseTells 3 2 (some .int) (some (.int rr)) DD G) {v1 : Int32} {v2 : Int32} {D : Dt} (hf : f_Model_houseTells v1 v2 D = some (rr, DD)) : G D 0 [(0, .ref (Γ.2.1 176)), (1, .int v1), (2, .int v2)] [] := by
  unfold f_Model_houseTells at hf
  refine r_iload_n (pc := 0) C 2 d_Model_houseTells_0 rfl rfl ?_
  by_cases q1_0 : v2 = 0
  · rw [if_pos q1_0] at hf
    refine r_tsK (pc := 1) (tgt := 40) C q1_0 d_Model_houseTells_1 (by decide) (by decide) (off := 39) (by decide) (by decide) ?_
    refine r_aload_n (pc := 40) C 0 d_Model_houseTells_40 rfl rfl ?_
    refine g_Model_kinds (pc := 41) C k_id176 Lf_Model_29 d_Model_houseTells_41 ?_
    refine r_iload_n (pc := 44) C 1 d_Model_houseTells_44 rfl rfl ?_
    refine r_iald (pc := 45) C kq_Model_kinds d_Model_houseTells_45 hf (fun hf => ?_)
    exact r_iret (pc := 46) C d_Model_houseTells_46 hf
  rw [if_neg q1_0] at hf
  by_cases q1_1 : v2 = 1
  · rw [if_pos q1_1] at hf
    refine r_tsK (pc := 1) (tgt := 47) C q1_1 d_Model_houseTells_1 (by decide) (by decide) (off := 46) (by decide) (by decide) ?_
    refine r_aload_n (pc := 47) C 0 d_Model_houseTells_47 rfl rfl ?_
    refine g_Model_floors (pc := 48) C k_id176 Lf_Model_32 d_Model_houseTells_48 ?_
    refine r_iload_n (pc := 51) C 1 d_Model_houseTells_51 rfl rfl ?_
    refine r_iald (pc := 52) C kq_Model_floors d_Model_houseTells_52 hf (fun hf => ?_)
    exact r_iret (pc := 53) C d_Model_houseTells_53 hf
  rw [if_neg q1_1] at hf
  by_cases q1_2 : v2 = 2
  · rw [if_pos q1_2] at hf
    refine r_tsK (pc := 1) (tgt := 54) C q1_2 d_Model_houseTells_1 (by decide) (by decide) (off := 53) (by decide) (by decide) ?_
    refine r_aload_n (pc := 54) C 0 d_Model_houseTells_54 rfl rfl ?_
    refine g_Model_sills (pc := 55) C k_id176 Lf_Model_35 d_Model_houseTells_55 ?_
    refine r_iload_n (pc := 58) C 1 d_Model_houseTells_58 rfl rfl ?_
    refine r_iald (pc := 59) C kq_Model_sills d_Model_houseTells_59 hf (fun hf => ?_)
    exact r_iret (pc := 60) C d_Model_houseTells_60 hf
  rw [if_neg q1_2] at hf
  by_cases q1_3 : v2 = 3
  · rw [if_pos q1_3] at hf
    refine r_tsK (pc := 1) (tgt := 61) C q1_3 d_Model_houseTells_1 (by decide) (by decide) (off := 60) (by decide) (by decide) ?_
    refine r_aload_n (pc := 61) C 0 d_Model_houseTells_61 rfl rfl ?_
    refine g_Model_rooms (pc := 62) C k_id176 Lf_Model_38 d_Model_houseTells_62 ?_
    refine r_iload_n (pc := 65) C 1 d_Model_houseTells_65 rfl rfl ?_
    refine r_iald (pc := 66) C kq_Model_rooms d_Model_houseTells_66 hf (fun hf => ?_)
    exact r_iret (pc := 67) C d_Model_houseTells_67 hf
  rw [if_neg q1_3] at hf
  by_cases q1_4 : v2 = 4
  · rw [if_pos q1_4] at hf
    refine r_tsK (pc := 1) (tgt := 68) C q1_4 d_Model_houseTells_1 (by decide) (by decide) (off := 67) (by decide) (by decide) ?_
    refine r_aload_n (pc := 68) C 0 d_Model_houseTells_68 rfl rfl ?_
    refine r_iconst (pc := 69) C (v := 0) d_Model_houseTells_69 (by decide) ?_
    refine r_iconst (pc := 70) C (v := 0) d_Model_houseTells_70 (by decide) ?_
    refine r_iload_n (pc := 71) C 1 d_Model_houseTells_71 rfl rfl ?_
    refine r_iadd (pc := 72) C d_Model_houseTells_72 ?_
    refine r_callVi (pc := 73) (As := [.int 0, .int (0 + v1)]) (rest := []) C ok_Model_v Lm_Model_192 k_id176 (by decide) ⟨by decide, by decide⟩ rfl rfl (Nat.le_of_ble_eq_true rfl) d_Model_houseTells_73 hf (fun x D1 hc => c_Model_v Γ hc) (fun x1 D2 hf => ?_)
    exact r_iret (pc := 76) C d_Model_houseTells_76 hf
  rw [if_neg q1_4] at hf
  by_cases q1_5 : v2 = 5
  · rw [if_pos q1_5] at hf
    refine r_tsK (pc := 1) (tgt := 77) C q1_5 d_Model_houseTells_1 (by decide) (by decide) (off := 76) (by decide) (by decide) ?_
    refine r_aload_n (pc := 77) C 0 d_Model_houseTells_77 rfl rfl ?_
    refine r_iconst (pc := 78) C (v := 0) d_Model_houseTells_78 (by decide) ?_
    refine r_bipush (pc := 79) C (v := 8) d_Model_houseTells_79 (by decide) ?_
    refine r_iload_n (pc := 81) C 1 d_Model_houseTells_81 rfl rfl ?_
    refine r_iadd (pc := 82) C d_Model_houseTells_82 ?_
    refine r_callVi (pc := 83) (As := [.int 0, .int (8 + v1)]) (rest := []) C ok_Model_v Lm_Model_192 k_id176 (by decide) ⟨by decide, by decide⟩ rfl rfl (Nat.le_of_ble_eq_true rfl) d_Model_houseTells_83 hf (fun x D1 hc => c_Model_v Γ hc) (fun x3 D4 hf => ?_)
    exact r_iret (pc := 86) C d_Model_houseTells_86 hf
  rw [if_neg q1_5] at hf
  refine r_tsD (pc := 1) (tgt := 87) C [0, 1, 2, 3, 4, 5] (by simp only [List.mem_cons, List.not_mem_nil, not_or, or_false]; exact ⟨q1_0, q1_1, q1_2, q1_3, q1_4, q1_5⟩) d_Model_houseTells_1 (by decide) (by decide) (by decide) ?_
  refine r_aload_n (pc := 87) C 0 d_Model_houseTells_87 rfl rfl ?_
  refine r_iconst (pc := 88) C (v := 0) d_Model_houseTells_88 (by decide) ?_
  refine r_bipush (pc := 89) C (v := 16) d_Model_houseTells_89 (by decide) ?_
  refine r_iload_n (pc := 91) C 1 d_Model_houseTells_91 rfl rfl ?_
  refine r_iadd (pc := 92) C d_Model_houseTells_92 ?_
  refine r_callVi (pc := 93) (As := [.int 0, .int (16 + v1)]) (rest := []) C ok_Model_v Lm_Model_192 k_id176 (by decide) ⟨by decide, by decide⟩ rfl rfl (Nat.le_of_ble_eq_true rfl) d_Model_houseTells_93 hf (fun x D1 hc => c_Model_v Γ hc) (fun x5 D6 hf => ?_)
  exact r_iret (pc := 96) C d_Model_houseTells_96 hf
theorem c_Model_houseTells (Γ : GmT) {v1 : Int32} {v2 : Int32} {D : Dt} {rr : Int32} {DD : Dt} (hf : f_Model_houseTells v1 v2 D = some (rr, DD)) : Mt Γ y_Model_houseTells b_Model_houseTells 3 (some .int) 2 [.ref (Γ.2.1 176), .int v1, .int v2] D (some (.int rr)) DD := Mt_of (by decide) (Nat.le_of_ble_eq_true rfl) (fun G C => te_Model_houseTells C hf)
def f_Model_house (v1 : Int32) (v2 : Int32) (D : Dt) : Option (Int32 × Dt) :=
  bnd (f_Model_isHouse v1 D) (fun x1 D2 => (if x1 = 0 then some ((-1), D2) else bnd (f_Model_in v2 0 6 D2) (fun x3 D4 => (if x3 = 0 then some ((-1), D4) else bnd (f_Model_houseTells v1 v2 D4) (fun x5 D6 => bnd (f_Model_tells x5 1 D6) (fun x7 D8 => some (x7, D8)))))))
set_option maxHeartbeats 4000000 in
theorem te_Model_house {Γ : GmT} {G : Dt → Nat → List (Nat × Value) → List Value → Prop} {rr : Int32} {DD : Dt} (C : Cx Γ "RiverTuesdaysModel" b_Model_house 3 3 (some .int) (some (.int rr)) DD G) {v1 : Int32} {v2 : Int32} {D : Dt} (hf : f_Model_house v1 v2 D = some (rr, DD)) : G D 0 [(0, .ref (Γ.2.1 176)), (1, .int v1), (2, .int v2)] [] := by
  unfold f_Model_house at hf
  refine r_aload_n (pc := 0) C 0 d_Model_house_0 rfl rfl ?_
  refine r_iload_n (pc := 1) C 1 d_Model_house_1 rfl rfl ?_
  refine r_callVi (pc := 2) (As := [.int v1]) (rest := []) C ok_Model_isHouse Lm_Model_216 k_id176 (by decide) ⟨by decide, by decide⟩ rfl rfl (Nat.le_of_ble_eq_true rfl) d_Model_house_2 hf (fun x D1 hc => c_Model_isHouse Γ hc) (fun x1 D2 hf => ?_)
  refine r_if_eq (pc := 5) C (tgt := 32) d_Model_house_5 (by decide) hf (fun c5 hf => ?_) (fun c5 hf => ?_)
  · refine r_iconst (pc := 32) C (v := (-1)) d_Model_house_32 (by decide) ?_
    exact r_iret (pc := 33) C d_Model_house_33 hf
  · refine r_iload_n (pc := 8) C 2 d_Model_house_8 rfl rfl ?_
    refine r_iconst (pc := 9) C (v := 0) d_Model_house_9 (by decide) ?_
    refine r_bipush (pc := 10) C (v := 6) d_Model_house_10 (by decide) ?_
    refine r_callSi (pc := 12) (As := [.int v2, .int 0, .int 6]) (rest := []) C ok_Model_in Lm_Model_118 ⟨by decide, by decide⟩ rfl rfl (Nat.le_of_ble_eq_true rfl) d_Model_house_12 hf (fun x D1 hc => c_Model_in Γ hc) (fun x3 D4 hf => ?_)
    refine r_if_eq (pc := 15) C (tgt := 32) d_Model_house_15 (by decide) hf (fun c15 hf => ?_) (fun c15 hf => ?_)
    · refine r_iconst (pc := 32) C (v := (-1)) d_Model_house_32 (by decide) ?_
      exact r_iret (pc := 33) C d_Model_house_33 hf
    · refine r_aload_n (pc := 18) C 0 d_Model_house_18 rfl rfl ?_
      refine r_aload_n (pc := 19) C 0 d_Model_house_19 rfl rfl ?_
      refine r_iload_n (pc := 20) C 1 d_Model_house_20 rfl rfl ?_
      refine r_iload_n (pc := 21) C 2 d_Model_house_21 rfl rfl ?_
      refine r_callVi (pc := 22) (As := [.int v1, .int v2]) (rest := [.ref (Γ.2.1 176)]) C ok_Model_houseTells Lm_Model_219 k_id176 (by decide) ⟨by decide, by decide⟩ rfl rfl (Nat.le_of_ble_eq_true rfl) d_Model_house_22 hf (fun x D1 hc => c_Model_houseTells Γ hc) (fun x5 D6 hf => ?_)
      refine r_iconst (pc := 25) C (v := 1) d_Model_house_25 (by decide) ?_
      refine r_callVi (pc := 26) (As := [.int x5, .int 1]) (rest := []) C ok_Model_tells Lm_Model_137 k_id176 (by decide) ⟨by decide, by decide⟩ rfl rfl (Nat.le_of_ble_eq_true rfl) d_Model_house_26 hf (fun x D1 hc => c_Model_tells Γ hc) (fun x7 D8 hf => ?_)
      refine r_goto (pc := 29) C (tgt := 33) d_Model_house_29 (by decide) ?_
      exact r_iret (pc := 33) C d_Model_house_33 hf
theorem c_Model_house (Γ : GmT) {v1 : Int32} {v2 : Int32} {D : Dt} {rr : Int32} {DD : Dt} (hf : f_Model_house v1 v2 D = some (rr, DD)) : Mt Γ y_Model_house b_Model_house 3 (some .int) 3 [.ref (Γ.2.1 176), .int v1, .int v2] D (some (.int rr)) DD := Mt_of (by decide) (Nat.le_of_ble_eq_true rfl) (fun G C => te_Model_house C hf)
def s_Model_copyStreet_2 (k2 : Int32 → Dt → Option (Unit × Dt)) (v1 : Int32) (D : Dt) : Option (Unit × Dt) :=
  (if 26 ≤ v1 then some ((), D) else bnd (f_Model_v 0 v1 D) (fun x1 D2 => bnd (f_Model_place 1 v1 x1 D2) (fun x3 D4 => k2 (v1 + 1) D4)))
def lp_Model_copyStreet_2 (n : Nat) : Int32 → Dt → Option (Unit × Dt) := itr (fun _ _ => none) (s_Model_copyStreet_2) n
set_option maxHeartbeats 4000000 in
theorem ts_Model_copyStreet_2 {Γ : GmT} {G : Dt → Nat → List (Nat × Value) → List Value → Prop} {rr : Unit} {DD : Dt} (C : Cx Γ "RiverTuesdaysModel" b_Model_copyStreet 2 2 none none DD G) {k2 : Int32 → Dt → Option (Unit × Dt)} (hk2 : ∀ (v1 : Int32) (D : Dt), k2 v1 D = some (rr, DD) → G D 2 [(0, .ref (Γ.2.1 176)), (1, .int v1)] []) {v1 : Int32} {D : Dt} (hf : s_Model_copyStreet_2 k2 v1 D = some (rr, DD)) : G D 2 [(0, .ref (Γ.2.1 176)), (1, .int v1)] [] := by
  unfold s_Model_copyStreet_2 at hf
  refine r_iload_n (pc := 2) C 1 d_Model_copyStreet_2 rfl rfl ?_
  refine r_bipush (pc := 3) C (v := 26) d_Model_copyStreet_3 (by decide) ?_
  refine r_icmp_ge (pc := 5) C (tgt := 26) d_Model_copyStreet_5 (by decide) hf (fun c5 hf => ?_) (fun c5 hf => ?_)
  · exact r_vret (pc := 26) C d_Model_copyStreet_26 hf
  · refine r_aload_n (pc := 8) C 0 d_Model_copyStreet_8 rfl rfl ?_
    refine r_iconst (pc := 9) C (v := 1) d_Model_copyStreet_9 (by decide) ?_
    refine r_iload_n (pc := 10) C 1 d_Model_copyStreet_10 rfl rfl ?_
    refine r_aload_n (pc := 11) C 0 d_Model_copyStreet_11 rfl rfl ?_
    refine r_iconst (pc := 12) C (v := 0) d_Model_copyStreet_12 (by decide) ?_
    refine r_iload_n (pc := 13) C 1 d_Model_copyStreet_13 rfl rfl ?_
    refine r_callVi (pc := 14) (As := [.int 0, .int v1]) (rest := [.int v1, .int 1, .ref (Γ.2.1 176)]) C ok_Model_v Lm_Model_192 k_id176 (by decide) ⟨by decide, by decide⟩ rfl rfl (Nat.le_of_ble_eq_true rfl) d_Model_copyStreet_14 hf (fun x D1 hc => c_Model_v Γ hc) (fun x1 D2 hf => ?_)
    refine r_callVv (pc := 17) (As := [.int 1, .int v1, .int x1]) (rest := []) C ok_Model_place Lm_Model_185 k_id176 (by decide) ⟨by decide, by decide⟩ rfl rfl (Nat.le_of_ble_eq_true rfl) d_Model_copyStreet_17 hf (fun x D1 hc => c_Model_place Γ hc) (fun x3 D4 hf => ?_)
    refine r_iinc (pc := 20) C (v := v1 + 1) (lv' := [(1, .int (v1 + 1)), (0, .ref (Γ.2.1 176))]) 1 d_Model_copyStreet_20 rfl rfl (Nat.le_of_ble_eq_true rfl) rfl ?_
    refine r_goto (pc := 23) C (tgt := 2) d_Model_copyStreet_23 (by decide) ?_
    exact r_lv (pc := 2) C [1, 0] rfl (hk2 (v1 + 1) D4 hf)
theorem tl_Model_copyStreet_2 {Γ : GmT} {G : Dt → Nat → List (Nat × Value) → List Value → Prop} {rr : Unit} {DD : Dt} (C : Cx Γ "RiverTuesdaysModel" b_Model_copyStreet 2 2 none none DD G) : ∀ (n : Nat) (v1 : Int32) (D : Dt), lp_Model_copyStreet_2 n v1 D = some (rr, DD) → G D 2 [(0, .ref (Γ.2.1 176)), (1, .int v1)] [] := by
  intro n
  induction n with
  | zero =>
    intro v1 D hf
    exact absurd (show (none : Option (Unit × Dt)) = some (rr, DD) from hf) (by simp)
  | succ n ih =>
    intro v1 D hf
    exact ts_Model_copyStreet_2 C (k2 := lp_Model_copyStreet_2 n) ih hf
def f_Model_copyStreet (D : Dt) : Option (Unit × Dt) :=
  lp_Model_copyStreet_2 FU 0 D
set_option maxHeartbeats 4000000 in
theorem te_Model_copyStreet {Γ : GmT} {G : Dt → Nat → List (Nat × Value) → List Value → Prop} {rr : Unit} {DD : Dt} (C : Cx Γ "RiverTuesdaysModel" b_Model_copyStreet 2 2 none none DD G) {D : Dt} (hf : f_Model_copyStreet D = some (rr, DD)) : G D 0 [(0, .ref (Γ.2.1 176))] [] := by
  unfold f_Model_copyStreet at hf
  refine r_iconst (pc := 0) C (v := 0) d_Model_copyStreet_0 (by decide) ?_
  refine r_istore_n (pc := 1) (lv' := [(1, .int 0), (0, .ref (Γ.2.1 176))]) C d_Model_copyStreet_1 rfl (Nat.le_of_ble_eq_true rfl) rfl ?_
  exact r_lv (pc := 2) C [1, 0] rfl (tl_Model_copyStreet_2 C FU 0 D hf)
theorem c_Model_copyStreet (Γ : GmT) {D : Dt} {rr : Unit} {DD : Dt} (hf : f_Model_copyStreet D = some (rr, DD)) : Mt Γ y_Model_copyStreet b_Model_copyStreet 2 none 2 [.ref (Γ.2.1 176)] D none DD := Mt_of (by decide) (Nat.le_of_ble_eq_true rfl) (fun G C => te_Model_copyStreet C hf)
def f_Model_wouldRun (v1 : Int32) (D : Dt) : Option (Int32 × Dt) :=
  bnd (f_Model_copyStreet D) (fun x1 D2 => bnd (f_Model_goes 1 1 D2) (fun x3 D4 => (if inb v1 8 = true then some (D4 190 v1.toNatClampNeg, D4) else none)))
set_option maxHeartbeats 4000000 in
theorem te_Model_wouldRun {Γ : GmT} {G : Dt → Nat → List (Nat × Value) → List Value → Prop} {rr : Int32} {DD : Dt} (C : Cx Γ "RiverTuesdaysModel" b_Model_wouldRun 2 5 (some .int) (some (.int rr)) DD G) {v1 : Int32} {D : Dt} (hf : f_Model_wouldRun v1 D = some (rr, DD)) : G D 0 [(0, .ref (Γ.2.1 176)), (1, .int v1)] [] := by
  unfold f_Model_wouldRun at hf
  refine r_aload_n (pc := 0) C 0 d_Model_wouldRun_0 rfl rfl ?_
  refine r_callVv (pc := 1) (As := []) (rest := []) C ok_Model_copyStreet Lm_Model_222 k_id176 (by decide) ⟨by decide, by decide⟩ rfl rfl (Nat.le_of_ble_eq_true rfl) d_Model_wouldRun_1 hf (fun x D1 hc => c_Model_copyStreet Γ hc) (fun x1 D2 hf => ?_)
  refine r_aload_n (pc := 4) C 0 d_Model_wouldRun_4 rfl rfl ?_
  refine r_iconst (pc := 5) C (v := 1) d_Model_wouldRun_5 (by decide) ?_
  refine r_iconst (pc := 6) C (v := 1) d_Model_wouldRun_6 (by decide) ?_
  refine r_callVv (pc := 7) (As := [.int 1, .int 1]) (rest := []) C ok_Model_goes Lm_Model_225 k_id176 (by decide) ⟨by decide, by decide⟩ rfl rfl (Nat.le_of_ble_eq_true rfl) d_Model_wouldRun_7 hf (fun x D1 hc => c_Model_goes Γ hc) (fun x3 D4 hf => ?_)
  refine r_aload_n (pc := 10) C 0 d_Model_wouldRun_10 rfl rfl ?_
  refine g_Model_ran (pc := 11) C k_id176 Lf_Model_50 d_Model_wouldRun_11 ?_
  refine r_iload_n (pc := 14) C 1 d_Model_wouldRun_14 rfl rfl ?_
  refine r_iald (pc := 15) C kq_Model_ran d_Model_wouldRun_15 hf (fun hf => ?_)
  exact r_iret (pc := 16) C d_Model_wouldRun_16 hf
theorem c_Model_wouldRun (Γ : GmT) {v1 : Int32} {D : Dt} {rr : Int32} {DD : Dt} (hf : f_Model_wouldRun v1 D = some (rr, DD)) : Mt Γ y_Model_wouldRun b_Model_wouldRun 2 (some .int) 5 [.ref (Γ.2.1 176), .int v1] D (some (.int rr)) DD := Mt_of (by decide) (Nat.le_of_ble_eq_true rfl) (fun G C => te_Model_wouldRun C hf)
def b_Model_mark_57 (v1 : Int32) (v2 : Int32) (D : Dt) : Option (Int32 × Dt) :=
  (if v2 = 1 then bnd (f_Model_wouldRun v1 D) (fun x5 D6 => some (x5, D6)) else (if v2 = 2 then (if inb v1 8 = true then bnd (f_Model_v 0 (8 + v1) D) (fun x7 D8 => some ((D 186 v1.toNatClampNeg) - x7, D8)) else none) else (if v2 = 3 then bnd (f_Model_higher 0 v1 D) (fun x9 D10 => some (x9, D10)) else (if v2 = 4 then bnd (f_Model_wouldRun v1 D) (fun x11 D12 => (if (2 : Int32) = 0 then none else some (x11 / 2, D12))) else (if inb v1 8 = true then some (D 187 v1.toNatClampNeg, D) else none)))))
set_option maxHeartbeats 4000000 in
theorem tb_Model_mark_57 {Γ : GmT} {G : Dt → Nat → List (Nat × Value) → List Value → Prop} {rr : Int32} {DD : Dt} (C : Cx Γ "RiverTuesdaysModel" b_Model_mark 4 6 (some .int) (some (.int rr)) DD G) {v1 : Int32} {v2 : Int32} {D : Dt} (hf : b_Model_mark_57 v1 v2 D = some (rr, DD)) : G D 57 [(0, .ref (Γ.2.1 176)), (1, .int v1), (2, .int v2)] [] := by
  unfold b_Model_mark_57 at hf
  refine r_iload_n (pc := 57) C 2 d_Model_mark_57 rfl rfl ?_
  by_cases q58_0 : v2 = 1
  · rw [if_pos q58_0] at hf
    refine r_tsK (pc := 58) (tgt := 88) C q58_0 d_Model_mark_58 (by decide) (by decide) (off := 30) (by decide) (by decide) ?_
    refine r_aload_n (pc := 88) C 0 d_Model_mark_88 rfl rfl ?_
    refine r_iload_n (pc := 89) C 1 d_Model_mark_89 rfl rfl ?_
    refine r_callVi (pc := 90) (As := [.int v1]) (rest := []) C ok_Model_wouldRun Lm_Model_229 k_id176 (by decide) ⟨by decide, by decide⟩ rfl rfl (Nat.le_of_ble_eq_true rfl) d_Model_mark_90 hf (fun x D1 hc => c_Model_wouldRun Γ hc) (fun x5 D6 hf => ?_)
    exact r_iret (pc := 93) C d_Model_mark_93 hf
  rw [if_neg q58_0] at hf
  by_cases q58_1 : v2 = 2
  · rw [if_pos q58_1] at hf
    refine r_tsK (pc := 58) (tgt := 94) C q58_1 d_Model_mark_58 (by decide) (by decide) (off := 36) (by decide) (by decide) ?_
    refine r_aload_n (pc := 94) C 0 d_Model_mark_94 rfl rfl ?_
    refine g_Model_rooms (pc := 95) C k_id176 Lf_Model_38 d_Model_mark_95 ?_
    refine r_iload_n (pc := 98) C 1 d_Model_mark_98 rfl rfl ?_
    refine r_iald (pc := 99) C kq_Model_rooms d_Model_mark_99 hf (fun hf => ?_)
    refine r_aload_n (pc := 100) C 0 d_Model_mark_100 rfl rfl ?_
    refine r_iconst (pc := 101) C (v := 0) d_Model_mark_101 (by decide) ?_
    refine r_bipush (pc := 102) C (v := 8) d_Model_mark_102 (by decide) ?_
    refine r_iload_n (pc := 104) C 1 d_Model_mark_104 rfl rfl ?_
    refine r_iadd (pc := 105) C d_Model_mark_105 ?_
    refine r_callVi (pc := 106) (As := [.int 0, .int (8 + v1)]) (rest := [.int (D 186 v1.toNatClampNeg)]) C ok_Model_v Lm_Model_192 k_id176 (by decide) ⟨by decide, by decide⟩ rfl rfl (Nat.le_of_ble_eq_true rfl) d_Model_mark_106 hf (fun x D1 hc => c_Model_v Γ hc) (fun x7 D8 hf => ?_)
    refine r_isub (pc := 109) C d_Model_mark_109 ?_
    exact r_iret (pc := 110) C d_Model_mark_110 hf
  rw [if_neg q58_1] at hf
  by_cases q58_2 : v2 = 3
  · rw [if_pos q58_2] at hf
    refine r_tsK (pc := 58) (tgt := 111) C q58_2 d_Model_mark_58 (by decide) (by decide) (off := 53) (by decide) (by decide) ?_
    refine r_aload_n (pc := 111) C 0 d_Model_mark_111 rfl rfl ?_
    refine r_iconst (pc := 112) C (v := 0) d_Model_mark_112 (by decide) ?_
    refine r_iload_n (pc := 113) C 1 d_Model_mark_113 rfl rfl ?_
    refine r_callVi (pc := 114) (As := [.int 0, .int v1]) (rest := []) C ok_Model_higher Lm_Model_195 k_id176 (by decide) ⟨by decide, by decide⟩ rfl rfl (Nat.le_of_ble_eq_true rfl) d_Model_mark_114 hf (fun x D1 hc => c_Model_higher Γ hc) (fun x9 D10 hf => ?_)
    exact r_iret (pc := 117) C d_Model_mark_117 hf
  rw [if_neg q58_2] at hf
  by_cases q58_3 : v2 = 4
  · rw [if_pos q58_3] at hf
    refine r_tsK (pc := 58) (tgt := 118) C q58_3 d_Model_mark_58 (by decide) (by decide) (off := 60) (by decide) (by decide) ?_
    refine r_aload_n (pc := 118) C 0 d_Model_mark_118 rfl rfl ?_
    refine r_iload_n (pc := 119) C 1 d_Model_mark_119 rfl rfl ?_
    refine r_callVi (pc := 120) (As := [.int v1]) (rest := []) C ok_Model_wouldRun Lm_Model_229 k_id176 (by decide) ⟨by decide, by decide⟩ rfl rfl (Nat.le_of_ble_eq_true rfl) d_Model_mark_120 hf (fun x D1 hc => c_Model_wouldRun Γ hc) (fun x11 D12 hf => ?_)
    refine r_iconst (pc := 123) C (v := 2) d_Model_mark_123 (by decide) ?_
    refine r_idiv (pc := 124) C d_Model_mark_124 hf (fun hf => ?_)
    exact r_iret (pc := 125) C d_Model_mark_125 hf
  rw [if_neg q58_3] at hf
  refine r_tsD (pc := 58) (tgt := 126) C [1, 2, 3, 4] (by simp only [List.mem_cons, List.not_mem_nil, not_or, or_false]; exact ⟨q58_0, q58_1, q58_2, q58_3⟩) d_Model_mark_58 (by decide) (by decide) (by decide) ?_
  refine r_aload_n (pc := 126) C 0 d_Model_mark_126 rfl rfl ?_
  refine g_Model_shutNow (pc := 127) C k_id176 Lf_Model_41 d_Model_mark_127 ?_
  refine r_iload_n (pc := 130) C 1 d_Model_mark_130 rfl rfl ?_
  refine r_iald (pc := 131) C kq_Model_shutNow d_Model_mark_131 hf (fun hf => ?_)
  exact r_iret (pc := 132) C d_Model_mark_132 hf
def b_Model_mark_51 (D : Dt) : Option (Int32 × Dt) :=
  bnd (f_Model_meets 3 D) (fun x13 D14 => some (x13, D14))
set_option maxHeartbeats 4000000 in
theorem tb_Model_mark_51 {Γ : GmT} {G : Dt → Nat → List (Nat × Value) → List Value → Prop} {rr : Int32} {DD : Dt} (C : Cx Γ "RiverTuesdaysModel" b_Model_mark 4 6 (some .int) (some (.int rr)) DD G) {D : Dt} (hf : b_Model_mark_51 D = some (rr, DD)) : G D 51 [(0, .ref (Γ.2.1 176))] [] := by
  unfold b_Model_mark_51 at hf
  refine r_aload_n (pc := 51) C 0 d_Model_mark_51 rfl rfl ?_
  refine r_iconst (pc := 52) C (v := 3) d_Model_mark_52 (by decide) ?_
  refine r_callVi (pc := 53) (As := [.int 3]) (rest := []) C ok_Model_meets Lm_Model_129 k_id176 (by decide) ⟨by decide, by decide⟩ rfl rfl (Nat.le_of_ble_eq_true rfl) d_Model_mark_53 hf (fun x D1 hc => c_Model_meets Γ hc) (fun x13 D14 hf => ?_)
  exact r_iret (pc := 56) C d_Model_mark_56 hf
def b_Model_mark_41 (v1 : Int32) (v2 : Int32) (v3 : Int32) (D : Dt) : Option (Int32 × Dt) :=
  (if v2 = 3 then (if v3 = 5 then b_Model_mark_57 v1 v2 D else b_Model_mark_51 D) else b_Model_mark_51 D)
set_option maxHeartbeats 4000000 in
theorem tb_Model_mark_41 {Γ : GmT} {G : Dt → Nat → List (Nat × Value) → List Value → Prop} {rr : Int32} {DD : Dt} (C : Cx Γ "RiverTuesdaysModel" b_Model_mark 4 6 (some .int) (some (.int rr)) DD G) {v1 : Int32} {v2 : Int32} {v3 : Int32} {D : Dt} (hf : b_Model_mark_41 v1 v2 v3 D = some (rr, DD)) : G D 41 [(0, .ref (Γ.2.1 176)), (1, .int v1), (2, .int v2), (3, .int v3)] [] := by
  unfold b_Model_mark_41 at hf
  refine r_iload_n (pc := 41) C 2 d_Model_mark_41 rfl rfl ?_
  refine r_iconst (pc := 42) C (v := 3) d_Model_mark_42 (by decide) ?_
  refine r_icmp_ne (pc := 43) C (tgt := 51) d_Model_mark_43 (by decide) hf (fun c43 hf => ?_) (fun c43 hf => ?_)
  · exact r_lv (pc := 51) C [0] rfl (tb_Model_mark_51 C hf)
  · refine r_iload_n (pc := 46) C 3 d_Model_mark_46 rfl rfl ?_
    refine r_iconst (pc := 47) C (v := 5) d_Model_mark_47 (by decide) ?_
    refine r_icmp_eq (pc := 48) C (tgt := 57) d_Model_mark_48 (by decide) hf (fun c48 hf => ?_) (fun c48 hf => ?_)
    · exact r_lv (pc := 57) C [0, 1, 2] rfl (tb_Model_mark_57 C hf)
    · exact r_lv (pc := 51) C [0] rfl (tb_Model_mark_51 C hf)
def f_Model_mark (v1 : Int32) (v2 : Int32) (D : Dt) : Option (Int32 × Dt) :=
  bnd (f_Model_isHouse v1 D) (fun x1 D2 => (if x1 = 0 then some ((-1), D2) else bnd (f_Model_in v2 1 5 D2) (fun x3 D4 => (if x3 = 0 then some ((-1), D4) else (if inb v1 8 = true then (if (D4 183 v1.toNatClampNeg) = v2 then b_Model_mark_57 v1 v2 D4 else (if v2 = 1 then (if (D4 183 v1.toNatClampNeg) = 4 then b_Model_mark_57 v1 v2 D4 else b_Model_mark_41 v1 v2 (D4 183 v1.toNatClampNeg) D4) else b_Model_mark_41 v1 v2 (D4 183 v1.toNatClampNeg) D4)) else none)))))
set_option maxHeartbeats 4000000 in
theorem te_Model_mark {Γ : GmT} {G : Dt → Nat → List (Nat × Value) → List Value → Prop} {rr : Int32} {DD : Dt} (C : Cx Γ "RiverTuesdaysModel" b_Model_mark 4 6 (some .int) (some (.int rr)) DD G) {v1 : Int32} {v2 : Int32} {D : Dt} (hf : f_Model_mark v1 v2 D = some (rr, DD)) : G D 0 [(0, .ref (Γ.2.1 176)), (1, .int v1), (2, .int v2)] [] := by
  unfold f_Model_mark at hf
  refine r_aload_n (pc := 0) C 0 d_Model_mark_0 rfl rfl ?_
  refine r_iload_n (pc := 1) C 1 d_Model_mark_1 rfl rfl ?_
  refine r_callVi (pc := 2) (As := [.int v1]) (rest := []) C ok_Model_isHouse Lm_Model_216 k_id176 (by decide) ⟨by decide, by decide⟩ rfl rfl (Nat.le_of_ble_eq_true rfl) d_Model_mark_2 hf (fun x D1 hc => c_Model_isHouse Γ hc) (fun x1 D2 hf => ?_)
  refine r_if_eq (pc := 5) C (tgt := 17) d_Model_mark_5 (by decide) hf (fun c5 hf => ?_) (fun c5 hf => ?_)
  · refine r_iconst (pc := 17) C (v := (-1)) d_Model_mark_17 (by decide) ?_
    exact r_iret (pc := 18) C d_Model_mark_18 hf
  · refine r_iload_n (pc := 8) C 2 d_Model_mark_8 rfl rfl ?_
    refine r_iconst (pc := 9) C (v := 1) d_Model_mark_9 (by decide) ?_
    refine r_iconst (pc := 10) C (v := 5) d_Model_mark_10 (by decide) ?_
    refine r_callSi (pc := 11) (As := [.int v2, .int 1, .int 5]) (rest := []) C ok_Model_in Lm_Model_118 ⟨by decide, by decide⟩ rfl rfl (Nat.le_of_ble_eq_true rfl) d_Model_mark_11 hf (fun x D1 hc => c_Model_in Γ hc) (fun x3 D4 hf => ?_)
    refine r_if_ne (pc := 14) C (tgt := 19) d_Model_mark_14 (by decide) hf (fun c14 hf => ?_) (fun c14 hf => ?_)
    · refine r_aload_n (pc := 19) C 0 d_Model_mark_19 rfl rfl ?_
      refine g_Model_kinds (pc := 20) C k_id176 Lf_Model_29 d_Model_mark_20 ?_
      refine r_iload_n (pc := 23) C 1 d_Model_mark_23 rfl rfl ?_
      refine r_iald (pc := 24) C kq_Model_kinds d_Model_mark_24 hf (fun hf => ?_)
      refine r_istore_n (pc := 25) (lv' := [(3, .int (D4 183 v1.toNatClampNeg)), (0, .ref (Γ.2.1 176)), (1, .int v1), (2, .int v2)]) C d_Model_mark_25 rfl (Nat.le_of_ble_eq_true rfl) rfl ?_
      refine r_iload_n (pc := 26) C 0 d_Model_mark_26 rfl rfl ?_
      refine r_iload_n (pc := 27) C 3 d_Model_mark_27 rfl rfl ?_
      refine r_icmp_eq (pc := 28) C (tgt := 57) d_Model_mark_28 (by decide) hf (fun c28 hf => ?_) (fun c28 hf => ?_)
      · exact r_lv (pc := 57) C [1, 2, 3] rfl (tb_Model_mark_57 C hf)
      · refine r_iload_n (pc := 31) C 3 d_Model_mark_31 rfl rfl ?_
        refine r_iconst (pc := 32) C (v := 1) d_Model_mark_32 (by decide) ?_
        refine r_icmp_ne (pc := 33) C (tgt := 41) d_Model_mark_33 (by decide) hf (fun c33 hf => ?_) (fun c33 hf => ?_)
        · exact r_lv (pc := 41) C [1, 2, 3, 0] rfl (tb_Model_mark_41 C hf)
        · refine r_iload_n (pc := 36) C 0 d_Model_mark_36 rfl rfl ?_
          refine r_iconst (pc := 37) C (v := 4) d_Model_mark_37 (by decide) ?_
          refine r_icmp_eq (pc := 38) C (tgt := 57) d_Model_mark_38 (by decide) hf (fun c38 hf => ?_) (fun c38 hf => ?_)
          · exact r_lv (pc := 57) C [1, 2, 3] rfl (tb_Model_mark_57 C hf)
          · exact r_lv (pc := 41) C [1, 2, 3, 0] rfl (tb_Model_mark_41 C hf)
    · refine r_iconst (pc := 17) C (v := (-1)) d_Model_mark_17 (by decide) ?_
      exact r_iret (pc := 18) C d_Model_mark_18 hf
theorem c_Model_mark (Γ : GmT) {v1 : Int32} {v2 : Int32} {D : Dt} {rr : Int32} {DD : Dt} (hf : f_Model_mark v1 v2 D = some (rr, DD)) : Mt Γ y_Model_mark b_Model_mark 4 (some .int) 6 [.ref (Γ.2.1 176), .int v1, .int v2] D (some (.int rr)) DD := Mt_of (by decide) (Nat.le_of_ble_eq_true rfl) (fun G C => te_Model_mark C hf)
def f_Model_sill (v1 : Int32) (v2 : Int32) (D : Dt) : Option (Int32 × Dt) :=
  bnd (f_Model_isHouse v1 D) (fun x1 D2 => (if x1 = 0 then some ((-1), D2) else bnd (f_Model_in v2 0 20 D2) (fun x3 D4 => (if x3 = 0 then some ((-1), D4) else (if inb v1 8 = true then (if inb v1 8 = true then nm (wr D4 185 v1.toNatClampNeg v2) (fun D5 => some (D4 185 v1.toNatClampNeg, D5)) else none) else none)))))
set_option maxHeartbeats 4000000 in
theorem te_Model_sill {Γ : GmT} {G : Dt → Nat → List (Nat × Value) → List Value → Prop} {rr : Int32} {DD : Dt} (C : Cx Γ "RiverTuesdaysModel" b_Model_sill 4 3 (some .int) (some (.int rr)) DD G) {v1 : Int32} {v2 : Int32} {D : Dt} (hf : f_Model_sill v1 v2 D = some (rr, DD)) : G D 0 [(0, .ref (Γ.2.1 176)), (1, .int v1), (2, .int v2)] [] := by
  unfold f_Model_sill at hf
  refine r_aload_n (pc := 0) C 0 d_Model_sill_0 rfl rfl ?_
  refine r_iload_n (pc := 1) C 1 d_Model_sill_1 rfl rfl ?_
  refine r_callVi (pc := 2) (As := [.int v1]) (rest := []) C ok_Model_isHouse Lm_Model_216 k_id176 (by decide) ⟨by decide, by decide⟩ rfl rfl (Nat.le_of_ble_eq_true rfl) d_Model_sill_2 hf (fun x D1 hc => c_Model_isHouse Γ hc) (fun x1 D2 hf => ?_)
  refine r_if_eq (pc := 5) C (tgt := 18) d_Model_sill_5 (by decide) hf (fun c5 hf => ?_) (fun c5 hf => ?_)
  · refine r_iconst (pc := 18) C (v := (-1)) d_Model_sill_18 (by decide) ?_
    exact r_iret (pc := 19) C d_Model_sill_19 hf
  · refine r_iload_n (pc := 8) C 2 d_Model_sill_8 rfl rfl ?_
    refine r_iconst (pc := 9) C (v := 0) d_Model_sill_9 (by decide) ?_
    refine r_bipush (pc := 10) C (v := 20) d_Model_sill_10 (by decide) ?_
    refine r_callSi (pc := 12) (As := [.int v2, .int 0, .int 20]) (rest := []) C ok_Model_in Lm_Model_118 ⟨by decide, by decide⟩ rfl rfl (Nat.le_of_ble_eq_true rfl) d_Model_sill_12 hf (fun x D1 hc => c_Model_in Γ hc) (fun x3 D4 hf => ?_)
    refine r_if_ne (pc := 15) C (tgt := 20) d_Model_sill_15 (by decide) hf (fun c15 hf => ?_) (fun c15 hf => ?_)
    · refine r_aload_n (pc := 20) C 0 d_Model_sill_20 rfl rfl ?_
      refine g_Model_sills (pc := 21) C k_id176 Lf_Model_35 d_Model_sill_21 ?_
      refine r_iload_n (pc := 24) C 1 d_Model_sill_24 rfl rfl ?_
      refine r_iald (pc := 25) C kq_Model_sills d_Model_sill_25 hf (fun hf => ?_)
      refine r_istore_n (pc := 26) (lv' := [(3, .int (D4 185 v1.toNatClampNeg)), (0, .ref (Γ.2.1 176)), (1, .int v1), (2, .int v2)]) C d_Model_sill_26 rfl (Nat.le_of_ble_eq_true rfl) rfl ?_
      refine r_aload_n (pc := 27) C 1 d_Model_sill_27 rfl rfl ?_
      refine g_Model_sills (pc := 28) C k_id176 Lf_Model_35 d_Model_sill_28 ?_
      refine r_iload_n (pc := 31) C 2 d_Model_sill_31 rfl rfl ?_
      refine r_iload_n (pc := 32) C 3 d_Model_sill_32 rfl rfl ?_
      refine r_iast (pc := 33) C kq_Model_sills d_Model_sill_33 hf (fun hf => ?_)
      refine r_nmD hf (fun D5 hf => ?_)
      refine r_iload_n (pc := 34) C 0 d_Model_sill_34 rfl rfl ?_
      exact r_iret (pc := 35) C d_Model_sill_35 hf
    · refine r_iconst (pc := 18) C (v := (-1)) d_Model_sill_18 (by decide) ?_
      exact r_iret (pc := 19) C d_Model_sill_19 hf
theorem c_Model_sill (Γ : GmT) {v1 : Int32} {v2 : Int32} {D : Dt} {rr : Int32} {DD : Dt} (hf : f_Model_sill v1 v2 D = some (rr, DD)) : Mt Γ y_Model_sill b_Model_sill 4 (some .int) 3 [.ref (Γ.2.1 176), .int v1, .int v2] D (some (.int rr)) DD := Mt_of (by decide) (Nat.le_of_ble_eq_true rfl) (fun G C => te_Model_sill C hf)
def f_Model_flow (v1 : Int32) (D : Dt) : Option (Int32 × Dt) :=
  bnd (f_Model_in v1 1 9 D) (fun x1 D2 => (if x1 = 0 then some ((-1), D2) else (if (D2 176 10) = 0 then some ((-4), D2) else nm (wr D2 176 8 v1) (fun D3 => some (D2 176 8, D3)))))
set_option maxHeartbeats 4000000 in
theorem te_Model_flow {Γ : GmT} {G : Dt → Nat → List (Nat × Value) → List Value → Prop} {rr : Int32} {DD : Dt} (C : Cx Γ "RiverTuesdaysModel" b_Model_flow 3 2 (some .int) (some (.int rr)) DD G) {v1 : Int32} {D : Dt} (hf : f_Model_flow v1 D = some (rr, DD)) : G D 0 [(0, .ref (Γ.2.1 176)), (1, .int v1)] [] := by
  unfold f_Model_flow at hf
  refine r_iload_n (pc := 0) C 1 d_Model_flow_0 rfl rfl ?_
  refine r_iconst (pc := 1) C (v := 1) d_Model_flow_1 (by decide) ?_
  refine r_bipush (pc := 2) C (v := 9) d_Model_flow_2 (by decide) ?_
  refine r_callSi (pc := 4) (As := [.int v1, .int 1, .int 9]) (rest := []) C ok_Model_in Lm_Model_118 ⟨by decide, by decide⟩ rfl rfl (Nat.le_of_ble_eq_true rfl) d_Model_flow_4 hf (fun x D1 hc => c_Model_in Γ hc) (fun x1 D2 hf => ?_)
  refine r_if_ne (pc := 7) C (tgt := 12) d_Model_flow_7 (by decide) hf (fun c7 hf => ?_) (fun c7 hf => ?_)
  · refine r_aload_n (pc := 12) C 0 d_Model_flow_12 rfl rfl ?_
    refine g_Model_n (pc := 13) C k_id176 Lf_Model_176 d_Model_flow_13 ?_
    refine r_if_ne (pc := 16) C (tgt := 22) d_Model_flow_16 (by decide) hf (fun c16 hf => ?_) (fun c16 hf => ?_)
    · refine r_aload_n (pc := 22) C 0 d_Model_flow_22 rfl rfl ?_
      refine g_Model_flowNow (pc := 23) C k_id176 Lf_Model_179 d_Model_flow_23 ?_
      refine r_istore_n (pc := 26) (lv' := [(2, .int (D2 176 8)), (0, .ref (Γ.2.1 176)), (1, .int v1)]) C d_Model_flow_26 rfl (Nat.le_of_ble_eq_true rfl) rfl ?_
      refine r_aload_n (pc := 27) C 1 d_Model_flow_27 rfl rfl ?_
      refine r_iload_n (pc := 28) C 2 d_Model_flow_28 rfl rfl ?_
      refine p_Model_flowNow (pc := 29) C k_id176 Lf_Model_179 d_Model_flow_29 ?_
      refine r_nmD hf (fun D3 hf => ?_)
      refine r_iload_n (pc := 32) C 0 d_Model_flow_32 rfl rfl ?_
      exact r_iret (pc := 33) C d_Model_flow_33 hf
    · refine r_bipush (pc := 19) C (v := (-4)) d_Model_flow_19 (by decide) ?_
      exact r_iret (pc := 21) C d_Model_flow_21 hf
  · refine r_iconst (pc := 10) C (v := (-1)) d_Model_flow_10 (by decide) ?_
    exact r_iret (pc := 11) C d_Model_flow_11 hf
theorem c_Model_flow (Γ : GmT) {v1 : Int32} {D : Dt} {rr : Int32} {DD : Dt} (hf : f_Model_flow v1 D = some (rr, DD)) : Mt Γ y_Model_flow b_Model_flow 3 (some .int) 2 [.ref (Γ.2.1 176), .int v1] D (some (.int rr)) DD := Mt_of (by decide) (Nat.le_of_ble_eq_true rfl) (fun G C => te_Model_flow C hf)
def f_Model_shut (v1 : Int32) (v2 : Int32) (D : Dt) : Option (Int32 × Dt) :=
  bnd (f_Model_isHouse v1 D) (fun x1 D2 => (if x1 = 0 then some ((-1), D2) else bnd (f_Model_in v2 0 1 D2) (fun x3 D4 => (if x3 = 0 then some ((-1), D4) else (if inb v1 8 = true then (if (D4 183 v1.toNatClampNeg) = 5 then (if inb v1 8 = true then (if inb v1 8 = true then nm (wr D4 187 v1.toNatClampNeg v2) (fun D5 => some (D4 187 v1.toNatClampNeg, D5)) else none) else none) else bnd (f_Model_meets 3 D4) (fun x6 D7 => some (x6, D7))) else none)))))
set_option maxHeartbeats 4000000 in
theorem te_Model_shut {Γ : GmT} {G : Dt → Nat → List (Nat × Value) → List Value → Prop} {rr : Int32} {DD : Dt} (C : Cx Γ "RiverTuesdaysModel" b_Model_shut 4 3 (some .int) (some (.int rr)) DD G) {v1 : Int32} {v2 : Int32} {D : Dt} (hf : f_Model_shut v1 v2 D = some (rr, DD)) : G D 0 [(0, .ref (Γ.2.1 176)), (1, .int v1), (2, .int v2)] [] := by
  unfold f_Model_shut at hf
  refine r_aload_n (pc := 0) C 0 d_Model_shut_0 rfl rfl ?_
  refine r_iload_n (pc := 1) C 1 d_Model_shut_1 rfl rfl ?_
  refine r_callVi (pc := 2) (As := [.int v1]) (rest := []) C ok_Model_isHouse Lm_Model_216 k_id176 (by decide) ⟨by decide, by decide⟩ rfl rfl (Nat.le_of_ble_eq_true rfl) d_Model_shut_2 hf (fun x D1 hc => c_Model_isHouse Γ hc) (fun x1 D2 hf => ?_)
  refine r_if_eq (pc := 5) C (tgt := 17) d_Model_shut_5 (by decide) hf (fun c5 hf => ?_) (fun c5 hf => ?_)
  · refine r_iconst (pc := 17) C (v := (-1)) d_Model_shut_17 (by decide) ?_
    exact r_iret (pc := 18) C d_Model_shut_18 hf
  · refine r_iload_n (pc := 8) C 2 d_Model_shut_8 rfl rfl ?_
    refine r_iconst (pc := 9) C (v := 0) d_Model_shut_9 (by decide) ?_
    refine r_iconst (pc := 10) C (v := 1) d_Model_shut_10 (by decide) ?_
    refine r_callSi (pc := 11) (As := [.int v2, .int 0, .int 1]) (rest := []) C ok_Model_in Lm_Model_118 ⟨by decide, by decide⟩ rfl rfl (Nat.le_of_ble_eq_true rfl) d_Model_shut_11 hf (fun x D1 hc => c_Model_in Γ hc) (fun x3 D4 hf => ?_)
    refine r_if_ne (pc := 14) C (tgt := 19) d_Model_shut_14 (by decide) hf (fun c14 hf => ?_) (fun c14 hf => ?_)
    · refine r_aload_n (pc := 19) C 0 d_Model_shut_19 rfl rfl ?_
      refine g_Model_kinds (pc := 20) C k_id176 Lf_Model_29 d_Model_shut_20 ?_
      refine r_iload_n (pc := 23) C 1 d_Model_shut_23 rfl rfl ?_
      refine r_iald (pc := 24) C kq_Model_kinds d_Model_shut_24 hf (fun hf => ?_)
      refine r_iconst (pc := 25) C (v := 5) d_Model_shut_25 (by decide) ?_
      refine r_icmp_eq (pc := 26) C (tgt := 35) d_Model_shut_26 (by decide) hf (fun c26 hf => ?_) (fun c26 hf => ?_)
      · refine r_aload_n (pc := 35) C 0 d_Model_shut_35 rfl rfl ?_
        refine g_Model_shutNow (pc := 36) C k_id176 Lf_Model_41 d_Model_shut_36 ?_
        refine r_iload_n (pc := 39) C 1 d_Model_shut_39 rfl rfl ?_
        refine r_iald (pc := 40) C kq_Model_shutNow d_Model_shut_40 hf (fun hf => ?_)
        refine r_istore_n (pc := 41) (lv' := [(3, .int (D4 187 v1.toNatClampNeg)), (0, .ref (Γ.2.1 176)), (1, .int v1), (2, .int v2)]) C d_Model_shut_41 rfl (Nat.le_of_ble_eq_true rfl) rfl ?_
        refine r_aload_n (pc := 42) C 1 d_Model_shut_42 rfl rfl ?_
        refine g_Model_shutNow (pc := 43) C k_id176 Lf_Model_41 d_Model_shut_43 ?_
        refine r_iload_n (pc := 46) C 2 d_Model_shut_46 rfl rfl ?_
        refine r_iload_n (pc := 47) C 3 d_Model_shut_47 rfl rfl ?_
        refine r_iast (pc := 48) C kq_Model_shutNow d_Model_shut_48 hf (fun hf => ?_)
        refine r_nmD hf (fun D5 hf => ?_)
        refine r_iload_n (pc := 49) C 0 d_Model_shut_49 rfl rfl ?_
        exact r_iret (pc := 50) C d_Model_shut_50 hf
      · refine r_aload_n (pc := 29) C 0 d_Model_shut_29 rfl rfl ?_
        refine r_iconst (pc := 30) C (v := 3) d_Model_shut_30 (by decide) ?_
        refine r_callVi (pc := 31) (As := [.int 3]) (rest := []) C ok_Model_meets Lm_Model_129 k_id176 (by decide) ⟨by decide, by decide⟩ rfl rfl (Nat.le_of_ble_eq_true rfl) d_Model_shut_31 hf (fun x D1 hc => c_Model_meets Γ hc) (fun x6 D7 hf => ?_)
        exact r_iret (pc := 34) C d_Model_shut_34 hf
    · refine r_iconst (pc := 17) C (v := (-1)) d_Model_shut_17 (by decide) ?_
      exact r_iret (pc := 18) C d_Model_shut_18 hf
theorem c_Model_shut (Γ : GmT) {v1 : Int32} {v2 : Int32} {D : Dt} {rr : Int32} {DD : Dt} (hf : f_Model_shut v1 v2 D = some (rr, DD)) : Mt Γ y_Model_shut b_Model_shut 4 (some .int) 3 [.ref (Γ.2.1 176), .int v1, .int v2] D (some (.int rr)) DD := Mt_of (by decide) (Nat.le_of_ble_eq_true rfl) (fun G C => te_Model_shut C hf)
def f_Model_pump (v1 : Int32) (D : Dt) : Option (Int32 × Dt) :=
  bnd (f_Model_isHouse v1 D) (fun x1 D2 => (if x1 = 0 then some ((-1), D2) else bnd (f_Model_v 0 (8 + v1) D2) (fun x3 D4 => bnd (f_Model_place 0 (8 + v1) 0 D4) (fun x5 D6 => bnd (f_Model_add 0 25 x3 D6) (fun x7 D8 => some (x3, D8))))))
set_option maxHeartbeats 4000000 in
theorem te_Model_pump {Γ : GmT} {G : Dt → Nat → List (Nat × Value) → List Value → Prop} {rr : Int32} {DD : Dt} (C : Cx Γ "RiverTuesdaysModel" b_Model_pump 3 3 (some .int) (some (.int rr)) DD G) {v1 : Int32} {D : Dt} (hf : f_Model_pump v1 D = some (rr, DD)) : G D 0 [(0, .ref (Γ.2.1 176)), (1, .int v1)] [] := by
  unfold f_Model_pump at hf
  refine r_aload_n (pc := 0) C 0 d_Model_pump_0 rfl rfl ?_
  refine r_iload_n (pc := 1) C 1 d_Model_pump_1 rfl rfl ?_
  refine r_callVi (pc := 2) (As := [.int v1]) (rest := []) C ok_Model_isHouse Lm_Model_216 k_id176 (by decide) ⟨by decide, by decide⟩ rfl rfl (Nat.le_of_ble_eq_true rfl) d_Model_pump_2 hf (fun x D1 hc => c_Model_isHouse Γ hc) (fun x1 D2 hf => ?_)
  refine r_if_ne (pc := 5) C (tgt := 10) d_Model_pump_5 (by decide) hf (fun c5 hf => ?_) (fun c5 hf => ?_)
  · refine r_aload_n (pc := 10) C 0 d_Model_pump_10 rfl rfl ?_
    refine r_iconst (pc := 11) C (v := 0) d_Model_pump_11 (by decide) ?_
    refine r_bipush (pc := 12) C (v := 8) d_Model_pump_12 (by decide) ?_
    refine r_iload_n (pc := 14) C 1 d_Model_pump_14 rfl rfl ?_
    refine r_iadd (pc := 15) C d_Model_pump_15 ?_
    refine r_callVi (pc := 16) (As := [.int 0, .int (8 + v1)]) (rest := []) C ok_Model_v Lm_Model_192 k_id176 (by decide) ⟨by decide, by decide⟩ rfl rfl (Nat.le_of_ble_eq_true rfl) d_Model_pump_16 hf (fun x D1 hc => c_Model_v Γ hc) (fun x3 D4 hf => ?_)
    refine r_istore_n (pc := 19) (lv' := [(2, .int x3), (0, .ref (Γ.2.1 176)), (1, .int v1)]) C d_Model_pump_19 rfl (Nat.le_of_ble_eq_true rfl) rfl ?_
    refine r_aload_n (pc := 20) C 1 d_Model_pump_20 rfl rfl ?_
    refine r_iconst (pc := 21) C (v := 0) d_Model_pump_21 (by decide) ?_
    refine r_bipush (pc := 22) C (v := 8) d_Model_pump_22 (by decide) ?_
    refine r_iload_n (pc := 24) C 2 d_Model_pump_24 rfl rfl ?_
    refine r_iadd (pc := 25) C d_Model_pump_25 ?_
    refine r_iconst (pc := 26) C (v := 0) d_Model_pump_26 (by decide) ?_
    refine r_callVv (pc := 27) (As := [.int 0, .int (8 + v1), .int 0]) (rest := []) C ok_Model_place Lm_Model_185 k_id176 (by decide) ⟨by decide, by decide⟩ rfl rfl (Nat.le_of_ble_eq_true rfl) d_Model_pump_27 hf (fun x D1 hc => c_Model_place Γ hc) (fun x5 D6 hf => ?_)
    refine r_aload_n (pc := 30) C 1 d_Model_pump_30 rfl rfl ?_
    refine r_iconst (pc := 31) C (v := 0) d_Model_pump_31 (by decide) ?_
    refine r_bipush (pc := 32) C (v := 25) d_Model_pump_32 (by decide) ?_
    refine r_iload_n (pc := 34) C 0 d_Model_pump_34 rfl rfl ?_
    refine r_callVv (pc := 35) (As := [.int 0, .int 25, .int x3]) (rest := []) C ok_Model_add Lm_Model_201 k_id176 (by decide) ⟨by decide, by decide⟩ rfl rfl (Nat.le_of_ble_eq_true rfl) d_Model_pump_35 hf (fun x D1 hc => c_Model_add Γ hc) (fun x7 D8 hf => ?_)
    refine r_iload_n (pc := 38) C 0 d_Model_pump_38 rfl rfl ?_
    exact r_iret (pc := 39) C d_Model_pump_39 hf
  · refine r_iconst (pc := 8) C (v := (-1)) d_Model_pump_8 (by decide) ?_
    exact r_iret (pc := 9) C d_Model_pump_9 hf
theorem c_Model_pump (Γ : GmT) {v1 : Int32} {D : Dt} {rr : Int32} {DD : Dt} (hf : f_Model_pump v1 D = some (rr, DD)) : Mt Γ y_Model_pump b_Model_pump 3 (some .int) 3 [.ref (Γ.2.1 176), .int v1] D (some (.int rr)) DD := Mt_of (by decide) (Nat.le_of_ble_eq_true rfl) (fun G C => te_Model_pump C hf)
def b_Model_goesBy_53 (v1 : Int32) (s0 : Int32) (s1 : Int32) (rs2 : Nat) (D : Dt) : Option (Unit × Dt) :=
  (if inb s1 1620 = true then nm (wr D rs2 s1.toNatClampNeg s0) (fun D1 => bnd (f_Model_goes 0 v1 D1) (fun x2 D3 => nm (wr D3 176 26 ((D3 176 26) + 1)) (fun D4 => some ((), D4)))) else none)
set_option maxHeartbeats 4000000 in
theorem tb_Model_goesBy_53 {Γ : GmT} {G : Dt → Nat → List (Nat × Value) → List Value → Prop} {rr : Unit} {DD : Dt} (C : Cx Γ "RiverTuesdaysModel" b_Model_goesBy 4 5 none none DD G) {v1 : Int32} {s0 : Int32} {s1 : Int32} {rs2 : Nat} (hrs2 : isA 11 rs2 1620) {D : Dt} (hf : b_Model_goesBy_53 v1 s0 s1 rs2 D = some (rr, DD)) : G D 53 [(0, .ref (Γ.2.1 176)), (1, .int v1)] [.int s0, .int s1, .ref (Γ.2.1 rs2)] := by
  unfold b_Model_goesBy_53 at hf
  refine r_iast (pc := 53) C hrs2 d_Model_goesBy_53 hf (fun hf => ?_)
  refine r_nmD hf (fun D1 hf => ?_)
  refine r_aload_n (pc := 54) C 0 d_Model_goesBy_54 rfl rfl ?_
  refine r_iconst (pc := 55) C (v := 0) d_Model_goesBy_55 (by decide) ?_
  refine r_iload_n (pc := 56) C 1 d_Model_goesBy_56 rfl rfl ?_
  refine r_callVv (pc := 57) (As := [.int 0, .int v1]) (rest := []) C ok_Model_goes Lm_Model_225 k_id176 (by decide) ⟨by decide, by decide⟩ rfl rfl (Nat.le_of_ble_eq_true rfl) d_Model_goesBy_57 hf (fun x D1 hc => c_Model_goes Γ hc) (fun x2 D3 hf => ?_)
  refine r_aload_n (pc := 60) C 0 d_Model_goesBy_60 rfl rfl ?_
  refine r_dup (pc := 61) C d_Model_goesBy_61 rfl ?_
  refine g_Model_hourMany (pc := 62) C k_id176 Lf_Model_189 d_Model_goesBy_62 ?_
  refine r_iconst (pc := 65) C (v := 1) d_Model_goesBy_65 (by decide) ?_
  refine r_iadd (pc := 66) C d_Model_goesBy_66 ?_
  refine p_Model_hourMany (pc := 67) C k_id176 Lf_Model_189 d_Model_goesBy_67 ?_
  refine r_nmD hf (fun D4 hf => ?_)
  exact r_vret (pc := 70) C d_Model_goesBy_70 hf
def s_Model_goesBy_10 (k10 : Int32 → Int32 → Int32 → Dt → Option (Unit × Dt)) (v1 : Int32) (v2 : Int32) (v3 : Int32) (D : Dt) : Option (Unit × Dt) :=
  (if 26 ≤ v3 then (if v1 = 0 then b_Model_goesBy_53 v1 0 (v2 + 26) 192 D else b_Model_goesBy_53 v1 1 (v2 + 26) 192 D) else bnd (f_Model_v 0 v3 D) (fun x5 D6 => (if inb (v2 + v3) 1620 = true then nm (wr D6 192 (v2 + v3).toNatClampNeg x5) (fun D7 => k10 v1 v2 (v3 + 1) D7) else none)))
def lp_Model_goesBy_10 (n : Nat) : Int32 → Int32 → Int32 → Dt → Option (Unit × Dt) := itr (fun _ _ _ _ => none) (s_Model_goesBy_10) n
set_option maxHeartbeats 4000000 in
theorem ts_Model_goesBy_10 {Γ : GmT} {G : Dt → Nat → List (Nat × Value) → List Value → Prop} {rr : Unit} {DD : Dt} (C : Cx Γ "RiverTuesdaysModel" b_Model_goesBy 4 5 none none DD G) {k10 : Int32 → Int32 → Int32 → Dt → Option (Unit × Dt)} (hk10 : ∀ (v1 : Int32) (v2 : Int32) (v3 : Int32) (D : Dt), k10 v1 v2 v3 D = some (rr, DD) → G D 10 [(0, .ref (Γ.2.1 176)), (1, .int v1), (2, .int v2), (3, .int v3)] []) {v1 : Int32} {v2 : Int32} {v3 : Int32} {D : Dt} (hf : s_Model_goesBy_10 k10 v1 v2 v3 D = some (rr, DD)) : G D 10 [(0, .ref (Γ.2.1 176)), (1, .int v1), (2, .int v2), (3, .int v3)] [] := by
  unfold s_Model_goesBy_10 at hf
  refine r_iload_n (pc := 10) C 3 d_Model_goesBy_10 rfl rfl ?_
  refine r_bipush (pc := 11) C (v := 26) d_Model_goesBy_11 (by decide) ?_
  refine r_icmp_ge (pc := 13) C (tgt := 36) d_Model_goesBy_13 (by decide) hf (fun c13 hf => ?_) (fun c13 hf => ?_)
  · refine r_aload_n (pc := 36) C 0 d_Model_goesBy_36 rfl rfl ?_
    refine g_Model_hours (pc := 37) C k_id176 Lf_Model_56 d_Model_goesBy_37 ?_
    refine r_iload_n (pc := 40) C 2 d_Model_goesBy_40 rfl rfl ?_
    refine r_bipush (pc := 41) C (v := 26) d_Model_goesBy_41 (by decide) ?_
    refine r_iadd (pc := 43) C d_Model_goesBy_43 ?_
    refine r_iload_n (pc := 44) C 1 d_Model_goesBy_44 rfl rfl ?_
    refine r_if_eq (pc := 45) C (tgt := 52) d_Model_goesBy_45 (by decide) hf (fun c45 hf => ?_) (fun c45 hf => ?_)
    · refine r_iconst (pc := 52) C (v := 0) d_Model_goesBy_52 (by decide) ?_
      exact r_lv (pc := 53) C [0, 1] rfl (tb_Model_goesBy_53 C kq_Model_hours hf)
    · refine r_iconst (pc := 48) C (v := 1) d_Model_goesBy_48 (by decide) ?_
      refine r_goto (pc := 49) C (tgt := 53) d_Model_goesBy_49 (by decide) ?_
      exact r_lv (pc := 53) C [0, 1] rfl (tb_Model_goesBy_53 C kq_Model_hours hf)
  · refine r_aload_n (pc := 16) C 0 d_Model_goesBy_16 rfl rfl ?_
    refine g_Model_hours (pc := 17) C k_id176 Lf_Model_56 d_Model_goesBy_17 ?_
    refine r_iload_n (pc := 20) C 2 d_Model_goesBy_20 rfl rfl ?_
    refine r_iload_n (pc := 21) C 3 d_Model_goesBy_21 rfl rfl ?_
    refine r_iadd (pc := 22) C d_Model_goesBy_22 ?_
    refine r_aload_n (pc := 23) C 0 d_Model_goesBy_23 rfl rfl ?_
    refine r_iconst (pc := 24) C (v := 0) d_Model_goesBy_24 (by decide) ?_
    refine r_iload_n (pc := 25) C 3 d_Model_goesBy_25 rfl rfl ?_
    refine r_callVi (pc := 26) (As := [.int 0, .int v3]) (rest := [.int (v2 + v3), .ref (Γ.2.1 192)]) C ok_Model_v Lm_Model_192 k_id176 (by decide) ⟨by decide, by decide⟩ rfl rfl (Nat.le_of_ble_eq_true rfl) d_Model_goesBy_26 hf (fun x D1 hc => c_Model_v Γ hc) (fun x5 D6 hf => ?_)
    refine r_iast (pc := 29) C kq_Model_hours d_Model_goesBy_29 hf (fun hf => ?_)
    refine r_nmD hf (fun D7 hf => ?_)
    refine r_iinc (pc := 30) C (v := v3 + 1) (lv' := [(3, .int (v3 + 1)), (0, .ref (Γ.2.1 176)), (1, .int v1), (2, .int v2)]) 3 d_Model_goesBy_30 rfl rfl (Nat.le_of_ble_eq_true rfl) rfl ?_
    refine r_goto (pc := 33) C (tgt := 10) d_Model_goesBy_33 (by decide) ?_
    exact r_lv (pc := 10) C [1, 2, 3, 0] rfl (hk10 v1 v2 (v3 + 1) D7 hf)
theorem tl_Model_goesBy_10 {Γ : GmT} {G : Dt → Nat → List (Nat × Value) → List Value → Prop} {rr : Unit} {DD : Dt} (C : Cx Γ "RiverTuesdaysModel" b_Model_goesBy 4 5 none none DD G) : ∀ (n : Nat) (v1 : Int32) (v2 : Int32) (v3 : Int32) (D : Dt), lp_Model_goesBy_10 n v1 v2 v3 D = some (rr, DD) → G D 10 [(0, .ref (Γ.2.1 176)), (1, .int v1), (2, .int v2), (3, .int v3)] [] := by
  intro n
  induction n with
  | zero =>
    intro v1 v2 v3 D hf
    exact absurd (show (none : Option (Unit × Dt)) = some (rr, DD) from hf) (by simp)
  | succ n ih =>
    intro v1 v2 v3 D hf
    exact ts_Model_goesBy_10 C (k10 := lp_Model_goesBy_10 n) ih hf
def f_Model_goesBy (v1 : Int32) (D : Dt) : Option (Unit × Dt) :=
  lp_Model_goesBy_10 FU v1 (27 * (D 176 26)) 0 D
set_option maxHeartbeats 4000000 in
theorem te_Model_goesBy {Γ : GmT} {G : Dt → Nat → List (Nat × Value) → List Value → Prop} {rr : Unit} {DD : Dt} (C : Cx Γ "RiverTuesdaysModel" b_Model_goesBy 4 5 none none DD G) {v1 : Int32} {D : Dt} (hf : f_Model_goesBy v1 D = some (rr, DD)) : G D 0 [(0, .ref (Γ.2.1 176)), (1, .int v1)] [] := by
  unfold f_Model_goesBy at hf
  refine r_bipush (pc := 0) C (v := 27) d_Model_goesBy_0 (by decide) ?_
  refine r_aload_n (pc := 2) C 0 d_Model_goesBy_2 rfl rfl ?_
  refine g_Model_hourMany (pc := 3) C k_id176 Lf_Model_189 d_Model_goesBy_3 ?_
  refine r_imul (pc := 6) C d_Model_goesBy_6 ?_
  refine r_istore_n (pc := 7) (lv' := [(2, .int (27 * (D 176 26))), (0, .ref (Γ.2.1 176)), (1, .int v1)]) C d_Model_goesBy_7 rfl (Nat.le_of_ble_eq_true rfl) rfl ?_
  refine r_iconst (pc := 8) C (v := 0) d_Model_goesBy_8 (by decide) ?_
  refine r_istore_n (pc := 9) (lv' := [(3, .int 0), (2, .int (27 * (D 176 26))), (0, .ref (Γ.2.1 176)), (1, .int v1)]) C d_Model_goesBy_9 rfl (Nat.le_of_ble_eq_true rfl) rfl ?_
  exact r_lv (pc := 10) C [2, 3, 1, 0] rfl (tl_Model_goesBy_10 C FU v1 (27 * (D 176 26)) 0 D hf)
theorem c_Model_goesBy (Γ : GmT) {v1 : Int32} {D : Dt} {rr : Unit} {DD : Dt} (hf : f_Model_goesBy v1 D = some (rr, DD)) : Mt Γ y_Model_goesBy b_Model_goesBy 4 none 5 [.ref (Γ.2.1 176), .int v1] D none DD := Mt_of (by decide) (Nat.le_of_ble_eq_true rfl) (fun G C => te_Model_goesBy C hf)
def b_Model_hour_44 (s0 : Int32) (D : Dt) : Option (Int32 × Dt) :=
  bnd (f_Model_goesBy s0 D) (fun x3 D4 => bnd (f_Model_standing 0 D4) (fun x5 D6 => bnd (f_Model_tells (D4 176 25) x5 D6) (fun x7 D8 => some (x7, D8))))
set_option maxHeartbeats 4000000 in
theorem tb_Model_hour_44 {Γ : GmT} {G : Dt → Nat → List (Nat × Value) → List Value → Prop} {rr : Int32} {DD : Dt} (C : Cx Γ "RiverTuesdaysModel" b_Model_hour 2 6 (some .int) (some (.int rr)) DD G) {s0 : Int32} {D : Dt} (hf : b_Model_hour_44 s0 D = some (rr, DD)) : G D 44 [(0, .ref (Γ.2.1 176))] [.int s0, .ref (Γ.2.1 176)] := by
  unfold b_Model_hour_44 at hf
  refine r_callVv (pc := 44) (As := [.int s0]) (rest := []) C ok_Model_goesBy Lm_Model_232 k_id176 (by decide) ⟨by decide, by decide⟩ rfl rfl (Nat.le_of_ble_eq_true rfl) d_Model_hour_44 hf (fun x D1 hc => c_Model_goesBy Γ hc) (fun x3 D4 hf => ?_)
  refine r_aload_n (pc := 47) C 0 d_Model_hour_47 rfl rfl ?_
  refine r_aload_n (pc := 48) C 0 d_Model_hour_48 rfl rfl ?_
  refine g_Model_ranOut (pc := 49) C k_id176 Lf_Model_204 d_Model_hour_49 ?_
  refine r_aload_n (pc := 52) C 0 d_Model_hour_52 rfl rfl ?_
  refine r_iconst (pc := 53) C (v := 0) d_Model_hour_53 (by decide) ?_
  refine r_callVi (pc := 54) (As := [.int 0]) (rest := [.int (D4 176 25), .ref (Γ.2.1 176)]) C ok_Model_standing Lm_Model_236 k_id176 (by decide) ⟨by decide, by decide⟩ rfl rfl (Nat.le_of_ble_eq_true rfl) d_Model_hour_54 hf (fun x D1 hc => c_Model_standing Γ hc) (fun x5 D6 hf => ?_)
  refine r_callVi (pc := 57) (As := [.int (D4 176 25), .int x5]) (rest := []) C ok_Model_tells Lm_Model_137 k_id176 (by decide) ⟨by decide, by decide⟩ rfl rfl (Nat.le_of_ble_eq_true rfl) d_Model_hour_57 hf (fun x D1 hc => c_Model_tells Γ hc) (fun x7 D8 hf => ?_)
  exact r_iret (pc := 60) C d_Model_hour_60 hf
def f_Model_hour (v1 : Int32) (D : Dt) : Option (Int32 × Dt) :=
  bnd (f_Model_in v1 0 1 D) (fun x1 D2 => (if x1 = 0 then some ((-1), D2) else (if (D2 176 10) = 0 then some ((-4), D2) else (if (D2 176 26) = 60 then some ((-2), D2) else (if v1 = 1 then b_Model_hour_44 1 D2 else b_Model_hour_44 0 D2)))))
set_option maxHeartbeats 4000000 in
theorem te_Model_hour {Γ : GmT} {G : Dt → Nat → List (Nat × Value) → List Value → Prop} {rr : Int32} {DD : Dt} (C : Cx Γ "RiverTuesdaysModel" b_Model_hour 2 6 (some .int) (some (.int rr)) DD G) {v1 : Int32} {D : Dt} (hf : f_Model_hour v1 D = some (rr, DD)) : G D 0 [(0, .ref (Γ.2.1 176)), (1, .int v1)] [] := by
  unfold f_Model_hour at hf
  refine r_iload_n (pc := 0) C 1 d_Model_hour_0 rfl rfl ?_
  refine r_iconst (pc := 1) C (v := 0) d_Model_hour_1 (by decide) ?_
  refine r_iconst (pc := 2) C (v := 1) d_Model_hour_2 (by decide) ?_
  refine r_callSi (pc := 3) (As := [.int v1, .int 0, .int 1]) (rest := []) C ok_Model_in Lm_Model_118 ⟨by decide, by decide⟩ rfl rfl (Nat.le_of_ble_eq_true rfl) d_Model_hour_3 hf (fun x D1 hc => c_Model_in Γ hc) (fun x1 D2 hf => ?_)
  refine r_if_ne (pc := 6) C (tgt := 11) d_Model_hour_6 (by decide) hf (fun c6 hf => ?_) (fun c6 hf => ?_)
  · refine r_aload_n (pc := 11) C 0 d_Model_hour_11 rfl rfl ?_
    refine g_Model_n (pc := 12) C k_id176 Lf_Model_176 d_Model_hour_12 ?_
    refine r_if_ne (pc := 15) C (tgt := 21) d_Model_hour_15 (by decide) hf (fun c15 hf => ?_) (fun c15 hf => ?_)
    · refine r_aload_n (pc := 21) C 0 d_Model_hour_21 rfl rfl ?_
      refine g_Model_hourMany (pc := 22) C k_id176 Lf_Model_189 d_Model_hour_22 ?_
      refine r_bipush (pc := 25) C (v := 60) d_Model_hour_25 (by decide) ?_
      refine r_icmp_ne (pc := 27) C (tgt := 33) d_Model_hour_27 (by decide) hf (fun c27 hf => ?_) (fun c27 hf => ?_)
      · refine r_aload_n (pc := 33) C 0 d_Model_hour_33 rfl rfl ?_
        refine r_iload_n (pc := 34) C 1 d_Model_hour_34 rfl rfl ?_
        refine r_iconst (pc := 35) C (v := 1) d_Model_hour_35 (by decide) ?_
        refine r_icmp_ne (pc := 36) C (tgt := 43) d_Model_hour_36 (by decide) hf (fun c36 hf => ?_) (fun c36 hf => ?_)
        · refine r_iconst (pc := 43) C (v := 0) d_Model_hour_43 (by decide) ?_
          exact r_lv (pc := 44) C [0] rfl (tb_Model_hour_44 C hf)
        · refine r_iconst (pc := 39) C (v := 1) d_Model_hour_39 (by decide) ?_
          refine r_goto (pc := 40) C (tgt := 44) d_Model_hour_40 (by decide) ?_
          exact r_lv (pc := 44) C [0] rfl (tb_Model_hour_44 C hf)
      · refine r_bipush (pc := 30) C (v := (-2)) d_Model_hour_30 (by decide) ?_
        exact r_iret (pc := 32) C d_Model_hour_32 hf
    · refine r_bipush (pc := 18) C (v := (-4)) d_Model_hour_18 (by decide) ?_
      exact r_iret (pc := 20) C d_Model_hour_20 hf
  · refine r_iconst (pc := 9) C (v := (-1)) d_Model_hour_9 (by decide) ?_
    exact r_iret (pc := 10) C d_Model_hour_10 hf
theorem c_Model_hour (Γ : GmT) {v1 : Int32} {D : Dt} {rr : Int32} {DD : Dt} (hf : f_Model_hour v1 D = some (rr, DD)) : Mt Γ y_Model_hour b_Model_hour 2 (some .int) 6 [.ref (Γ.2.1 176), .int v1] D (some (.int rr)) DD := Mt_of (by decide) (Nat.le_of_ble_eq_true rfl) (fun G C => te_Model_hour C hf)
def b_Model_undo_56 (v1 : Int32) (v2 : Int32) (D : Dt) : Option (Int32 × Dt) :=
  nm (wr D 176 26 v1) (fun D3 => some (v2, D3))
set_option maxHeartbeats 4000000 in
theorem tb_Model_undo_56 {Γ : GmT} {G : Dt → Nat → List (Nat × Value) → List Value → Prop} {rr : Int32} {DD : Dt} (C : Cx Γ "RiverTuesdaysModel" b_Model_undo 4 2 (some .int) (some (.int rr)) DD G) {v1 : Int32} {v2 : Int32} {D : Dt} (hf : b_Model_undo_56 v1 v2 D = some (rr, DD)) : G D 56 [(0, .ref (Γ.2.1 176)), (1, .int v1), (2, .int v2)] [] := by
  unfold b_Model_undo_56 at hf
  refine r_aload_n (pc := 56) C 0 d_Model_undo_56 rfl rfl ?_
  refine r_iload_n (pc := 57) C 1 d_Model_undo_57 rfl rfl ?_
  refine p_Model_hourMany (pc := 58) C k_id176 Lf_Model_189 d_Model_undo_58 ?_
  refine r_nmD hf (fun D3 hf => ?_)
  refine r_iload_n (pc := 61) C 2 d_Model_undo_61 rfl rfl ?_
  exact r_iret (pc := 62) C d_Model_undo_62 hf
def s_Model_undo_23 (k23 : Int32 → Int32 → Int32 → Dt → Option (Int32 × Dt)) (v1 : Int32) (v2 : Int32) (v3 : Int32) (D : Dt) : Option (Int32 × Dt) :=
  (if 26 ≤ v3 then b_Model_undo_56 v1 v2 D else (if v2 ≤ 0 then b_Model_undo_56 v1 v2 D else (if inb ((27 * v1) + v3) 1620 = true then bnd (f_Model_place 0 v3 (D 192 ((27 * v1) + v3).toNatClampNeg) D) (fun x4 D5 => k23 v1 v2 (v3 + 1) D5) else none)))
def lp_Model_undo_23 (n : Nat) : Int32 → Int32 → Int32 → Dt → Option (Int32 × Dt) := itr (fun _ _ _ _ => none) (s_Model_undo_23) n
set_option maxHeartbeats 4000000 in
theorem ts_Model_undo_23 {Γ : GmT} {G : Dt → Nat → List (Nat × Value) → List Value → Prop} {rr : Int32} {DD : Dt} (C : Cx Γ "RiverTuesdaysModel" b_Model_undo 4 2 (some .int) (some (.int rr)) DD G) {k23 : Int32 → Int32 → Int32 → Dt → Option (Int32 × Dt)} (hk23 : ∀ (v1 : Int32) (v2 : Int32) (v3 : Int32) (D : Dt), k23 v1 v2 v3 D = some (rr, DD) → G D 23 [(0, .ref (Γ.2.1 176)), (1, .int v1), (2, .int v2), (3, .int v3)] []) {v1 : Int32} {v2 : Int32} {v3 : Int32} {D : Dt} (hf : s_Model_undo_23 k23 v1 v2 v3 D = some (rr, DD)) : G D 23 [(0, .ref (Γ.2.1 176)), (1, .int v1), (2, .int v2), (3, .int v3)] [] := by
  unfold s_Model_undo_23 at hf
  refine r_iload_n (pc := 23) C 3 d_Model_undo_23 rfl rfl ?_
  refine r_bipush (pc := 24) C (v := 26) d_Model_undo_24 (by decide) ?_
  refine r_icmp_ge (pc := 26) C (tgt := 56) d_Model_undo_26 (by decide) hf (fun c26 hf => ?_) (fun c26 hf => ?_)
  · exact r_lv (pc := 56) C [0, 1, 2] rfl (tb_Model_undo_56 C hf)
  · refine r_iload_n (pc := 29) C 2 d_Model_undo_29 rfl rfl ?_
    refine r_if_le (pc := 30) C (tgt := 56) d_Model_undo_30 (by decide) hf (fun c30 hf => ?_) (fun c30 hf => ?_)
    · exact r_lv (pc := 56) C [0, 1, 2] rfl (tb_Model_undo_56 C hf)
    · refine r_aload_n (pc := 33) C 0 d_Model_undo_33 rfl rfl ?_
      refine r_iconst (pc := 34) C (v := 0) d_Model_undo_34 (by decide) ?_
      refine r_iload_n (pc := 35) C 3 d_Model_undo_35 rfl rfl ?_
      refine r_aload_n (pc := 36) C 0 d_Model_undo_36 rfl rfl ?_
      refine g_Model_hours (pc := 37) C k_id176 Lf_Model_56 d_Model_undo_37 ?_
      refine r_bipush (pc := 40) C (v := 27) d_Model_undo_40 (by decide) ?_
      refine r_iload_n (pc := 42) C 1 d_Model_undo_42 rfl rfl ?_
      refine r_imul (pc := 43) C d_Model_undo_43 ?_
      refine r_iload_n (pc := 44) C 3 d_Model_undo_44 rfl rfl ?_
      refine r_iadd (pc := 45) C d_Model_undo_45 ?_
      refine r_iald (pc := 46) C kq_Model_hours d_Model_undo_46 hf (fun hf => ?_)
      refine r_callVv (pc := 47) (As := [.int 0, .int v3, .int (D 192 ((27 * v1) + v3).toNatClampNeg)]) (rest := []) C ok_Model_place Lm_Model_185 k_id176 (by decide) ⟨by decide, by decide⟩ rfl rfl (Nat.le_of_ble_eq_true rfl) d_Model_undo_47 hf (fun x D1 hc => c_Model_place Γ hc) (fun x4 D5 hf => ?_)
      refine r_iinc (pc := 50) C (v := v3 + 1) (lv' := [(3, .int (v3 + 1)), (0, .ref (Γ.2.1 176)), (1, .int v1), (2, .int v2)]) 3 d_Model_undo_50 rfl rfl (Nat.le_of_ble_eq_true rfl) rfl ?_
      refine r_goto (pc := 53) C (tgt := 23) d_Model_undo_53 (by decide) ?_
      exact r_lv (pc := 23) C [1, 2, 3, 0] rfl (hk23 v1 v2 (v3 + 1) D5 hf)
theorem tl_Model_undo_23 {Γ : GmT} {G : Dt → Nat → List (Nat × Value) → List Value → Prop} {rr : Int32} {DD : Dt} (C : Cx Γ "RiverTuesdaysModel" b_Model_undo 4 2 (some .int) (some (.int rr)) DD G) : ∀ (n : Nat) (v1 : Int32) (v2 : Int32) (v3 : Int32) (D : Dt), lp_Model_undo_23 n v1 v2 v3 D = some (rr, DD) → G D 23 [(0, .ref (Γ.2.1 176)), (1, .int v1), (2, .int v2), (3, .int v3)] [] := by
  intro n
  induction n with
  | zero =>
    intro v1 v2 v3 D hf
    exact absurd (show (none : Option (Int32 × Dt)) = some (rr, DD) from hf) (by simp)
  | succ n ih =>
    intro v1 v2 v3 D hf
    exact ts_Model_undo_23 C (k23 := lp_Model_undo_23 n) ih hf
def f_Model_undo (v1 : Int32) (D : Dt) : Option (Int32 × Dt) :=
  bnd (f_Model_in v1 0 (D 176 26) D) (fun x1 D2 => (if x1 = 0 then some ((-1), D2) else lp_Model_undo_23 FU v1 ((D2 176 26) - v1) 0 D2))
set_option maxHeartbeats 4000000 in
theorem te_Model_undo {Γ : GmT} {G : Dt → Nat → List (Nat × Value) → List Value → Prop} {rr : Int32} {DD : Dt} (C : Cx Γ "RiverTuesdaysModel" b_Model_undo 4 2 (some .int) (some (.int rr)) DD G) {v1 : Int32} {D : Dt} (hf : f_Model_undo v1 D = some (rr, DD)) : G D 0 [(0, .ref (Γ.2.1 176)), (1, .int v1)] [] := by
  unfold f_Model_undo at hf
  refine r_iload_n (pc := 0) C 1 d_Model_undo_0 rfl rfl ?_
  refine r_iconst (pc := 1) C (v := 0) d_Model_undo_1 (by decide) ?_
  refine r_aload_n (pc := 2) C 0 d_Model_undo_2 rfl rfl ?_
  refine g_Model_hourMany (pc := 3) C k_id176 Lf_Model_189 d_Model_undo_3 ?_
  refine r_callSi (pc := 6) (As := [.int v1, .int 0, .int (D 176 26)]) (rest := []) C ok_Model_in Lm_Model_118 ⟨by decide, by decide⟩ rfl rfl (Nat.le_of_ble_eq_true rfl) d_Model_undo_6 hf (fun x D1 hc => c_Model_in Γ hc) (fun x1 D2 hf => ?_)
  refine r_if_ne (pc := 9) C (tgt := 14) d_Model_undo_9 (by decide) hf (fun c9 hf => ?_) (fun c9 hf => ?_)
  · refine r_aload_n (pc := 14) C 0 d_Model_undo_14 rfl rfl ?_
    refine g_Model_hourMany (pc := 15) C k_id176 Lf_Model_189 d_Model_undo_15 ?_
    refine r_iload_n (pc := 18) C 1 d_Model_undo_18 rfl rfl ?_
    refine r_isub (pc := 19) C d_Model_undo_19 ?_
    refine r_istore_n (pc := 20) (lv' := [(2, .int ((D2 176 26) - v1)), (0, .ref (Γ.2.1 176)), (1, .int v1)]) C d_Model_undo_20 rfl (Nat.le_of_ble_eq_true rfl) rfl ?_
    refine r_iconst (pc := 21) C (v := 0) d_Model_undo_21 (by decide) ?_
    refine r_istore_n (pc := 22) (lv' := [(3, .int 0), (2, .int ((D2 176 26) - v1)), (0, .ref (Γ.2.1 176)), (1, .int v1)]) C d_Model_undo_22 rfl (Nat.le_of_ble_eq_true rfl) rfl ?_
    exact r_lv (pc := 23) C [2, 3, 1, 0] rfl (tl_Model_undo_23 C FU v1 ((D2 176 26) - v1) 0 D2 hf)
  · refine r_iconst (pc := 12) C (v := (-1)) d_Model_undo_12 (by decide) ?_
    exact r_iret (pc := 13) C d_Model_undo_13 hf
theorem c_Model_undo (Γ : GmT) {v1 : Int32} {D : Dt} {rr : Int32} {DD : Dt} (hf : f_Model_undo v1 D = some (rr, DD)) : Mt Γ y_Model_undo b_Model_undo 4 (some .int) 2 [.ref (Γ.2.1 176), .int v1] D (some (.int rr)) DD := Mt_of (by decide) (Nat.le_of_ble_eq_true rfl) (fun G C => te_Model_undo C hf)
def f_Model_water (D : Dt) : Option (Int32 × Dt) :=
  bnd (f_Model_v 0 25 D) (fun x1 D2 => bnd (f_Model_v 0 24 D2) (fun x3 D4 => bnd (f_Model_tells x1 x3 D4) (fun x5 D6 => some (x5, D6))))
set_option maxHeartbeats 4000000 in
theorem te_Model_water {Γ : GmT} {G : Dt → Nat → List (Nat × Value) → List Value → Prop} {rr : Int32} {DD : Dt} (C : Cx Γ "RiverTuesdaysModel" b_Model_water 1 2 (some .int) (some (.int rr)) DD G) {D : Dt} (hf : f_Model_water D = some (rr, DD)) : G D 0 [(0, .ref (Γ.2.1 176))] [] := by
  unfold f_Model_water at hf
  refine r_aload_n (pc := 0) C 0 d_Model_water_0 rfl rfl ?_
  refine r_aload_n (pc := 1) C 0 d_Model_water_1 rfl rfl ?_
  refine r_iconst (pc := 2) C (v := 0) d_Model_water_2 (by decide) ?_
  refine r_bipush (pc := 3) C (v := 25) d_Model_water_3 (by decide) ?_
  refine r_callVi (pc := 5) (As := [.int 0, .int 25]) (rest := [.ref (Γ.2.1 176)]) C ok_Model_v Lm_Model_192 k_id176 (by decide) ⟨by decide, by decide⟩ rfl rfl (Nat.le_of_ble_eq_true rfl) d_Model_water_5 hf (fun x D1 hc => c_Model_v Γ hc) (fun x1 D2 hf => ?_)
  refine r_aload_n (pc := 8) C 0 d_Model_water_8 rfl rfl ?_
  refine r_iconst (pc := 9) C (v := 0) d_Model_water_9 (by decide) ?_
  refine r_bipush (pc := 10) C (v := 24) d_Model_water_10 (by decide) ?_
  refine r_callVi (pc := 12) (As := [.int 0, .int 24]) (rest := [.int x1, .ref (Γ.2.1 176)]) C ok_Model_v Lm_Model_192 k_id176 (by decide) ⟨by decide, by decide⟩ rfl rfl (Nat.le_of_ble_eq_true rfl) d_Model_water_12 hf (fun x D1 hc => c_Model_v Γ hc) (fun x3 D4 hf => ?_)
  refine r_callVi (pc := 15) (As := [.int x1, .int x3]) (rest := []) C ok_Model_tells Lm_Model_137 k_id176 (by decide) ⟨by decide, by decide⟩ rfl rfl (Nat.le_of_ble_eq_true rfl) d_Model_water_15 hf (fun x D1 hc => c_Model_tells Γ hc) (fun x5 D6 hf => ?_)
  exact r_iret (pc := 18) C d_Model_water_18 hf
theorem c_Model_water (Γ : GmT) {D : Dt} {rr : Int32} {DD : Dt} (hf : f_Model_water D = some (rr, DD)) : Mt Γ y_Model_water b_Model_water 1 (some .int) 2 [.ref (Γ.2.1 176)] D (some (.int rr)) DD := Mt_of (by decide) (Nat.le_of_ble_eq_true rfl) (fun G C => te_Model_water C hf)
def s_Model_keep_102 (k102 : Int32 → Int32 → Dt → Option (Int32 × Dt)) (v1 : Int32) (v2 : Int32) (D : Dt) : Option (Int32 × Dt) :=
  (if (27 * (D 176 26)) ≤ v2 then (if inb v1 3 = true then nm (wr D 197 v1.toNatClampNeg (D 176 8)) (fun D3 => (if inb v1 3 = true then nm (wr D3 193 v1.toNatClampNeg (D3 176 26)) (fun D4 => (if inb v1 3 = true then nm (wr D4 199 v1.toNatClampNeg (vp_nar .boolean 1)) (fun D5 => some (D5 176 26, D5)) else none)) else none)) else none) else (if inb v2 1620 = true then (if inb ((1620 * v1) + v2) 4860 = true then nm (wr D 198 ((1620 * v1) + v2).toNatClampNeg (D 192 v2.toNatClampNeg)) (fun D6 => k102 v1 (v2 + 1) D6) else none) else none))
def lp_Model_keep_102 (n : Nat) : Int32 → Int32 → Dt → Option (Int32 × Dt) := itr (fun _ _ _ => none) (s_Model_keep_102) n
set_option maxHeartbeats 4000000 in
theorem ts_Model_keep_102 {Γ : GmT} {G : Dt → Nat → List (Nat × Value) → List Value → Prop} {rr : Int32} {DD : Dt} (C : Cx Γ "RiverTuesdaysModel" b_Model_keep 3 2 (some .int) (some (.int rr)) DD G) {k102 : Int32 → Int32 → Dt → Option (Int32 × Dt)} (hk102 : ∀ (v1 : Int32) (v2 : Int32) (D : Dt), k102 v1 v2 D = some (rr, DD) → G D 102 [(0, .ref (Γ.2.1 176)), (1, .int v1), (2, .int v2)] []) {v1 : Int32} {v2 : Int32} {D : Dt} (hf : s_Model_keep_102 k102 v1 v2 D = some (rr, DD)) : G D 102 [(0, .ref (Γ.2.1 176)), (1, .int v1), (2, .int v2)] [] := by
  unfold s_Model_keep_102 at hf
  refine r_iload_n (pc := 102) C 2 d_Model_keep_102 rfl rfl ?_
  refine r_bipush (pc := 103) C (v := 27) d_Model_keep_103 (by decide) ?_
  refine r_aload_n (pc := 105) C 0 d_Model_keep_105 rfl rfl ?_
  refine g_Model_hourMany (pc := 106) C k_id176 Lf_Model_189 d_Model_keep_106 ?_
  refine r_imul (pc := 109) C d_Model_keep_109 ?_
  refine r_icmp_ge (pc := 110) C (tgt := 137) d_Model_keep_110 (by decide) hf (fun c110 hf => ?_) (fun c110 hf => ?_)
  · refine r_aload_n (pc := 137) C 0 d_Model_keep_137 rfl rfl ?_
    refine g_Model_keptFlow (pc := 138) C k_id176 Lf_Model_71 d_Model_keep_138 ?_
    refine r_iload_n (pc := 141) C 1 d_Model_keep_141 rfl rfl ?_
    refine r_aload_n (pc := 142) C 0 d_Model_keep_142 rfl rfl ?_
    refine g_Model_flowNow (pc := 143) C k_id176 Lf_Model_179 d_Model_keep_143 ?_
    refine r_iast (pc := 146) C kq_Model_keptFlow d_Model_keep_146 hf (fun hf => ?_)
    refine r_nmD hf (fun D3 hf => ?_)
    refine r_aload_n (pc := 147) C 0 d_Model_keep_147 rfl rfl ?_
    refine g_Model_keptHours (pc := 148) C k_id176 Lf_Model_59 d_Model_keep_148 ?_
    refine r_iload_n (pc := 151) C 1 d_Model_keep_151 rfl rfl ?_
    refine r_aload_n (pc := 152) C 0 d_Model_keep_152 rfl rfl ?_
    refine g_Model_hourMany (pc := 153) C k_id176 Lf_Model_189 d_Model_keep_153 ?_
    refine r_iast (pc := 156) C kq_Model_keptHours d_Model_keep_156 hf (fun hf => ?_)
    refine r_nmD hf (fun D4 hf => ?_)
    refine r_aload_n (pc := 157) C 0 d_Model_keep_157 rfl rfl ?_
    refine g_Model_isKept (pc := 158) C k_id176 Lf_Model_77 d_Model_keep_158 ?_
    refine r_iload_n (pc := 161) C 1 d_Model_keep_161 rfl rfl ?_
    refine r_iconst (pc := 162) C (v := 1) d_Model_keep_162 (by decide) ?_
    refine r_zast (pc := 163) C kq_Model_isKept d_Model_keep_163 hf (fun hf => ?_)
    refine r_nmD hf (fun D5 hf => ?_)
    refine r_aload_n (pc := 164) C 0 d_Model_keep_164 rfl rfl ?_
    refine g_Model_hourMany (pc := 165) C k_id176 Lf_Model_189 d_Model_keep_165 ?_
    exact r_iret (pc := 168) C d_Model_keep_168 hf
  · refine r_aload_n (pc := 113) C 0 d_Model_keep_113 rfl rfl ?_
    refine g_Model_keptLog (pc := 114) C k_id176 Lf_Model_74 d_Model_keep_114 ?_
    refine r_sipush (pc := 117) C (v := 1620) d_Model_keep_117 (by decide) ?_
    refine r_iload_n (pc := 120) C 1 d_Model_keep_120 rfl rfl ?_
    refine r_imul (pc := 121) C d_Model_keep_121 ?_
    refine r_iload_n (pc := 122) C 2 d_Model_keep_122 rfl rfl ?_
    refine r_iadd (pc := 123) C d_Model_keep_123 ?_
    refine r_aload_n (pc := 124) C 0 d_Model_keep_124 rfl rfl ?_
    refine g_Model_hours (pc := 125) C k_id176 Lf_Model_56 d_Model_keep_125 ?_
    refine r_iload_n (pc := 128) C 2 d_Model_keep_128 rfl rfl ?_
    refine r_iald (pc := 129) C kq_Model_hours d_Model_keep_129 hf (fun hf => ?_)
    refine r_iast (pc := 130) C kq_Model_keptLog d_Model_keep_130 hf (fun hf => ?_)
    refine r_nmD hf (fun D6 hf => ?_)
    refine r_iinc (pc := 131) C (v := v2 + 1) (lv' := [(2, .int (v2 + 1)), (0, .ref (Γ.2.1 176)), (1, .int v1)]) 2 d_Model_keep_131 rfl rfl (Nat.le_of_ble_eq_true rfl) rfl ?_
    refine r_goto (pc := 134) C (tgt := 102) d_Model_keep_134 (by decide) ?_
    exact r_lv (pc := 102) C [1, 2, 0] rfl (hk102 v1 (v2 + 1) D6 hf)
theorem tl_Model_keep_102 {Γ : GmT} {G : Dt → Nat → List (Nat × Value) → List Value → Prop} {rr : Int32} {DD : Dt} (C : Cx Γ "RiverTuesdaysModel" b_Model_keep 3 2 (some .int) (some (.int rr)) DD G) : ∀ (n : Nat) (v1 : Int32) (v2 : Int32) (D : Dt), lp_Model_keep_102 n v1 v2 D = some (rr, DD) → G D 102 [(0, .ref (Γ.2.1 176)), (1, .int v1), (2, .int v2)] [] := by
  intro n
  induction n with
  | zero =>
    intro v1 v2 D hf
    exact absurd (show (none : Option (Int32 × Dt)) = some (rr, DD) from hf) (by simp)
  | succ n ih =>
    intro v1 v2 D hf
    exact ts_Model_keep_102 C (k102 := lp_Model_keep_102 n) ih hf
def s_Model_keep_54 (k54 : Int32 → Int32 → Dt → Option (Int32 × Dt)) (v1 : Int32) (v2 : Int32) (D : Dt) : Option (Int32 × Dt) :=
  (if 8 ≤ v2 then lp_Model_keep_102 FU v1 0 D else (if inb v2 8 = true then (if inb ((8 * v1) + v2) 24 = true then nm (wr D 195 ((8 * v1) + v2).toNatClampNeg (D 185 v2.toNatClampNeg)) (fun D7 => (if inb v2 8 = true then (if inb ((8 * v1) + v2) 24 = true then nm (wr D7 196 ((8 * v1) + v2).toNatClampNeg (D7 187 v2.toNatClampNeg)) (fun D8 => k54 v1 (v2 + 1) D8) else none) else none)) else none) else none))
def lp_Model_keep_54 (n : Nat) : Int32 → Int32 → Dt → Option (Int32 × Dt) := itr (fun _ _ _ => none) (s_Model_keep_54) n
set_option maxHeartbeats 4000000 in
theorem ts_Model_keep_54 {Γ : GmT} {G : Dt → Nat → List (Nat × Value) → List Value → Prop} {rr : Int32} {DD : Dt} (C : Cx Γ "RiverTuesdaysModel" b_Model_keep 3 2 (some .int) (some (.int rr)) DD G) {k54 : Int32 → Int32 → Dt → Option (Int32 × Dt)} (hk54 : ∀ (v1 : Int32) (v2 : Int32) (D : Dt), k54 v1 v2 D = some (rr, DD) → G D 54 [(0, .ref (Γ.2.1 176)), (1, .int v1), (2, .int v2)] []) {v1 : Int32} {v2 : Int32} {D : Dt} (hf : s_Model_keep_54 k54 v1 v2 D = some (rr, DD)) : G D 54 [(0, .ref (Γ.2.1 176)), (1, .int v1), (2, .int v2)] [] := by
  unfold s_Model_keep_54 at hf
  refine r_iload_n (pc := 54) C 2 d_Model_keep_54 rfl rfl ?_
  refine r_bipush (pc := 55) C (v := 8) d_Model_keep_55 (by decide) ?_
  refine r_icmp_ge (pc := 57) C (tgt := 100) d_Model_keep_57 (by decide) hf (fun c57 hf => ?_) (fun c57 hf => ?_)
  · refine r_iconst (pc := 100) C (v := 0) d_Model_keep_100 (by decide) ?_
    refine r_istore_n (pc := 101) (lv' := [(2, .int 0), (0, .ref (Γ.2.1 176)), (1, .int v1)]) C d_Model_keep_101 rfl (Nat.le_of_ble_eq_true rfl) rfl ?_
    exact r_lv (pc := 102) C [1, 2, 0] rfl (tl_Model_keep_102 C FU v1 0 D hf)
  · refine r_aload_n (pc := 60) C 0 d_Model_keep_60 rfl rfl ?_
    refine g_Model_keptSills (pc := 61) C k_id176 Lf_Model_65 d_Model_keep_61 ?_
    refine r_bipush (pc := 64) C (v := 8) d_Model_keep_64 (by decide) ?_
    refine r_iload_n (pc := 66) C 1 d_Model_keep_66 rfl rfl ?_
    refine r_imul (pc := 67) C d_Model_keep_67 ?_
    refine r_iload_n (pc := 68) C 2 d_Model_keep_68 rfl rfl ?_
    refine r_iadd (pc := 69) C d_Model_keep_69 ?_
    refine r_aload_n (pc := 70) C 0 d_Model_keep_70 rfl rfl ?_
    refine g_Model_sills (pc := 71) C k_id176 Lf_Model_35 d_Model_keep_71 ?_
    refine r_iload_n (pc := 74) C 2 d_Model_keep_74 rfl rfl ?_
    refine r_iald (pc := 75) C kq_Model_sills d_Model_keep_75 hf (fun hf => ?_)
    refine r_iast (pc := 76) C kq_Model_keptSills d_Model_keep_76 hf (fun hf => ?_)
    refine r_nmD hf (fun D7 hf => ?_)
    refine r_aload_n (pc := 77) C 0 d_Model_keep_77 rfl rfl ?_
    refine g_Model_keptShut (pc := 78) C k_id176 Lf_Model_68 d_Model_keep_78 ?_
    refine r_bipush (pc := 81) C (v := 8) d_Model_keep_81 (by decide) ?_
    refine r_iload_n (pc := 83) C 1 d_Model_keep_83 rfl rfl ?_
    refine r_imul (pc := 84) C d_Model_keep_84 ?_
    refine r_iload_n (pc := 85) C 2 d_Model_keep_85 rfl rfl ?_
    refine r_iadd (pc := 86) C d_Model_keep_86 ?_
    refine r_aload_n (pc := 87) C 0 d_Model_keep_87 rfl rfl ?_
    refine g_Model_shutNow (pc := 88) C k_id176 Lf_Model_41 d_Model_keep_88 ?_
    refine r_iload_n (pc := 91) C 2 d_Model_keep_91 rfl rfl ?_
    refine r_iald (pc := 92) C kq_Model_shutNow d_Model_keep_92 hf (fun hf => ?_)
    refine r_iast (pc := 93) C kq_Model_keptShut d_Model_keep_93 hf (fun hf => ?_)
    refine r_nmD hf (fun D8 hf => ?_)
    refine r_iinc (pc := 94) C (v := v2 + 1) (lv' := [(2, .int (v2 + 1)), (0, .ref (Γ.2.1 176)), (1, .int v1)]) 2 d_Model_keep_94 rfl rfl (Nat.le_of_ble_eq_true rfl) rfl ?_
    refine r_goto (pc := 97) C (tgt := 54) d_Model_keep_97 (by decide) ?_
    exact r_lv (pc := 54) C [1, 2, 0] rfl (hk54 v1 (v2 + 1) D8 hf)
theorem tl_Model_keep_54 {Γ : GmT} {G : Dt → Nat → List (Nat × Value) → List Value → Prop} {rr : Int32} {DD : Dt} (C : Cx Γ "RiverTuesdaysModel" b_Model_keep 3 2 (some .int) (some (.int rr)) DD G) : ∀ (n : Nat) (v1 : Int32) (v2 : Int32) (D : Dt), lp_Model_keep_54 n v1 v2 D = some (rr, DD) → G D 54 [(0, .ref (Γ.2.1 176)), (1, .int v1), (2, .int v2)] [] := by
  intro n
  induction n with
  | zero =>
    intro v1 v2 D hf
    exact absurd (show (none : Option (Int32 × Dt)) = some (rr, DD) from hf) (by simp)
  | succ n ih =>
    intro v1 v2 D hf
    exact ts_Model_keep_54 C (k54 := lp_Model_keep_54 n) ih hf
def s_Model_keep_23 (k23 : Int32 → Int32 → Dt → Option (Int32 × Dt)) (v1 : Int32) (v2 : Int32) (D : Dt) : Option (Int32 × Dt) :=
  (if 26 ≤ v2 then lp_Model_keep_54 FU v1 0 D else bnd (f_Model_v 0 v2 D) (fun x9 D10 => (if inb ((26 * v1) + v2) 78 = true then nm (wr D10 194 ((26 * v1) + v2).toNatClampNeg x9) (fun D11 => k23 v1 (v2 + 1) D11) else none)))
def lp_Model_keep_23 (n : Nat) : Int32 → Int32 → Dt → Option (Int32 × Dt) := itr (fun _ _ _ => none) (s_Model_keep_23) n
set_option maxHeartbeats 4000000 in
theorem ts_Model_keep_23 {Γ : GmT} {G : Dt → Nat → List (Nat × Value) → List Value → Prop} {rr : Int32} {DD : Dt} (C : Cx Γ "RiverTuesdaysModel" b_Model_keep 3 2 (some .int) (some (.int rr)) DD G) {k23 : Int32 → Int32 → Dt → Option (Int32 × Dt)} (hk23 : ∀ (v1 : Int32) (v2 : Int32) (D : Dt), k23 v1 v2 D = some (rr, DD) → G D 23 [(0, .ref (Γ.2.1 176)), (1, .int v1), (2, .int v2)] []) {v1 : Int32} {v2 : Int32} {D : Dt} (hf : s_Model_keep_23 k23 v1 v2 D = some (rr, DD)) : G D 23 [(0, .ref (Γ.2.1 176)), (1, .int v1), (2, .int v2)] [] := by
  unfold s_Model_keep_23 at hf
  refine r_iload_n (pc := 23) C 2 d_Model_keep_23 rfl rfl ?_
  refine r_bipush (pc := 24) C (v := 26) d_Model_keep_24 (by decide) ?_
  refine r_icmp_ge (pc := 26) C (tgt := 52) d_Model_keep_26 (by decide) hf (fun c26 hf => ?_) (fun c26 hf => ?_)
  · refine r_iconst (pc := 52) C (v := 0) d_Model_keep_52 (by decide) ?_
    refine r_istore_n (pc := 53) (lv' := [(2, .int 0), (0, .ref (Γ.2.1 176)), (1, .int v1)]) C d_Model_keep_53 rfl (Nat.le_of_ble_eq_true rfl) rfl ?_
    exact r_lv (pc := 54) C [1, 2, 0] rfl (tl_Model_keep_54 C FU v1 0 D hf)
  · refine r_aload_n (pc := 29) C 0 d_Model_keep_29 rfl rfl ?_
    refine g_Model_keptNow (pc := 30) C k_id176 Lf_Model_62 d_Model_keep_30 ?_
    refine r_bipush (pc := 33) C (v := 26) d_Model_keep_33 (by decide) ?_
    refine r_iload_n (pc := 35) C 1 d_Model_keep_35 rfl rfl ?_
    refine r_imul (pc := 36) C d_Model_keep_36 ?_
    refine r_iload_n (pc := 37) C 2 d_Model_keep_37 rfl rfl ?_
    refine r_iadd (pc := 38) C d_Model_keep_38 ?_
    refine r_aload_n (pc := 39) C 0 d_Model_keep_39 rfl rfl ?_
    refine r_iconst (pc := 40) C (v := 0) d_Model_keep_40 (by decide) ?_
    refine r_iload_n (pc := 41) C 2 d_Model_keep_41 rfl rfl ?_
    refine r_callVi (pc := 42) (As := [.int 0, .int v2]) (rest := [.int ((26 * v1) + v2), .ref (Γ.2.1 194)]) C ok_Model_v Lm_Model_192 k_id176 (by decide) ⟨by decide, by decide⟩ rfl rfl (Nat.le_of_ble_eq_true rfl) d_Model_keep_42 hf (fun x D1 hc => c_Model_v Γ hc) (fun x9 D10 hf => ?_)
    refine r_iast (pc := 45) C kq_Model_keptNow d_Model_keep_45 hf (fun hf => ?_)
    refine r_nmD hf (fun D11 hf => ?_)
    refine r_iinc (pc := 46) C (v := v2 + 1) (lv' := [(2, .int (v2 + 1)), (0, .ref (Γ.2.1 176)), (1, .int v1)]) 2 d_Model_keep_46 rfl rfl (Nat.le_of_ble_eq_true rfl) rfl ?_
    refine r_goto (pc := 49) C (tgt := 23) d_Model_keep_49 (by decide) ?_
    exact r_lv (pc := 23) C [1, 2, 0] rfl (hk23 v1 (v2 + 1) D11 hf)
theorem tl_Model_keep_23 {Γ : GmT} {G : Dt → Nat → List (Nat × Value) → List Value → Prop} {rr : Int32} {DD : Dt} (C : Cx Γ "RiverTuesdaysModel" b_Model_keep 3 2 (some .int) (some (.int rr)) DD G) : ∀ (n : Nat) (v1 : Int32) (v2 : Int32) (D : Dt), lp_Model_keep_23 n v1 v2 D = some (rr, DD) → G D 23 [(0, .ref (Γ.2.1 176)), (1, .int v1), (2, .int v2)] [] := by
  intro n
  induction n with
  | zero =>
    intro v1 v2 D hf
    exact absurd (show (none : Option (Int32 × Dt)) = some (rr, DD) from hf) (by simp)
  | succ n ih =>
    intro v1 v2 D hf
    exact ts_Model_keep_23 C (k23 := lp_Model_keep_23 n) ih hf
def f_Model_keep (v1 : Int32) (D : Dt) : Option (Int32 × Dt) :=
  bnd (f_Model_in v1 0 2 D) (fun x1 D2 => (if x1 = 0 then some ((-1), D2) else (if (D2 176 10) = 0 then some ((-4), D2) else lp_Model_keep_23 FU v1 0 D2)))
set_option maxHeartbeats 4000000 in
theorem te_Model_keep {Γ : GmT} {G : Dt → Nat → List (Nat × Value) → List Value → Prop} {rr : Int32} {DD : Dt} (C : Cx Γ "RiverTuesdaysModel" b_Model_keep 3 2 (some .int) (some (.int rr)) DD G) {v1 : Int32} {D : Dt} (hf : f_Model_keep v1 D = some (rr, DD)) : G D 0 [(0, .ref (Γ.2.1 176)), (1, .int v1)] [] := by
  unfold f_Model_keep at hf
  refine r_iload_n (pc := 0) C 1 d_Model_keep_0 rfl rfl ?_
  refine r_iconst (pc := 1) C (v := 0) d_Model_keep_1 (by decide) ?_
  refine r_iconst (pc := 2) C (v := 2) d_Model_keep_2 (by decide) ?_
  refine r_callSi (pc := 3) (As := [.int v1, .int 0, .int 2]) (rest := []) C ok_Model_in Lm_Model_118 ⟨by decide, by decide⟩ rfl rfl (Nat.le_of_ble_eq_true rfl) d_Model_keep_3 hf (fun x D1 hc => c_Model_in Γ hc) (fun x1 D2 hf => ?_)
  refine r_if_ne (pc := 6) C (tgt := 11) d_Model_keep_6 (by decide) hf (fun c6 hf => ?_) (fun c6 hf => ?_)
  · refine r_aload_n (pc := 11) C 0 d_Model_keep_11 rfl rfl ?_
    refine g_Model_n (pc := 12) C k_id176 Lf_Model_176 d_Model_keep_12 ?_
    refine r_if_ne (pc := 15) C (tgt := 21) d_Model_keep_15 (by decide) hf (fun c15 hf => ?_) (fun c15 hf => ?_)
    · refine r_iconst (pc := 21) C (v := 0) d_Model_keep_21 (by decide) ?_
      refine r_istore_n (pc := 22) (lv' := [(2, .int 0), (0, .ref (Γ.2.1 176)), (1, .int v1)]) C d_Model_keep_22 rfl (Nat.le_of_ble_eq_true rfl) rfl ?_
      exact r_lv (pc := 23) C [1, 2, 0] rfl (tl_Model_keep_23 C FU v1 0 D2 hf)
    · refine r_bipush (pc := 18) C (v := (-4)) d_Model_keep_18 (by decide) ?_
      exact r_iret (pc := 20) C d_Model_keep_20 hf
  · refine r_iconst (pc := 9) C (v := (-1)) d_Model_keep_9 (by decide) ?_
    exact r_iret (pc := 10) C d_Model_keep_10 hf
theorem c_Model_keep (Γ : GmT) {v1 : Int32} {D : Dt} {rr : Int32} {DD : Dt} (hf : f_Model_keep v1 D = some (rr, DD)) : Mt Γ y_Model_keep b_Model_keep 3 (some .int) 2 [.ref (Γ.2.1 176), .int v1] D (some (.int rr)) DD := Mt_of (by decide) (Nat.le_of_ble_eq_true rfl) (fun G C => te_Model_keep C hf)
def f_Model_isThere (v1 : Int32) (D : Dt) : Option (Int32 × Dt) :=
  (if inb v1 3 = true then (if (D 199 v1.toNatClampNeg) = 0 then some (0, D) else (if inb v1 3 = true then (if (D 193 v1.toNatClampNeg) < 0 then some (0, D) else some (1, D)) else none)) else none)
set_option maxHeartbeats 4000000 in
theorem te_Model_isThere {Γ : GmT} {G : Dt → Nat → List (Nat × Value) → List Value → Prop} {rr : Int32} {DD : Dt} (C : Cx Γ "RiverTuesdaysModel" b_Model_isThere 2 1 (some .boolean) (some (.int rr)) DD G) {v1 : Int32} {D : Dt} (hf : f_Model_isThere v1 D = some (rr, DD)) : G D 0 [(0, .ref (Γ.2.1 176)), (1, .int v1)] [] := by
  unfold f_Model_isThere at hf
  refine r_aload_n (pc := 0) C 0 d_Model_isThere_0 rfl rfl ?_
  refine g_Model_isKept (pc := 1) C k_id176 Lf_Model_77 d_Model_isThere_1 ?_
  refine r_iload_n (pc := 4) C 1 d_Model_isThere_4 rfl rfl ?_
  refine r_zald (pc := 5) C kq_Model_isKept d_Model_isThere_5 hf (fun hf => ?_)
  refine r_if_eq (pc := 6) C (tgt := 22) d_Model_isThere_6 (by decide) hf (fun c6 hf => ?_) (fun c6 hf => ?_)
  · refine r_iconst (pc := 22) C (v := 0) d_Model_isThere_22 (by decide) ?_
    exact r_zret (pc := 23) C d_Model_isThere_23 rfl hf
  · refine r_aload_n (pc := 9) C 0 d_Model_isThere_9 rfl rfl ?_
    refine g_Model_keptHours (pc := 10) C k_id176 Lf_Model_59 d_Model_isThere_10 ?_
    refine r_iload_n (pc := 13) C 1 d_Model_isThere_13 rfl rfl ?_
    refine r_iald (pc := 14) C kq_Model_keptHours d_Model_isThere_14 hf (fun hf => ?_)
    refine r_if_lt (pc := 15) C (tgt := 22) d_Model_isThere_15 (by decide) hf (fun c15 hf => ?_) (fun c15 hf => ?_)
    · refine r_iconst (pc := 22) C (v := 0) d_Model_isThere_22 (by decide) ?_
      exact r_zret (pc := 23) C d_Model_isThere_23 rfl hf
    · refine r_iconst (pc := 18) C (v := 1) d_Model_isThere_18 (by decide) ?_
      refine r_goto (pc := 19) C (tgt := 23) d_Model_isThere_19 (by decide) ?_
      exact r_zret (pc := 23) C d_Model_isThere_23 rfl hf
theorem c_Model_isThere (Γ : GmT) {v1 : Int32} {D : Dt} {rr : Int32} {DD : Dt} (hf : f_Model_isThere v1 D = some (rr, DD)) : Mt Γ y_Model_isThere b_Model_isThere 2 (some .boolean) 1 [.ref (Γ.2.1 176), .int v1] D (some (.int rr)) DD := Mt_of (by decide) (Nat.le_of_ble_eq_true rfl) (fun G C => te_Model_isThere C hf)
def s_Model_on_126 (k126 : Int32 → Int32 → Dt → Option (Int32 × Dt)) (v1 : Int32) (v2 : Int32) (D : Dt) : Option (Int32 × Dt) :=
  (if (27 * (D 176 26)) ≤ v2 then some (D 176 26, D) else (if inb ((1620 * v1) + v2) 4860 = true then (if inb v2 1620 = true then nm (wr D 192 v2.toNatClampNeg (D 198 ((1620 * v1) + v2).toNatClampNeg)) (fun D7 => k126 v1 (v2 + 1) D7) else none) else none))
def lp_Model_on_126 (n : Nat) : Int32 → Int32 → Dt → Option (Int32 × Dt) := itr (fun _ _ _ => none) (s_Model_on_126) n
set_option maxHeartbeats 4000000 in
theorem ts_Model_on_126 {Γ : GmT} {G : Dt → Nat → List (Nat × Value) → List Value → Prop} {rr : Int32} {DD : Dt} (C : Cx Γ "RiverTuesdaysModel" b_Model_on 3 2 (some .int) (some (.int rr)) DD G) {k126 : Int32 → Int32 → Dt → Option (Int32 × Dt)} (hk126 : ∀ (v1 : Int32) (v2 : Int32) (D : Dt), k126 v1 v2 D = some (rr, DD) → G D 126 [(0, .ref (Γ.2.1 176)), (1, .int v1), (2, .int v2)] []) {v1 : Int32} {v2 : Int32} {D : Dt} (hf : s_Model_on_126 k126 v1 v2 D = some (rr, DD)) : G D 126 [(0, .ref (Γ.2.1 176)), (1, .int v1), (2, .int v2)] [] := by
  unfold s_Model_on_126 at hf
  refine r_iload_n (pc := 126) C 2 d_Model_on_126 rfl rfl ?_
  refine r_bipush (pc := 127) C (v := 27) d_Model_on_127 (by decide) ?_
  refine r_aload_n (pc := 129) C 0 d_Model_on_129 rfl rfl ?_
  refine g_Model_hourMany (pc := 130) C k_id176 Lf_Model_189 d_Model_on_130 ?_
  refine r_imul (pc := 133) C d_Model_on_133 ?_
  refine r_icmp_ge (pc := 134) C (tgt := 161) d_Model_on_134 (by decide) hf (fun c134 hf => ?_) (fun c134 hf => ?_)
  · refine r_aload_n (pc := 161) C 0 d_Model_on_161 rfl rfl ?_
    refine g_Model_hourMany (pc := 162) C k_id176 Lf_Model_189 d_Model_on_162 ?_
    exact r_iret (pc := 165) C d_Model_on_165 hf
  · refine r_aload_n (pc := 137) C 0 d_Model_on_137 rfl rfl ?_
    refine g_Model_hours (pc := 138) C k_id176 Lf_Model_56 d_Model_on_138 ?_
    refine r_iload_n (pc := 141) C 2 d_Model_on_141 rfl rfl ?_
    refine r_aload_n (pc := 142) C 0 d_Model_on_142 rfl rfl ?_
    refine g_Model_keptLog (pc := 143) C k_id176 Lf_Model_74 d_Model_on_143 ?_
    refine r_sipush (pc := 146) C (v := 1620) d_Model_on_146 (by decide) ?_
    refine r_iload_n (pc := 149) C 1 d_Model_on_149 rfl rfl ?_
    refine r_imul (pc := 150) C d_Model_on_150 ?_
    refine r_iload_n (pc := 151) C 2 d_Model_on_151 rfl rfl ?_
    refine r_iadd (pc := 152) C d_Model_on_152 ?_
    refine r_iald (pc := 153) C kq_Model_keptLog d_Model_on_153 hf (fun hf => ?_)
    refine r_iast (pc := 154) C kq_Model_hours d_Model_on_154 hf (fun hf => ?_)
    refine r_nmD hf (fun D7 hf => ?_)
    refine r_iinc (pc := 155) C (v := v2 + 1) (lv' := [(2, .int (v2 + 1)), (0, .ref (Γ.2.1 176)), (1, .int v1)]) 2 d_Model_on_155 rfl rfl (Nat.le_of_ble_eq_true rfl) rfl ?_
    refine r_goto (pc := 158) C (tgt := 126) d_Model_on_158 (by decide) ?_
    exact r_lv (pc := 126) C [1, 2, 0] rfl (hk126 v1 (v2 + 1) D7 hf)
theorem tl_Model_on_126 {Γ : GmT} {G : Dt → Nat → List (Nat × Value) → List Value → Prop} {rr : Int32} {DD : Dt} (C : Cx Γ "RiverTuesdaysModel" b_Model_on 3 2 (some .int) (some (.int rr)) DD G) : ∀ (n : Nat) (v1 : Int32) (v2 : Int32) (D : Dt), lp_Model_on_126 n v1 v2 D = some (rr, DD) → G D 126 [(0, .ref (Γ.2.1 176)), (1, .int v1), (2, .int v2)] [] := by
  intro n
  induction n with
  | zero =>
    intro v1 v2 D hf
    exact absurd (show (none : Option (Int32 × Dt)) = some (rr, DD) from hf) (by simp)
  | succ n ih =>
    intro v1 v2 D hf
    exact ts_Model_on_126 C (k126 := lp_Model_on_126 n) ih hf
def s_Model_on_78 (k78 : Int32 → Int32 → Dt → Option (Int32 × Dt)) (v1 : Int32) (v2 : Int32) (D : Dt) : Option (Int32 × Dt) :=
  (if 8 ≤ v2 then lp_Model_on_126 FU v1 0 D else (if inb ((8 * v1) + v2) 24 = true then (if inb v2 8 = true then nm (wr D 185 v2.toNatClampNeg (D 195 ((8 * v1) + v2).toNatClampNeg)) (fun D8 => (if inb ((8 * v1) + v2) 24 = true then (if inb v2 8 = true then nm (wr D8 187 v2.toNatClampNeg (D8 196 ((8 * v1) + v2).toNatClampNeg)) (fun D9 => k78 v1 (v2 + 1) D9) else none) else none)) else none) else none))
def lp_Model_on_78 (n : Nat) : Int32 → Int32 → Dt → Option (Int32 × Dt) := itr (fun _ _ _ => none) (s_Model_on_78) n
set_option maxHeartbeats 4000000 in
theorem ts_Model_on_78 {Γ : GmT} {G : Dt → Nat → List (Nat × Value) → List Value → Prop} {rr : Int32} {DD : Dt} (C : Cx Γ "RiverTuesdaysModel" b_Model_on 3 2 (some .int) (some (.int rr)) DD G) {k78 : Int32 → Int32 → Dt → Option (Int32 × Dt)} (hk78 : ∀ (v1 : Int32) (v2 : Int32) (D : Dt), k78 v1 v2 D = some (rr, DD) → G D 78 [(0, .ref (Γ.2.1 176)), (1, .int v1), (2, .int v2)] []) {v1 : Int32} {v2 : Int32} {D : Dt} (hf : s_Model_on_78 k78 v1 v2 D = some (rr, DD)) : G D 78 [(0, .ref (Γ.2.1 176)), (1, .int v1), (2, .int v2)] [] := by
  unfold s_Model_on_78 at hf
  refine r_iload_n (pc := 78) C 2 d_Model_on_78 rfl rfl ?_
  refine r_bipush (pc := 79) C (v := 8) d_Model_on_79 (by decide) ?_
  refine r_icmp_ge (pc := 81) C (tgt := 124) d_Model_on_81 (by decide) hf (fun c81 hf => ?_) (fun c81 hf => ?_)
  · refine r_iconst (pc := 124) C (v := 0) d_Model_on_124 (by decide) ?_
    refine r_istore_n (pc := 125) (lv' := [(2, .int 0), (0, .ref (Γ.2.1 176)), (1, .int v1)]) C d_Model_on_125 rfl (Nat.le_of_ble_eq_true rfl) rfl ?_
    exact r_lv (pc := 126) C [1, 2, 0] rfl (tl_Model_on_126 C FU v1 0 D hf)
  · refine r_aload_n (pc := 84) C 0 d_Model_on_84 rfl rfl ?_
    refine g_Model_sills (pc := 85) C k_id176 Lf_Model_35 d_Model_on_85 ?_
    refine r_iload_n (pc := 88) C 2 d_Model_on_88 rfl rfl ?_
    refine r_aload_n (pc := 89) C 0 d_Model_on_89 rfl rfl ?_
    refine g_Model_keptSills (pc := 90) C k_id176 Lf_Model_65 d_Model_on_90 ?_
    refine r_bipush (pc := 93) C (v := 8) d_Model_on_93 (by decide) ?_
    refine r_iload_n (pc := 95) C 1 d_Model_on_95 rfl rfl ?_
    refine r_imul (pc := 96) C d_Model_on_96 ?_
    refine r_iload_n (pc := 97) C 2 d_Model_on_97 rfl rfl ?_
    refine r_iadd (pc := 98) C d_Model_on_98 ?_
    refine r_iald (pc := 99) C kq_Model_keptSills d_Model_on_99 hf (fun hf => ?_)
    refine r_iast (pc := 100) C kq_Model_sills d_Model_on_100 hf (fun hf => ?_)
    refine r_nmD hf (fun D8 hf => ?_)
    refine r_aload_n (pc := 101) C 0 d_Model_on_101 rfl rfl ?_
    refine g_Model_shutNow (pc := 102) C k_id176 Lf_Model_41 d_Model_on_102 ?_
    refine r_iload_n (pc := 105) C 2 d_Model_on_105 rfl rfl ?_
    refine r_aload_n (pc := 106) C 0 d_Model_on_106 rfl rfl ?_
    refine g_Model_keptShut (pc := 107) C k_id176 Lf_Model_68 d_Model_on_107 ?_
    refine r_bipush (pc := 110) C (v := 8) d_Model_on_110 (by decide) ?_
    refine r_iload_n (pc := 112) C 1 d_Model_on_112 rfl rfl ?_
    refine r_imul (pc := 113) C d_Model_on_113 ?_
    refine r_iload_n (pc := 114) C 2 d_Model_on_114 rfl rfl ?_
    refine r_iadd (pc := 115) C d_Model_on_115 ?_
    refine r_iald (pc := 116) C kq_Model_keptShut d_Model_on_116 hf (fun hf => ?_)
    refine r_iast (pc := 117) C kq_Model_shutNow d_Model_on_117 hf (fun hf => ?_)
    refine r_nmD hf (fun D9 hf => ?_)
    refine r_iinc (pc := 118) C (v := v2 + 1) (lv' := [(2, .int (v2 + 1)), (0, .ref (Γ.2.1 176)), (1, .int v1)]) 2 d_Model_on_118 rfl rfl (Nat.le_of_ble_eq_true rfl) rfl ?_
    refine r_goto (pc := 121) C (tgt := 78) d_Model_on_121 (by decide) ?_
    exact r_lv (pc := 78) C [1, 2, 0] rfl (hk78 v1 (v2 + 1) D9 hf)
theorem tl_Model_on_78 {Γ : GmT} {G : Dt → Nat → List (Nat × Value) → List Value → Prop} {rr : Int32} {DD : Dt} (C : Cx Γ "RiverTuesdaysModel" b_Model_on 3 2 (some .int) (some (.int rr)) DD G) : ∀ (n : Nat) (v1 : Int32) (v2 : Int32) (D : Dt), lp_Model_on_78 n v1 v2 D = some (rr, DD) → G D 78 [(0, .ref (Γ.2.1 176)), (1, .int v1), (2, .int v2)] [] := by
  intro n
  induction n with
  | zero =>
    intro v1 v2 D hf
    exact absurd (show (none : Option (Int32 × Dt)) = some (rr, DD) from hf) (by simp)
  | succ n ih =>
    intro v1 v2 D hf
    exact ts_Model_on_78 C (k78 := lp_Model_on_78 n) ih hf
def s_Model_on_47 (k47 : Int32 → Int32 → Dt → Option (Int32 × Dt)) (v1 : Int32) (v2 : Int32) (D : Dt) : Option (Int32 × Dt) :=
  (if 26 ≤ v2 then lp_Model_on_78 FU v1 0 D else (if inb ((26 * v1) + v2) 78 = true then bnd (f_Model_place 0 v2 (D 194 ((26 * v1) + v2).toNatClampNeg) D) (fun x10 D11 => k47 v1 (v2 + 1) D11) else none))
def lp_Model_on_47 (n : Nat) : Int32 → Int32 → Dt → Option (Int32 × Dt) := itr (fun _ _ _ => none) (s_Model_on_47) n
set_option maxHeartbeats 4000000 in
theorem ts_Model_on_47 {Γ : GmT} {G : Dt → Nat → List (Nat × Value) → List Value → Prop} {rr : Int32} {DD : Dt} (C : Cx Γ "RiverTuesdaysModel" b_Model_on 3 2 (some .int) (some (.int rr)) DD G) {k47 : Int32 → Int32 → Dt → Option (Int32 × Dt)} (hk47 : ∀ (v1 : Int32) (v2 : Int32) (D : Dt), k47 v1 v2 D = some (rr, DD) → G D 47 [(0, .ref (Γ.2.1 176)), (1, .int v1), (2, .int v2)] []) {v1 : Int32} {v2 : Int32} {D : Dt} (hf : s_Model_on_47 k47 v1 v2 D = some (rr, DD)) : G D 47 [(0, .ref (Γ.2.1 176)), (1, .int v1), (2, .int v2)] [] := by
  unfold s_Model_on_47 at hf
  refine r_iload_n (pc := 47) C 2 d_Model_on_47 rfl rfl ?_
  refine r_bipush (pc := 48) C (v := 26) d_Model_on_48 (by decide) ?_
  refine r_icmp_ge (pc := 50) C (tgt := 76) d_Model_on_50 (by decide) hf (fun c50 hf => ?_) (fun c50 hf => ?_)
  · refine r_iconst (pc := 76) C (v := 0) d_Model_on_76 (by decide) ?_
    refine r_istore_n (pc := 77) (lv' := [(2, .int 0), (0, .ref (Γ.2.1 176)), (1, .int v1)]) C d_Model_on_77 rfl (Nat.le_of_ble_eq_true rfl) rfl ?_
    exact r_lv (pc := 78) C [1, 2, 0] rfl (tl_Model_on_78 C FU v1 0 D hf)
  · refine r_aload_n (pc := 53) C 0 d_Model_on_53 rfl rfl ?_
    refine r_iconst (pc := 54) C (v := 0) d_Model_on_54 (by decide) ?_
    refine r_iload_n (pc := 55) C 2 d_Model_on_55 rfl rfl ?_
    refine r_aload_n (pc := 56) C 0 d_Model_on_56 rfl rfl ?_
    refine g_Model_keptNow (pc := 57) C k_id176 Lf_Model_62 d_Model_on_57 ?_
    refine r_bipush (pc := 60) C (v := 26) d_Model_on_60 (by decide) ?_
    refine r_iload_n (pc := 62) C 1 d_Model_on_62 rfl rfl ?_
    refine r_imul (pc := 63) C d_Model_on_63 ?_
    refine r_iload_n (pc := 64) C 2 d_Model_on_64 rfl rfl ?_
    refine r_iadd (pc := 65) C d_Model_on_65 ?_
    refine r_iald (pc := 66) C kq_Model_keptNow d_Model_on_66 hf (fun hf => ?_)
    refine r_callVv (pc := 67) (As := [.int 0, .int v2, .int (D 194 ((26 * v1) + v2).toNatClampNeg)]) (rest := []) C ok_Model_place Lm_Model_185 k_id176 (by decide) ⟨by decide, by decide⟩ rfl rfl (Nat.le_of_ble_eq_true rfl) d_Model_on_67 hf (fun x D1 hc => c_Model_place Γ hc) (fun x10 D11 hf => ?_)
    refine r_iinc (pc := 70) C (v := v2 + 1) (lv' := [(2, .int (v2 + 1)), (0, .ref (Γ.2.1 176)), (1, .int v1)]) 2 d_Model_on_70 rfl rfl (Nat.le_of_ble_eq_true rfl) rfl ?_
    refine r_goto (pc := 73) C (tgt := 47) d_Model_on_73 (by decide) ?_
    exact r_lv (pc := 47) C [1, 2, 0] rfl (hk47 v1 (v2 + 1) D11 hf)
theorem tl_Model_on_47 {Γ : GmT} {G : Dt → Nat → List (Nat × Value) → List Value → Prop} {rr : Int32} {DD : Dt} (C : Cx Γ "RiverTuesdaysModel" b_Model_on 3 2 (some .int) (some (.int rr)) DD G) : ∀ (n : Nat) (v1 : Int32) (v2 : Int32) (D : Dt), lp_Model_on_47 n v1 v2 D = some (rr, DD) → G D 47 [(0, .ref (Γ.2.1 176)), (1, .int v1), (2, .int v2)] [] := by
  intro n
  induction n with
  | zero =>
    intro v1 v2 D hf
    exact absurd (show (none : Option (Int32 × Dt)) = some (rr, DD) from hf) (by simp)
  | succ n ih =>
    intro v1 v2 D hf
    exact ts_Model_on_47 C (k47 := lp_Model_on_47 n) ih hf
def f_Model_on (v1 : Int32) (D : Dt) : Option (Int32 × Dt) :=
  bnd (f_Model_in v1 0 2 D) (fun x1 D2 => (if x1 = 0 then some ((-1), D2) else bnd (f_Model_isThere v1 D2) (fun x3 D4 => (if x3 = 0 then bnd (f_Model_meets 1 D4) (fun x12 D13 => some (x12, D13)) else (if inb v1 3 = true then nm (wr D4 176 26 (D4 193 v1.toNatClampNeg)) (fun D5 => (if inb v1 3 = true then nm (wr D5 176 8 (D5 197 v1.toNatClampNeg)) (fun D6 => lp_Model_on_47 FU v1 0 D6) else none)) else none)))))
set_option maxHeartbeats 4000000 in
theorem te_Model_on {Γ : GmT} {G : Dt → Nat → List (Nat × Value) → List Value → Prop} {rr : Int32} {DD : Dt} (C : Cx Γ "RiverTuesdaysModel" b_Model_on 3 2 (some .int) (some (.int rr)) DD G) {v1 : Int32} {D : Dt} (hf : f_Model_on v1 D = some (rr, DD)) : G D 0 [(0, .ref (Γ.2.1 176)), (1, .int v1)] [] := by
  unfold f_Model_on at hf
  refine r_iload_n (pc := 0) C 1 d_Model_on_0 rfl rfl ?_
  refine r_iconst (pc := 1) C (v := 0) d_Model_on_1 (by decide) ?_
  refine r_iconst (pc := 2) C (v := 2) d_Model_on_2 (by decide) ?_
  refine r_callSi (pc := 3) (As := [.int v1, .int 0, .int 2]) (rest := []) C ok_Model_in Lm_Model_118 ⟨by decide, by decide⟩ rfl rfl (Nat.le_of_ble_eq_true rfl) d_Model_on_3 hf (fun x D1 hc => c_Model_in Γ hc) (fun x1 D2 hf => ?_)
  refine r_if_ne (pc := 6) C (tgt := 11) d_Model_on_6 (by decide) hf (fun c6 hf => ?_) (fun c6 hf => ?_)
  · refine r_aload_n (pc := 11) C 0 d_Model_on_11 rfl rfl ?_
    refine r_iload_n (pc := 12) C 1 d_Model_on_12 rfl rfl ?_
    refine r_callVi (pc := 13) (As := [.int v1]) (rest := []) C ok_Model_isThere Lm_Model_239 k_id176 (by decide) ⟨by decide, by decide⟩ rfl rfl (Nat.le_of_ble_eq_true rfl) d_Model_on_13 hf (fun x D1 hc => c_Model_isThere Γ hc) (fun x3 D4 hf => ?_)
    refine r_if_ne (pc := 16) C (tgt := 25) d_Model_on_16 (by decide) hf (fun c16 hf => ?_) (fun c16 hf => ?_)
    · refine r_aload_n (pc := 25) C 0 d_Model_on_25 rfl rfl ?_
      refine r_aload_n (pc := 26) C 0 d_Model_on_26 rfl rfl ?_
      refine g_Model_keptHours (pc := 27) C k_id176 Lf_Model_59 d_Model_on_27 ?_
      refine r_iload_n (pc := 30) C 1 d_Model_on_30 rfl rfl ?_
      refine r_iald (pc := 31) C kq_Model_keptHours d_Model_on_31 hf (fun hf => ?_)
      refine p_Model_hourMany (pc := 32) C k_id176 Lf_Model_189 d_Model_on_32 ?_
      refine r_nmD hf (fun D5 hf => ?_)
      refine r_aload_n (pc := 35) C 0 d_Model_on_35 rfl rfl ?_
      refine r_aload_n (pc := 36) C 0 d_Model_on_36 rfl rfl ?_
      refine g_Model_keptFlow (pc := 37) C k_id176 Lf_Model_71 d_Model_on_37 ?_
      refine r_iload_n (pc := 40) C 1 d_Model_on_40 rfl rfl ?_
      refine r_iald (pc := 41) C kq_Model_keptFlow d_Model_on_41 hf (fun hf => ?_)
      refine p_Model_flowNow (pc := 42) C k_id176 Lf_Model_179 d_Model_on_42 ?_
      refine r_nmD hf (fun D6 hf => ?_)
      refine r_iconst (pc := 45) C (v := 0) d_Model_on_45 (by decide) ?_
      refine r_istore_n (pc := 46) (lv' := [(2, .int 0), (0, .ref (Γ.2.1 176)), (1, .int v1)]) C d_Model_on_46 rfl (Nat.le_of_ble_eq_true rfl) rfl ?_
      exact r_lv (pc := 47) C [1, 2, 0] rfl (tl_Model_on_47 C FU v1 0 D6 hf)
    · refine r_aload_n (pc := 19) C 0 d_Model_on_19 rfl rfl ?_
      refine r_iconst (pc := 20) C (v := 1) d_Model_on_20 (by decide) ?_
      refine r_callVi (pc := 21) (As := [.int 1]) (rest := []) C ok_Model_meets Lm_Model_129 k_id176 (by decide) ⟨by decide, by decide⟩ rfl rfl (Nat.le_of_ble_eq_true rfl) d_Model_on_21 hf (fun x D1 hc => c_Model_meets Γ hc) (fun x12 D13 hf => ?_)
      exact r_iret (pc := 24) C d_Model_on_24 hf
  · refine r_iconst (pc := 9) C (v := (-1)) d_Model_on_9 (by decide) ?_
    exact r_iret (pc := 10) C d_Model_on_10 hf
theorem c_Model_on (Γ : GmT) {v1 : Int32} {D : Dt} {rr : Int32} {DD : Dt} (hf : f_Model_on v1 D = some (rr, DD)) : Mt Γ y_Model_on b_Model_on 3 (some .int) 2 [.ref (Γ.2.1 176), .int v1] D (some (.int rr)) DD := Mt_of (by decide) (Nat.le_of_ble_eq_true rfl) (fun G C => te_Model_on C hf)
def s_Model_noTuesday_12 (k12 : Int32 → Dt → Option (Unit × Dt)) (v1 : Int32) (D : Dt) : Option (Unit × Dt) :=
  (if 8 ≤ v1 then some ((), D) else (if inb v1 8 = true then nm (wr D 200 v1.toNatClampNeg (-9)) (fun D3 => (if inb v1 8 = true then nm (wr D3 202 v1.toNatClampNeg 0) (fun D4 => k12 (v1 + 1) D4) else none)) else none))
def lp_Model_noTuesday_12 (n : Nat) : Int32 → Dt → Option (Unit × Dt) := itr (fun _ _ => none) (s_Model_noTuesday_12) n
set_option maxHeartbeats 4000000 in
theorem ts_Model_noTuesday_12 {Γ : GmT} {G : Dt → Nat → List (Nat × Value) → List Value → Prop} {rr : Unit} {DD : Dt} (C : Cx Γ "RiverTuesdaysModel" b_Model_noTuesday 2 1 none none DD G) {k12 : Int32 → Dt → Option (Unit × Dt)} (hk12 : ∀ (v1 : Int32) (D : Dt), k12 v1 D = some (rr, DD) → G D 12 [(0, .ref (Γ.2.1 176)), (1, .int v1)] []) {v1 : Int32} {D : Dt} (hf : s_Model_noTuesday_12 k12 v1 D = some (rr, DD)) : G D 12 [(0, .ref (Γ.2.1 176)), (1, .int v1)] [] := by
  unfold s_Model_noTuesday_12 at hf
  refine r_iload_n (pc := 12) C 1 d_Model_noTuesday_12 rfl rfl ?_
  refine r_bipush (pc := 13) C (v := 8) d_Model_noTuesday_13 (by decide) ?_
  refine r_icmp_ge (pc := 15) C (tgt := 39) d_Model_noTuesday_15 (by decide) hf (fun c15 hf => ?_) (fun c15 hf => ?_)
  · exact r_vret (pc := 39) C d_Model_noTuesday_39 hf
  · refine r_aload_n (pc := 18) C 0 d_Model_noTuesday_18 rfl rfl ?_
    refine g_Model_wetHour (pc := 19) C k_id176 Lf_Model_81 d_Model_noTuesday_19 ?_
    refine r_iload_n (pc := 22) C 1 d_Model_noTuesday_22 rfl rfl ?_
    refine r_bipush (pc := 23) C (v := (-9)) d_Model_noTuesday_23 (by decide) ?_
    refine r_iast (pc := 25) C kq_Model_wetHour d_Model_noTuesday_25 hf (fun hf => ?_)
    refine r_nmD hf (fun D3 hf => ?_)
    refine r_aload_n (pc := 26) C 0 d_Model_noTuesday_26 rfl rfl ?_
    refine g_Model_marksOf (pc := 27) C k_id176 Lf_Model_87 d_Model_noTuesday_27 ?_
    refine r_iload_n (pc := 30) C 1 d_Model_noTuesday_30 rfl rfl ?_
    refine r_iconst (pc := 31) C (v := 0) d_Model_noTuesday_31 (by decide) ?_
    refine r_iast (pc := 32) C kq_Model_marksOf d_Model_noTuesday_32 hf (fun hf => ?_)
    refine r_nmD hf (fun D4 hf => ?_)
    refine r_iinc (pc := 33) C (v := v1 + 1) (lv' := [(1, .int (v1 + 1)), (0, .ref (Γ.2.1 176))]) 1 d_Model_noTuesday_33 rfl rfl (Nat.le_of_ble_eq_true rfl) rfl ?_
    refine r_goto (pc := 36) C (tgt := 12) d_Model_noTuesday_36 (by decide) ?_
    exact r_lv (pc := 12) C [1, 0] rfl (hk12 (v1 + 1) D4 hf)
theorem tl_Model_noTuesday_12 {Γ : GmT} {G : Dt → Nat → List (Nat × Value) → List Value → Prop} {rr : Unit} {DD : Dt} (C : Cx Γ "RiverTuesdaysModel" b_Model_noTuesday 2 1 none none DD G) : ∀ (n : Nat) (v1 : Int32) (D : Dt), lp_Model_noTuesday_12 n v1 D = some (rr, DD) → G D 12 [(0, .ref (Γ.2.1 176)), (1, .int v1)] [] := by
  intro n
  induction n with
  | zero =>
    intro v1 D hf
    exact absurd (show (none : Option (Unit × Dt)) = some (rr, DD) from hf) (by simp)
  | succ n ih =>
    intro v1 D hf
    exact ts_Model_noTuesday_12 C (k12 := lp_Model_noTuesday_12 n) ih hf
def f_Model_noTuesday (D : Dt) : Option (Unit × Dt) :=
  nm (wr D 176 35 0) (fun D1 => nm (wr D1 176 37 0) (fun D2 => lp_Model_noTuesday_12 FU 0 D2))
set_option maxHeartbeats 4000000 in
theorem te_Model_noTuesday {Γ : GmT} {G : Dt → Nat → List (Nat × Value) → List Value → Prop} {rr : Unit} {DD : Dt} (C : Cx Γ "RiverTuesdaysModel" b_Model_noTuesday 2 1 none none DD G) {D : Dt} (hf : f_Model_noTuesday D = some (rr, DD)) : G D 0 [(0, .ref (Γ.2.1 176))] [] := by
  unfold f_Model_noTuesday at hf
  refine r_aload_n (pc := 0) C 0 d_Model_noTuesday_0 rfl rfl ?_
  refine r_iconst (pc := 1) C (v := 0) d_Model_noTuesday_1 (by decide) ?_
  refine p_Model_harmOf (pc := 2) C k_id176 Lf_Model_242 d_Model_noTuesday_2 ?_
  refine r_nmD hf (fun D1 hf => ?_)
  refine r_aload_n (pc := 5) C 0 d_Model_noTuesday_5 rfl rfl ?_
  refine r_iconst (pc := 6) C (v := 0) d_Model_noTuesday_6 (by decide) ?_
  refine p_Model_wetSet (pc := 7) C k_id176 Lf_Model_245 d_Model_noTuesday_7 ?_
  refine r_nmD hf (fun D2 hf => ?_)
  refine r_iconst (pc := 10) C (v := 0) d_Model_noTuesday_10 (by decide) ?_
  refine r_istore_n (pc := 11) (lv' := [(1, .int 0), (0, .ref (Γ.2.1 176))]) C d_Model_noTuesday_11 rfl (Nat.le_of_ble_eq_true rfl) rfl ?_
  exact r_lv (pc := 12) C [1, 0] rfl (tl_Model_noTuesday_12 C FU 0 D2 hf)
theorem c_Model_noTuesday (Γ : GmT) {D : Dt} {rr : Unit} {DD : Dt} (hf : f_Model_noTuesday D = some (rr, DD)) : Mt Γ y_Model_noTuesday b_Model_noTuesday 2 none 1 [.ref (Γ.2.1 176)] D none DD := Mt_of (by decide) (Nat.le_of_ble_eq_true rfl) (fun G C => te_Model_noTuesday C hf)
def s_Model_groundAll_4 (k4 : Int32 → Int32 → Int32 → Dt → Option (Int32 × Dt)) (v1 : Int32) (v2 : Int32) (v3 : Int32) (D : Dt) : Option (Int32 × Dt) :=
  (if (D 176 10) ≤ v3 then some (v2, D) else bnd (f_Model_v v1 (16 + v3) D) (fun x1 D2 => k4 v1 (v2 + x1) (v3 + 1) D2))
def lp_Model_groundAll_4 (n : Nat) : Int32 → Int32 → Int32 → Dt → Option (Int32 × Dt) := itr (fun _ _ _ _ => none) (s_Model_groundAll_4) n
set_option maxHeartbeats 4000000 in
theorem ts_Model_groundAll_4 {Γ : GmT} {G : Dt → Nat → List (Nat × Value) → List Value → Prop} {rr : Int32} {DD : Dt} (C : Cx Γ "RiverTuesdaysModel" b_Model_groundAll 4 2 (some .int) (some (.int rr)) DD G) {k4 : Int32 → Int32 → Int32 → Dt → Option (Int32 × Dt)} (hk4 : ∀ (v1 : Int32) (v2 : Int32) (v3 : Int32) (D : Dt), k4 v1 v2 v3 D = some (rr, DD) → G D 4 [(0, .ref (Γ.2.1 176)), (1, .int v1), (2, .int v2), (3, .int v3)] []) {v1 : Int32} {v2 : Int32} {v3 : Int32} {D : Dt} (hf : s_Model_groundAll_4 k4 v1 v2 v3 D = some (rr, DD)) : G D 4 [(0, .ref (Γ.2.1 176)), (1, .int v1), (2, .int v2), (3, .int v3)] [] := by
  unfold s_Model_groundAll_4 at hf
  refine r_iload_n (pc := 4) C 3 d_Model_groundAll_4 rfl rfl ?_
  refine r_aload_n (pc := 5) C 0 d_Model_groundAll_5 rfl rfl ?_
  refine g_Model_n (pc := 6) C k_id176 Lf_Model_176 d_Model_groundAll_6 ?_
  refine r_icmp_ge (pc := 9) C (tgt := 30) d_Model_groundAll_9 (by decide) hf (fun c9 hf => ?_) (fun c9 hf => ?_)
  · refine r_iload_n (pc := 30) C 2 d_Model_groundAll_30 rfl rfl ?_
    exact r_iret (pc := 31) C d_Model_groundAll_31 hf
  · refine r_iload_n (pc := 12) C 2 d_Model_groundAll_12 rfl rfl ?_
    refine r_aload_n (pc := 13) C 0 d_Model_groundAll_13 rfl rfl ?_
    refine r_iload_n (pc := 14) C 1 d_Model_groundAll_14 rfl rfl ?_
    refine r_bipush (pc := 15) C (v := 16) d_Model_groundAll_15 (by decide) ?_
    refine r_iload_n (pc := 17) C 3 d_Model_groundAll_17 rfl rfl ?_
    refine r_iadd (pc := 18) C d_Model_groundAll_18 ?_
    refine r_callVi (pc := 19) (As := [.int v1, .int (16 + v3)]) (rest := [.int v2]) C ok_Model_v Lm_Model_192 k_id176 (by decide) ⟨by decide, by decide⟩ rfl rfl (Nat.le_of_ble_eq_true rfl) d_Model_groundAll_19 hf (fun x D1 hc => c_Model_v Γ hc) (fun x1 D2 hf => ?_)
    refine r_iadd (pc := 22) C d_Model_groundAll_22 ?_
    refine r_istore_n (pc := 23) (lv' := [(2, .int (v2 + x1)), (0, .ref (Γ.2.1 176)), (1, .int v1), (3, .int v3)]) C d_Model_groundAll_23 rfl (Nat.le_of_ble_eq_true rfl) rfl ?_
    refine r_iinc (pc := 24) C (v := v3 + 1) (lv' := [(3, .int (v3 + 1)), (2, .int (v2 + x1)), (0, .ref (Γ.2.1 176)), (1, .int v1)]) 3 d_Model_groundAll_24 rfl rfl (Nat.le_of_ble_eq_true rfl) rfl ?_
    refine r_goto (pc := 27) C (tgt := 4) d_Model_groundAll_27 (by decide) ?_
    exact r_lv (pc := 4) C [2, 3, 1, 0] rfl (hk4 v1 (v2 + x1) (v3 + 1) D2 hf)
theorem tl_Model_groundAll_4 {Γ : GmT} {G : Dt → Nat → List (Nat × Value) → List Value → Prop} {rr : Int32} {DD : Dt} (C : Cx Γ "RiverTuesdaysModel" b_Model_groundAll 4 2 (some .int) (some (.int rr)) DD G) : ∀ (n : Nat) (v1 : Int32) (v2 : Int32) (v3 : Int32) (D : Dt), lp_Model_groundAll_4 n v1 v2 v3 D = some (rr, DD) → G D 4 [(0, .ref (Γ.2.1 176)), (1, .int v1), (2, .int v2), (3, .int v3)] [] := by
  intro n
  induction n with
  | zero =>
    intro v1 v2 v3 D hf
    exact absurd (show (none : Option (Int32 × Dt)) = some (rr, DD) from hf) (by simp)
  | succ n ih =>
    intro v1 v2 v3 D hf
    exact ts_Model_groundAll_4 C (k4 := lp_Model_groundAll_4 n) ih hf
def f_Model_groundAll (v1 : Int32) (D : Dt) : Option (Int32 × Dt) :=
  lp_Model_groundAll_4 FU v1 0 0 D
set_option maxHeartbeats 4000000 in
theorem te_Model_groundAll {Γ : GmT} {G : Dt → Nat → List (Nat × Value) → List Value → Prop} {rr : Int32} {DD : Dt} (C : Cx Γ "RiverTuesdaysModel" b_Model_groundAll 4 2 (some .int) (some (.int rr)) DD G) {v1 : Int32} {D : Dt} (hf : f_Model_groundAll v1 D = some (rr, DD)) : G D 0 [(0, .ref (Γ.2.1 176)), (1, .int v1)] [] := by
  unfold f_Model_groundAll at hf
  refine r_iconst (pc := 0) C (v := 0) d_Model_groundAll_0 (by decide) ?_
  refine r_istore_n (pc := 1) (lv' := [(2, .int 0), (0, .ref (Γ.2.1 176)), (1, .int v1)]) C d_Model_groundAll_1 rfl (Nat.le_of_ble_eq_true rfl) rfl ?_
  refine r_iconst (pc := 2) C (v := 0) d_Model_groundAll_2 (by decide) ?_
  refine r_istore_n (pc := 3) (lv' := [(3, .int 0), (2, .int 0), (0, .ref (Γ.2.1 176)), (1, .int v1)]) C d_Model_groundAll_3 rfl (Nat.le_of_ble_eq_true rfl) rfl ?_
  exact r_lv (pc := 4) C [2, 3, 1, 0] rfl (tl_Model_groundAll_4 C FU v1 0 0 D hf)
theorem c_Model_groundAll (Γ : GmT) {v1 : Int32} {D : Dt} {rr : Int32} {DD : Dt} (hf : f_Model_groundAll v1 D = some (rr, DD)) : Mt Γ y_Model_groundAll b_Model_groundAll 4 (some .int) 2 [.ref (Γ.2.1 176), .int v1] D (some (.int rr)) DD := Mt_of (by decide) (Nat.le_of_ble_eq_true rfl) (fun G C => te_Model_groundAll C hf)
def b_Model_meetsHour_145 (k9 : Int32 → Int32 → Int32 → Dt → Option (Unit × Dt)) (v1 : Int32) (v2 : Int32) (v3 : Int32) (s0 : Int32) (s1 : Int32) (s2 : Int32) (rs3 : Nat) (D : Dt) : Option (Unit × Dt) :=
  (if inb s2 8 = true then nm (wr D rs3 s2.toNatClampNeg (s1 ||| s0)) (fun D10 => k9 v1 v2 (v3 + 1) D10) else none)
set_option maxHeartbeats 4000000 in
theorem tb_Model_meetsHour_145 {Γ : GmT} {G : Dt → Nat → List (Nat × Value) → List Value → Prop} {rr : Unit} {DD : Dt} (C : Cx Γ "RiverTuesdaysModel" b_Model_meetsHour 4 2 none none DD G) {k9 : Int32 → Int32 → Int32 → Dt → Option (Unit × Dt)} (hk9 : ∀ (v1 : Int32) (v2 : Int32) (v3 : Int32) (D : Dt), k9 v1 v2 v3 D = some (rr, DD) → G D 9 [(0, .ref (Γ.2.1 176)), (1, .int v1), (2, .int v2), (3, .int v3)] []) {v1 : Int32} {v2 : Int32} {v3 : Int32} {s0 : Int32} {s1 : Int32} {s2 : Int32} {rs3 : Nat} (hrs3 : isA 11 rs3 8) {D : Dt} (hf : b_Model_meetsHour_145 k9 v1 v2 v3 s0 s1 s2 rs3 D = some (rr, DD)) : G D 145 [(0, .ref (Γ.2.1 176)), (1, .int v1), (2, .int v2), (3, .int v3)] [.int s0, .int s1, .int s2, .ref (Γ.2.1 rs3)] := by
  unfold b_Model_meetsHour_145 at hf
  refine r_ior (pc := 145) C d_Model_meetsHour_145 ?_
  refine r_iast (pc := 146) C hrs3 d_Model_meetsHour_146 hf (fun hf => ?_)
  refine r_nmD hf (fun D10 hf => ?_)
  refine r_iinc (pc := 147) C (v := v3 + 1) (lv' := [(3, .int (v3 + 1)), (0, .ref (Γ.2.1 176)), (1, .int v1), (2, .int v2)]) 3 d_Model_meetsHour_147 rfl rfl (Nat.le_of_ble_eq_true rfl) rfl ?_
  refine r_goto (pc := 150) C (tgt := 9) d_Model_meetsHour_150 (by decide) ?_
  exact r_lv (pc := 9) C [1, 2, 3, 0] rfl (hk9 v1 v2 (v3 + 1) D10 hf)
def b_Model_meetsHour_96 (k9 : Int32 → Int32 → Int32 → Dt → Option (Unit × Dt)) (v1 : Int32) (v2 : Int32) (v3 : Int32) (D : Dt) : Option (Unit × Dt) :=
  (if inb v3 8 = true then bnd (f_Model_v v1 (0 + v3) D) (fun x3 D4 => bnd (f_Model_greater (D 202 v3.toNatClampNeg) x3 D4) (fun x5 D6 => (if inb v3 8 = true then nm (wr D6 202 v3.toNatClampNeg x5) (fun D7 => (if inb v2 8 = true then bnd (f_Model_v v1 (0 + v3) D7) (fun x8 D9 => (if x8 < 2 then b_Model_meetsHour_145 k9 v1 v2 v3 0 (D7 201 v2.toNatClampNeg) v2 201 D9 else b_Model_meetsHour_145 k9 v1 v2 v3 (1 <<< (v3 &&& 31)) (D7 201 v2.toNatClampNeg) v2 201 D9)) else none)) else none))) else none)
set_option maxHeartbeats 4000000 in
theorem tb_Model_meetsHour_96 {Γ : GmT} {G : Dt → Nat → List (Nat × Value) → List Value → Prop} {rr : Unit} {DD : Dt} (C : Cx Γ "RiverTuesdaysModel" b_Model_meetsHour 4 2 none none DD G) {k9 : Int32 → Int32 → Int32 → Dt → Option (Unit × Dt)} (hk9 : ∀ (v1 : Int32) (v2 : Int32) (v3 : Int32) (D : Dt), k9 v1 v2 v3 D = some (rr, DD) → G D 9 [(0, .ref (Γ.2.1 176)), (1, .int v1), (2, .int v2), (3, .int v3)] []) {v1 : Int32} {v2 : Int32} {v3 : Int32} {D : Dt} (hf : b_Model_meetsHour_96 k9 v1 v2 v3 D = some (rr, DD)) : G D 96 [(0, .ref (Γ.2.1 176)), (1, .int v1), (2, .int v2), (3, .int v3)] [] := by
  unfold b_Model_meetsHour_96 at hf
  refine r_aload_n (pc := 96) C 0 d_Model_meetsHour_96 rfl rfl ?_
  refine g_Model_marksOf (pc := 97) C k_id176 Lf_Model_87 d_Model_meetsHour_97 ?_
  refine r_iload_n (pc := 100) C 3 d_Model_meetsHour_100 rfl rfl ?_
  refine r_aload_n (pc := 101) C 0 d_Model_meetsHour_101 rfl rfl ?_
  refine g_Model_marksOf (pc := 102) C k_id176 Lf_Model_87 d_Model_meetsHour_102 ?_
  refine r_iload_n (pc := 105) C 3 d_Model_meetsHour_105 rfl rfl ?_
  refine r_iald (pc := 106) C kq_Model_marksOf d_Model_meetsHour_106 hf (fun hf => ?_)
  refine r_aload_n (pc := 107) C 0 d_Model_meetsHour_107 rfl rfl ?_
  refine r_iload_n (pc := 108) C 1 d_Model_meetsHour_108 rfl rfl ?_
  refine r_iconst (pc := 109) C (v := 0) d_Model_meetsHour_109 (by decide) ?_
  refine r_iload_n (pc := 110) C 3 d_Model_meetsHour_110 rfl rfl ?_
  refine r_iadd (pc := 111) C d_Model_meetsHour_111 ?_
  refine r_callVi (pc := 112) (As := [.int v1, .int (0 + v3)]) (rest := [.int (D 202 v3.toNatClampNeg), .int v3, .ref (Γ.2.1 202)]) C ok_Model_v Lm_Model_192 k_id176 (by decide) ⟨by decide, by decide⟩ rfl rfl (Nat.le_of_ble_eq_true rfl) d_Model_meetsHour_112 hf (fun x D1 hc => c_Model_v Γ hc) (fun x3 D4 hf => ?_)
  refine r_callSi (pc := 115) (As := [.int (D 202 v3.toNatClampNeg), .int x3]) (rest := [.int v3, .ref (Γ.2.1 202)]) C ok_Model_greater Lm_Model_213 ⟨by decide, by decide⟩ rfl rfl (Nat.le_of_ble_eq_true rfl) d_Model_meetsHour_115 hf (fun x D1 hc => c_Model_greater Γ hc) (fun x5 D6 hf => ?_)
  refine r_iast (pc := 118) C kq_Model_marksOf d_Model_meetsHour_118 hf (fun hf => ?_)
  refine r_nmD hf (fun D7 hf => ?_)
  refine r_aload_n (pc := 119) C 0 d_Model_meetsHour_119 rfl rfl ?_
  refine g_Model_cutSets (pc := 120) C k_id176 Lf_Model_84 d_Model_meetsHour_120 ?_
  refine r_iload_n (pc := 123) C 2 d_Model_meetsHour_123 rfl rfl ?_
  refine r_dup2 (pc := 124) C d_Model_meetsHour_124 rfl rfl ?_
  refine r_iald (pc := 125) C kq_Model_cutSets d_Model_meetsHour_125 hf (fun hf => ?_)
  refine r_aload_n (pc := 126) C 0 d_Model_meetsHour_126 rfl rfl ?_
  refine r_iload_n (pc := 127) C 1 d_Model_meetsHour_127 rfl rfl ?_
  refine r_iconst (pc := 128) C (v := 0) d_Model_meetsHour_128 (by decide) ?_
  refine r_iload_n (pc := 129) C 3 d_Model_meetsHour_129 rfl rfl ?_
  refine r_iadd (pc := 130) C d_Model_meetsHour_130 ?_
  refine r_callVi (pc := 131) (As := [.int v1, .int (0 + v3)]) (rest := [.int (D7 201 v2.toNatClampNeg), .int v2, .ref (Γ.2.1 201)]) C ok_Model_v Lm_Model_192 k_id176 (by decide) ⟨by decide, by decide⟩ rfl rfl (Nat.le_of_ble_eq_true rfl) d_Model_meetsHour_131 hf (fun x D1 hc => c_Model_v Γ hc) (fun x8 D9 hf => ?_)
  refine r_iconst (pc := 134) C (v := 2) d_Model_meetsHour_134 (by decide) ?_
  refine r_icmp_lt (pc := 135) C (tgt := 144) d_Model_meetsHour_135 (by decide) hf (fun c135 hf => ?_) (fun c135 hf => ?_)
  · refine r_iconst (pc := 144) C (v := 0) d_Model_meetsHour_144 (by decide) ?_
    exact r_lv (pc := 145) C [0, 1, 2, 3] rfl (tb_Model_meetsHour_145 C hk9 kq_Model_cutSets hf)
  · refine r_iconst (pc := 138) C (v := 1) d_Model_meetsHour_138 (by decide) ?_
    refine r_iload_n (pc := 139) C 3 d_Model_meetsHour_139 rfl rfl ?_
    refine r_ishl (pc := 140) C d_Model_meetsHour_140 ?_
    refine r_goto (pc := 141) C (tgt := 145) d_Model_meetsHour_141 (by decide) ?_
    exact r_lv (pc := 145) C [0, 1, 2, 3] rfl (tb_Model_meetsHour_145 C hk9 kq_Model_cutSets hf)
def b_Model_meetsHour_83 (k9 : Int32 → Int32 → Int32 → Dt → Option (Unit × Dt)) (v1 : Int32) (v2 : Int32) (v3 : Int32) (s0 : Int32) (s1 : Int32) (rs2 : Nat) (D : Dt) : Option (Unit × Dt) :=
  (if inb s1 8 = true then nm (wr D rs2 s1.toNatClampNeg s0) (fun D13 => nm (wr D13 176 37 ((D13 176 37) ||| (1 <<< (v3 &&& 31)))) (fun D14 => b_Model_meetsHour_96 k9 v1 v2 v3 D14)) else none)
set_option maxHeartbeats 4000000 in
theorem tb_Model_meetsHour_83 {Γ : GmT} {G : Dt → Nat → List (Nat × Value) → List Value → Prop} {rr : Unit} {DD : Dt} (C : Cx Γ "RiverTuesdaysModel" b_Model_meetsHour 4 2 none none DD G) {k9 : Int32 → Int32 → Int32 → Dt → Option (Unit × Dt)} (hk9 : ∀ (v1 : Int32) (v2 : Int32) (v3 : Int32) (D : Dt), k9 v1 v2 v3 D = some (rr, DD) → G D 9 [(0, .ref (Γ.2.1 176)), (1, .int v1), (2, .int v2), (3, .int v3)] []) {v1 : Int32} {v2 : Int32} {v3 : Int32} {s0 : Int32} {s1 : Int32} {rs2 : Nat} (hrs2 : isA 11 rs2 8) {D : Dt} (hf : b_Model_meetsHour_83 k9 v1 v2 v3 s0 s1 rs2 D = some (rr, DD)) : G D 83 [(0, .ref (Γ.2.1 176)), (1, .int v1), (2, .int v2), (3, .int v3)] [.int s0, .int s1, .ref (Γ.2.1 rs2)] := by
  unfold b_Model_meetsHour_83 at hf
  refine r_iast (pc := 83) C hrs2 d_Model_meetsHour_83 hf (fun hf => ?_)
  refine r_nmD hf (fun D13 hf => ?_)
  refine r_aload_n (pc := 84) C 0 d_Model_meetsHour_84 rfl rfl ?_
  refine r_dup (pc := 85) C d_Model_meetsHour_85 rfl ?_
  refine g_Model_wetSet (pc := 86) C k_id176 Lf_Model_245 d_Model_meetsHour_86 ?_
  refine r_iconst (pc := 89) C (v := 1) d_Model_meetsHour_89 (by decide) ?_
  refine r_iload_n (pc := 90) C 3 d_Model_meetsHour_90 rfl rfl ?_
  refine r_ishl (pc := 91) C d_Model_meetsHour_91 ?_
  refine r_ior (pc := 92) C d_Model_meetsHour_92 ?_
  refine p_Model_wetSet (pc := 93) C k_id176 Lf_Model_245 d_Model_meetsHour_93 ?_
  refine r_nmD hf (fun D14 hf => ?_)
  exact r_lv (pc := 96) C [0, 1, 2, 3] rfl (tb_Model_meetsHour_96 C hk9 hf)
def b_Model_meetsHour_43 (k9 : Int32 → Int32 → Int32 → Dt → Option (Unit × Dt)) (v1 : Int32) (v2 : Int32) (v3 : Int32) (s0 : Int32) (s1 : Int32) (s2 : Int32) (D : Dt) : Option (Unit × Dt) :=
  nm (wr D 176 35 (s2 + (s1 * s0))) (fun D2 => (if inb v3 8 = true then (if (D2 191 v3.toNatClampNeg) ≤ 0 then b_Model_meetsHour_96 k9 v1 v2 v3 D2 else bnd (f_Model_has (D2 176 37) v3 D2) (fun x11 D12 => (if x11 = 0 then b_Model_meetsHour_83 k9 v1 v2 v3 v2 v3 200 D12 else (if inb v3 8 = true then b_Model_meetsHour_83 k9 v1 v2 v3 (D12 200 v3.toNatClampNeg) v3 200 D12 else none)))) else none))
set_option maxHeartbeats 4000000 in
theorem tb_Model_meetsHour_43 {Γ : GmT} {G : Dt → Nat → List (Nat × Value) → List Value → Prop} {rr : Unit} {DD : Dt} (C : Cx Γ "RiverTuesdaysModel" b_Model_meetsHour 4 2 none none DD G) {k9 : Int32 → Int32 → Int32 → Dt → Option (Unit × Dt)} (hk9 : ∀ (v1 : Int32) (v2 : Int32) (v3 : Int32) (D : Dt), k9 v1 v2 v3 D = some (rr, DD) → G D 9 [(0, .ref (Γ.2.1 176)), (1, .int v1), (2, .int v2), (3, .int v3)] []) {v1 : Int32} {v2 : Int32} {v3 : Int32} {s0 : Int32} {s1 : Int32} {s2 : Int32} {D : Dt} (hf : b_Model_meetsHour_43 k9 v1 v2 v3 s0 s1 s2 D = some (rr, DD)) : G D 43 [(0, .ref (Γ.2.1 176)), (1, .int v1), (2, .int v2), (3, .int v3)] [.int s0, .int s1, .int s2, .ref (Γ.2.1 176)] := by
  unfold b_Model_meetsHour_43 at hf
  refine r_imul (pc := 43) C d_Model_meetsHour_43 ?_
  refine r_iadd (pc := 44) C d_Model_meetsHour_44 ?_
  refine p_Model_harmOf (pc := 45) C k_id176 Lf_Model_242 d_Model_meetsHour_45 ?_
  refine r_nmD hf (fun D2 hf => ?_)
  refine r_aload_n (pc := 48) C 0 d_Model_meetsHour_48 rfl rfl ?_
  refine g_Model_got (pc := 49) C k_id176 Lf_Model_53 d_Model_meetsHour_49 ?_
  refine r_iload_n (pc := 52) C 3 d_Model_meetsHour_52 rfl rfl ?_
  refine r_iald (pc := 53) C kq_Model_got d_Model_meetsHour_53 hf (fun hf => ?_)
  refine r_if_le (pc := 54) C (tgt := 96) d_Model_meetsHour_54 (by decide) hf (fun c54 hf => ?_) (fun c54 hf => ?_)
  · exact r_lv (pc := 96) C [0, 1, 2, 3] rfl (tb_Model_meetsHour_96 C hk9 hf)
  · refine r_aload_n (pc := 57) C 0 d_Model_meetsHour_57 rfl rfl ?_
    refine g_Model_wetHour (pc := 58) C k_id176 Lf_Model_81 d_Model_meetsHour_58 ?_
    refine r_iload_n (pc := 61) C 3 d_Model_meetsHour_61 rfl rfl ?_
    refine r_aload_n (pc := 62) C 0 d_Model_meetsHour_62 rfl rfl ?_
    refine g_Model_wetSet (pc := 63) C k_id176 Lf_Model_245 d_Model_meetsHour_63 ?_
    refine r_iload_n (pc := 66) C 3 d_Model_meetsHour_66 rfl rfl ?_
    refine r_callSi (pc := 67) (As := [.int (D2 176 37), .int v3]) (rest := [.int v3, .ref (Γ.2.1 200)]) C ok_Model_has Lm_Model_248 ⟨by decide, by decide⟩ rfl rfl (Nat.le_of_ble_eq_true rfl) d_Model_meetsHour_67 hf (fun x D1 hc => c_Model_has Γ hc) (fun x11 D12 hf => ?_)
    refine r_if_eq (pc := 70) C (tgt := 82) d_Model_meetsHour_70 (by decide) hf (fun c70 hf => ?_) (fun c70 hf => ?_)
    · refine r_iload_n (pc := 82) C 2 d_Model_meetsHour_82 rfl rfl ?_
      exact r_lv (pc := 83) C [0, 1, 2, 3] rfl (tb_Model_meetsHour_83 C hk9 kq_Model_wetHour hf)
    · refine r_aload_n (pc := 73) C 0 d_Model_meetsHour_73 rfl rfl ?_
      refine g_Model_wetHour (pc := 74) C k_id176 Lf_Model_81 d_Model_meetsHour_74 ?_
      refine r_iload_n (pc := 77) C 3 d_Model_meetsHour_77 rfl rfl ?_
      refine r_iald (pc := 78) C kq_Model_wetHour d_Model_meetsHour_78 hf (fun hf => ?_)
      refine r_goto (pc := 79) C (tgt := 83) d_Model_meetsHour_79 (by decide) ?_
      exact r_lv (pc := 83) C [0, 1, 2, 3] rfl (tb_Model_meetsHour_83 C hk9 kq_Model_wetHour hf)
def s_Model_meetsHour_9 (k9 : Int32 → Int32 → Int32 → Dt → Option (Unit × Dt)) (v1 : Int32) (v2 : Int32) (v3 : Int32) (D : Dt) : Option (Unit × Dt) :=
  (if (D 176 10) ≤ v3 then some ((), D) else (if inb v3 8 = true then (if inb v3 8 = true then (if (D 183 v3.toNatClampNeg) = 2 then b_Model_meetsHour_43 k9 v1 v2 v3 2 (D 191 v3.toNatClampNeg) (D 176 35) D else b_Model_meetsHour_43 k9 v1 v2 v3 1 (D 191 v3.toNatClampNeg) (D 176 35) D) else none) else none))
def lp_Model_meetsHour_9 (n : Nat) : Int32 → Int32 → Int32 → Dt → Option (Unit × Dt) := itr (fun _ _ _ _ => none) (s_Model_meetsHour_9) n
set_option maxHeartbeats 4000000 in
theorem ts_Model_meetsHour_9 {Γ : GmT} {G : Dt → Nat → List (Nat × Value) → List Value → Prop} {rr : Unit} {DD : Dt} (C : Cx Γ "RiverTuesdaysModel" b_Model_meetsHour 4 2 none none DD G) {k9 : Int32 → Int32 → Int32 → Dt → Option (Unit × Dt)} (hk9 : ∀ (v1 : Int32) (v2 : Int32) (v3 : Int32) (D : Dt), k9 v1 v2 v3 D = some (rr, DD) → G D 9 [(0, .ref (Γ.2.1 176)), (1, .int v1), (2, .int v2), (3, .int v3)] []) {v1 : Int32} {v2 : Int32} {v3 : Int32} {D : Dt} (hf : s_Model_meetsHour_9 k9 v1 v2 v3 D = some (rr, DD)) : G D 9 [(0, .ref (Γ.2.1 176)), (1, .int v1), (2, .int v2), (3, .int v3)] [] := by
  unfold s_Model_meetsHour_9 at hf
  refine r_iload_n (pc := 9) C 3 d_Model_meetsHour_9 rfl rfl ?_
  refine r_aload_n (pc := 10) C 0 d_Model_meetsHour_10 rfl rfl ?_
  refine g_Model_n (pc := 11) C k_id176 Lf_Model_176 d_Model_meetsHour_11 ?_
  refine r_icmp_ge (pc := 14) C (tgt := 153) d_Model_meetsHour_14 (by decide) hf (fun c14 hf => ?_) (fun c14 hf => ?_)
  · exact r_vret (pc := 153) C d_Model_meetsHour_153 hf
  · refine r_aload_n (pc := 17) C 0 d_Model_meetsHour_17 rfl rfl ?_
    refine r_dup (pc := 18) C d_Model_meetsHour_18 rfl ?_
    refine g_Model_harmOf (pc := 19) C k_id176 Lf_Model_242 d_Model_meetsHour_19 ?_
    refine r_aload_n (pc := 22) C 0 d_Model_meetsHour_22 rfl rfl ?_
    refine g_Model_got (pc := 23) C k_id176 Lf_Model_53 d_Model_meetsHour_23 ?_
    refine r_iload_n (pc := 26) C 3 d_Model_meetsHour_26 rfl rfl ?_
    refine r_iald (pc := 27) C kq_Model_got d_Model_meetsHour_27 hf (fun hf => ?_)
    refine r_aload_n (pc := 28) C 0 d_Model_meetsHour_28 rfl rfl ?_
    refine g_Model_kinds (pc := 29) C k_id176 Lf_Model_29 d_Model_meetsHour_29 ?_
    refine r_iload_n (pc := 32) C 3 d_Model_meetsHour_32 rfl rfl ?_
    refine r_iald (pc := 33) C kq_Model_kinds d_Model_meetsHour_33 hf (fun hf => ?_)
    refine r_iconst (pc := 34) C (v := 2) d_Model_meetsHour_34 (by decide) ?_
    refine r_icmp_ne (pc := 35) C (tgt := 42) d_Model_meetsHour_35 (by decide) hf (fun c35 hf => ?_) (fun c35 hf => ?_)
    · refine r_iconst (pc := 42) C (v := 1) d_Model_meetsHour_42 (by decide) ?_
      exact r_lv (pc := 43) C [0, 1, 2, 3] rfl (tb_Model_meetsHour_43 C hk9 hf)
    · refine r_iconst (pc := 38) C (v := 2) d_Model_meetsHour_38 (by decide) ?_
      refine r_goto (pc := 39) C (tgt := 43) d_Model_meetsHour_39 (by decide) ?_
      exact r_lv (pc := 43) C [0, 1, 2, 3] rfl (tb_Model_meetsHour_43 C hk9 hf)
theorem tl_Model_meetsHour_9 {Γ : GmT} {G : Dt → Nat → List (Nat × Value) → List Value → Prop} {rr : Unit} {DD : Dt} (C : Cx Γ "RiverTuesdaysModel" b_Model_meetsHour 4 2 none none DD G) : ∀ (n : Nat) (v1 : Int32) (v2 : Int32) (v3 : Int32) (D : Dt), lp_Model_meetsHour_9 n v1 v2 v3 D = some (rr, DD) → G D 9 [(0, .ref (Γ.2.1 176)), (1, .int v1), (2, .int v2), (3, .int v3)] [] := by
  intro n
  induction n with
  | zero =>
    intro v1 v2 v3 D hf
    exact absurd (show (none : Option (Unit × Dt)) = some (rr, DD) from hf) (by simp)
  | succ n ih =>
    intro v1 v2 v3 D hf
    exact ts_Model_meetsHour_9 C (k9 := lp_Model_meetsHour_9 n) ih hf
def f_Model_meetsHour (v1 : Int32) (v2 : Int32) (D : Dt) : Option (Unit × Dt) :=
  (if inb v2 8 = true then nm (wr D 201 v2.toNatClampNeg 0) (fun D1 => lp_Model_meetsHour_9 FU v1 v2 0 D1) else none)
set_option maxHeartbeats 4000000 in
theorem te_Model_meetsHour {Γ : GmT} {G : Dt → Nat → List (Nat × Value) → List Value → Prop} {rr : Unit} {DD : Dt} (C : Cx Γ "RiverTuesdaysModel" b_Model_meetsHour 4 2 none none DD G) {v1 : Int32} {v2 : Int32} {D : Dt} (hf : f_Model_meetsHour v1 v2 D = some (rr, DD)) : G D 0 [(0, .ref (Γ.2.1 176)), (1, .int v1), (2, .int v2)] [] := by
  unfold f_Model_meetsHour at hf
  refine r_aload_n (pc := 0) C 0 d_Model_meetsHour_0 rfl rfl ?_
  refine g_Model_cutSets (pc := 1) C k_id176 Lf_Model_84 d_Model_meetsHour_1 ?_
  refine r_iload_n (pc := 4) C 2 d_Model_meetsHour_4 rfl rfl ?_
  refine r_iconst (pc := 5) C (v := 0) d_Model_meetsHour_5 (by decide) ?_
  refine r_iast (pc := 6) C kq_Model_cutSets d_Model_meetsHour_6 hf (fun hf => ?_)
  refine r_nmD hf (fun D1 hf => ?_)
  refine r_iconst (pc := 7) C (v := 0) d_Model_meetsHour_7 (by decide) ?_
  refine r_istore_n (pc := 8) (lv' := [(3, .int 0), (0, .ref (Γ.2.1 176)), (1, .int v1), (2, .int v2)]) C d_Model_meetsHour_8 rfl (Nat.le_of_ble_eq_true rfl) rfl ?_
  exact r_lv (pc := 9) C [1, 2, 3, 0] rfl (tl_Model_meetsHour_9 C FU v1 v2 0 D1 hf)
theorem c_Model_meetsHour (Γ : GmT) {v1 : Int32} {v2 : Int32} {D : Dt} {rr : Unit} {DD : Dt} (hf : f_Model_meetsHour v1 v2 D = some (rr, DD)) : Mt Γ y_Model_meetsHour b_Model_meetsHour 4 none 2 [.ref (Γ.2.1 176), .int v1, .int v2] D none DD := Mt_of (by decide) (Nat.le_of_ble_eq_true rfl) (fun G C => te_Model_meetsHour C hf)
def s_Model_runAside_21 (k21 : Int32 → Int32 → Int32 → Int32 → Dt → Option (Unit × Dt)) (v1 : Int32) (v2 : Int32) (v3 : Int32) (v4 : Int32) (D : Dt) : Option (Unit × Dt) :=
  (if 8 ≤ v4 then bnd (f_Model_groundAll 1 D) (fun x7 D8 => nm (wr D8 176 36 (x7 - v2)) (fun D9 => bnd (f_Model_v 1 25 D9) (fun x10 D11 => nm (wr D11 176 38 (x10 - v3)) (fun D12 => bnd (f_Model_standing 1 D12) (fun x13 D14 => nm (wr D14 176 39 x13) (fun D15 => some ((), D15))))))) else bnd (f_Model_has v1 v4 D) (fun x16 D17 => bnd (f_Model_goes 1 x16 D17) (fun x18 D19 => bnd (f_Model_meetsHour 1 v4 D19) (fun x20 D21 => k21 v1 v2 v3 (v4 + 1) D21))))
def lp_Model_runAside_21 (n : Nat) : Int32 → Int32 → Int32 → Int32 → Dt → Option (Unit × Dt) := itr (fun _ _ _ _ _ => none) (s_Model_runAside_21) n
set_option maxHeartbeats 4000000 in
theorem ts_Model_runAside_21 {Γ : GmT} {G : Dt → Nat → List (Nat × Value) → List Value → Prop} {rr : Unit} {DD : Dt} (C : Cx Γ "RiverTuesdaysModel" b_Model_runAside 5 5 none none DD G) {k21 : Int32 → Int32 → Int32 → Int32 → Dt → Option (Unit × Dt)} (hk21 : ∀ (v1 : Int32) (v2 : Int32) (v3 : Int32) (v4 : Int32) (D : Dt), k21 v1 v2 v3 v4 D = some (rr, DD) → G D 21 [(0, .ref (Γ.2.1 176)), (1, .int v1), (2, .int v2), (3, .int v3), (4, .int v4)] []) {v1 : Int32} {v2 : Int32} {v3 : Int32} {v4 : Int32} {D : Dt} (hf : s_Model_runAside_21 k21 v1 v2 v3 v4 D = some (rr, DD)) : G D 21 [(0, .ref (Γ.2.1 176)), (1, .int v1), (2, .int v2), (3, .int v3), (4, .int v4)] [] := by
  unfold s_Model_runAside_21 at hf
  refine r_iload (pc := 21) C 4 d_Model_runAside_21 rfl ?_
  refine r_bipush (pc := 23) C (v := 8) d_Model_runAside_23 (by decide) ?_
  refine r_icmp_ge (pc := 25) C (tgt := 52) d_Model_runAside_25 (by decide) hf (fun c25 hf => ?_) (fun c25 hf => ?_)
  · refine r_aload_n (pc := 52) C 0 d_Model_runAside_52 rfl rfl ?_
    refine r_aload_n (pc := 53) C 0 d_Model_runAside_53 rfl rfl ?_
    refine r_iconst (pc := 54) C (v := 1) d_Model_runAside_54 (by decide) ?_
    refine r_callVi (pc := 55) (As := [.int 1]) (rest := [.ref (Γ.2.1 176)]) C ok_Model_groundAll Lm_Model_255 k_id176 (by decide) ⟨by decide, by decide⟩ rfl rfl (Nat.le_of_ble_eq_true rfl) d_Model_runAside_55 hf (fun x D1 hc => c_Model_groundAll Γ hc) (fun x7 D8 hf => ?_)
    refine r_iload_n (pc := 58) C 2 d_Model_runAside_58 rfl rfl ?_
    refine r_isub (pc := 59) C d_Model_runAside_59 ?_
    refine p_Model_groundOf (pc := 60) C k_id176 Lf_Model_262 d_Model_runAside_60 ?_
    refine r_nmD hf (fun D9 hf => ?_)
    refine r_aload_n (pc := 63) C 0 d_Model_runAside_63 rfl rfl ?_
    refine r_aload_n (pc := 64) C 0 d_Model_runAside_64 rfl rfl ?_
    refine r_iconst (pc := 65) C (v := 1) d_Model_runAside_65 (by decide) ?_
    refine r_bipush (pc := 66) C (v := 25) d_Model_runAside_66 (by decide) ?_
    refine r_callVi (pc := 68) (As := [.int 1, .int 25]) (rest := [.ref (Γ.2.1 176)]) C ok_Model_v Lm_Model_192 k_id176 (by decide) ⟨by decide, by decide⟩ rfl rfl (Nat.le_of_ble_eq_true rfl) d_Model_runAside_68 hf (fun x D1 hc => c_Model_v Γ hc) (fun x10 D11 hf => ?_)
    refine r_iload_n (pc := 71) C 3 d_Model_runAside_71 rfl rfl ?_
    refine r_isub (pc := 72) C d_Model_runAside_72 ?_
    refine p_Model_outOf (pc := 73) C k_id176 Lf_Model_265 d_Model_runAside_73 ?_
    refine r_nmD hf (fun D12 hf => ?_)
    refine r_aload_n (pc := 76) C 0 d_Model_runAside_76 rfl rfl ?_
    refine r_aload_n (pc := 77) C 0 d_Model_runAside_77 rfl rfl ?_
    refine r_iconst (pc := 78) C (v := 1) d_Model_runAside_78 (by decide) ?_
    refine r_callVi (pc := 79) (As := [.int 1]) (rest := [.ref (Γ.2.1 176)]) C ok_Model_standing Lm_Model_236 k_id176 (by decide) ⟨by decide, by decide⟩ rfl rfl (Nat.le_of_ble_eq_true rfl) d_Model_runAside_79 hf (fun x D1 hc => c_Model_standing Γ hc) (fun x13 D14 hf => ?_)
    refine p_Model_standsOf (pc := 82) C k_id176 Lf_Model_268 d_Model_runAside_82 ?_
    refine r_nmD hf (fun D15 hf => ?_)
    exact r_vret (pc := 85) C d_Model_runAside_85 hf
  · refine r_aload_n (pc := 28) C 0 d_Model_runAside_28 rfl rfl ?_
    refine r_iconst (pc := 29) C (v := 1) d_Model_runAside_29 (by decide) ?_
    refine r_iload_n (pc := 30) C 1 d_Model_runAside_30 rfl rfl ?_
    refine r_iload (pc := 31) C 4 d_Model_runAside_31 rfl ?_
    refine r_callSi (pc := 33) (As := [.int v1, .int v4]) (rest := [.int 1, .ref (Γ.2.1 176)]) C ok_Model_has Lm_Model_248 ⟨by decide, by decide⟩ rfl rfl (Nat.le_of_ble_eq_true rfl) d_Model_runAside_33 hf (fun x D1 hc => c_Model_has Γ hc) (fun x16 D17 hf => ?_)
    refine r_callVv (pc := 36) (As := [.int 1, .int x16]) (rest := []) C ok_Model_goes Lm_Model_225 k_id176 (by decide) ⟨by decide, by decide⟩ rfl rfl (Nat.le_of_ble_eq_true rfl) d_Model_runAside_36 hf (fun x D1 hc => c_Model_goes Γ hc) (fun x18 D19 hf => ?_)
    refine r_aload_n (pc := 39) C 0 d_Model_runAside_39 rfl rfl ?_
    refine r_iconst (pc := 40) C (v := 1) d_Model_runAside_40 (by decide) ?_
    refine r_iload (pc := 41) C 4 d_Model_runAside_41 rfl ?_
    refine r_callVv (pc := 43) (As := [.int 1, .int v4]) (rest := []) C ok_Model_meetsHour Lm_Model_258 k_id176 (by decide) ⟨by decide, by decide⟩ rfl rfl (Nat.le_of_ble_eq_true rfl) d_Model_runAside_43 hf (fun x D1 hc => c_Model_meetsHour Γ hc) (fun x20 D21 hf => ?_)
    refine r_iinc (pc := 46) C (v := v4 + 1) (lv' := [(4, .int (v4 + 1)), (0, .ref (Γ.2.1 176)), (1, .int v1), (2, .int v2), (3, .int v3)]) 4 d_Model_runAside_46 rfl rfl (Nat.le_of_ble_eq_true rfl) rfl ?_
    refine r_goto (pc := 49) C (tgt := 21) d_Model_runAside_49 (by decide) ?_
    exact r_lv (pc := 21) C [1, 2, 3, 4, 0] rfl (hk21 v1 v2 v3 (v4 + 1) D21 hf)
theorem tl_Model_runAside_21 {Γ : GmT} {G : Dt → Nat → List (Nat × Value) → List Value → Prop} {rr : Unit} {DD : Dt} (C : Cx Γ "RiverTuesdaysModel" b_Model_runAside 5 5 none none DD G) : ∀ (n : Nat) (v1 : Int32) (v2 : Int32) (v3 : Int32) (v4 : Int32) (D : Dt), lp_Model_runAside_21 n v1 v2 v3 v4 D = some (rr, DD) → G D 21 [(0, .ref (Γ.2.1 176)), (1, .int v1), (2, .int v2), (3, .int v3), (4, .int v4)] [] := by
  intro n
  induction n with
  | zero =>
    intro v1 v2 v3 v4 D hf
    exact absurd (show (none : Option (Unit × Dt)) = some (rr, DD) from hf) (by simp)
  | succ n ih =>
    intro v1 v2 v3 v4 D hf
    exact ts_Model_runAside_21 C (k21 := lp_Model_runAside_21 n) ih hf
def f_Model_runAside (v1 : Int32) (D : Dt) : Option (Unit × Dt) :=
  bnd (f_Model_noTuesday D) (fun x1 D2 => bnd (f_Model_groundAll 1 D2) (fun x3 D4 => bnd (f_Model_v 1 25 D4) (fun x5 D6 => lp_Model_runAside_21 FU v1 x3 x5 0 D6)))
set_option maxHeartbeats 4000000 in
theorem te_Model_runAside {Γ : GmT} {G : Dt → Nat → List (Nat × Value) → List Value → Prop} {rr : Unit} {DD : Dt} (C : Cx Γ "RiverTuesdaysModel" b_Model_runAside 5 5 none none DD G) {v1 : Int32} {D : Dt} (hf : f_Model_runAside v1 D = some (rr, DD)) : G D 0 [(0, .ref (Γ.2.1 176)), (1, .int v1)] [] := by
  unfold f_Model_runAside at hf
  refine r_aload_n (pc := 0) C 0 d_Model_runAside_0 rfl rfl ?_
  refine r_callVv (pc := 1) (As := []) (rest := []) C ok_Model_noTuesday Lm_Model_252 k_id176 (by decide) ⟨by decide, by decide⟩ rfl rfl (Nat.le_of_ble_eq_true rfl) d_Model_runAside_1 hf (fun x D1 hc => c_Model_noTuesday Γ hc) (fun x1 D2 hf => ?_)
  refine r_aload_n (pc := 4) C 0 d_Model_runAside_4 rfl rfl ?_
  refine r_iconst (pc := 5) C (v := 1) d_Model_runAside_5 (by decide) ?_
  refine r_callVi (pc := 6) (As := [.int 1]) (rest := []) C ok_Model_groundAll Lm_Model_255 k_id176 (by decide) ⟨by decide, by decide⟩ rfl rfl (Nat.le_of_ble_eq_true rfl) d_Model_runAside_6 hf (fun x D1 hc => c_Model_groundAll Γ hc) (fun x3 D4 hf => ?_)
  refine r_istore_n (pc := 9) (lv' := [(2, .int x3), (0, .ref (Γ.2.1 176)), (1, .int v1)]) C d_Model_runAside_9 rfl (Nat.le_of_ble_eq_true rfl) rfl ?_
  refine r_aload_n (pc := 10) C 1 d_Model_runAside_10 rfl rfl ?_
  refine r_iconst (pc := 11) C (v := 1) d_Model_runAside_11 (by decide) ?_
  refine r_bipush (pc := 12) C (v := 25) d_Model_runAside_12 (by decide) ?_
  refine r_callVi (pc := 14) (As := [.int 1, .int 25]) (rest := []) C ok_Model_v Lm_Model_192 k_id176 (by decide) ⟨by decide, by decide⟩ rfl rfl (Nat.le_of_ble_eq_true rfl) d_Model_runAside_14 hf (fun x D1 hc => c_Model_v Γ hc) (fun x5 D6 hf => ?_)
  refine r_istore_n (pc := 17) (lv' := [(3, .int x5), (2, .int x3), (0, .ref (Γ.2.1 176)), (1, .int v1)]) C d_Model_runAside_17 rfl (Nat.le_of_ble_eq_true rfl) rfl ?_
  refine r_iconst (pc := 18) C (v := 0) d_Model_runAside_18 (by decide) ?_
  refine r_istore (pc := 19) (lv' := [(4, .int 0), (3, .int x5), (2, .int x3), (0, .ref (Γ.2.1 176)), (1, .int v1)]) C d_Model_runAside_19 (Nat.le_of_ble_eq_true rfl) rfl ?_
  exact r_lv (pc := 21) C [3, 4, 2, 1, 0] rfl (tl_Model_runAside_21 C FU v1 x3 x5 0 D6 hf)
theorem c_Model_runAside (Γ : GmT) {v1 : Int32} {D : Dt} {rr : Unit} {DD : Dt} (hf : f_Model_runAside v1 D = some (rr, DD)) : Mt Γ y_Model_runAside b_Model_runAside 5 none 5 [.ref (Γ.2.1 176), .int v1] D none DD := Mt_of (by decide) (Nat.le_of_ble_eq_true rfl) (fun G C => te_Model_runAside C hf)
def f_Model_layTuesday (v1 : Int32) (D : Dt) : Option (Unit × Dt) :=
  bnd (f_Model_copyStreet D) (fun x1 D2 => bnd (f_Model_runAside v1 D2) (fun x3 D4 => some ((), D4)))
set_option maxHeartbeats 4000000 in
theorem te_Model_layTuesday {Γ : GmT} {G : Dt → Nat → List (Nat × Value) → List Value → Prop} {rr : Unit} {DD : Dt} (C : Cx Γ "RiverTuesdaysModel" b_Model_layTuesday 2 6 none none DD G) {v1 : Int32} {D : Dt} (hf : f_Model_layTuesday v1 D = some (rr, DD)) : G D 0 [(0, .ref (Γ.2.1 176)), (1, .int v1)] [] := by
  unfold f_Model_layTuesday at hf
  refine r_aload_n (pc := 0) C 0 d_Model_layTuesday_0 rfl rfl ?_
  refine r_callVv (pc := 1) (As := []) (rest := []) C ok_Model_copyStreet Lm_Model_222 k_id176 (by decide) ⟨by decide, by decide⟩ rfl rfl (Nat.le_of_ble_eq_true rfl) d_Model_layTuesday_1 hf (fun x D1 hc => c_Model_copyStreet Γ hc) (fun x1 D2 hf => ?_)
  refine r_aload_n (pc := 4) C 0 d_Model_layTuesday_4 rfl rfl ?_
  refine r_iload_n (pc := 5) C 1 d_Model_layTuesday_5 rfl rfl ?_
  refine r_callVv (pc := 6) (As := [.int v1]) (rest := []) C ok_Model_runAside Lm_Model_271 k_id176 (by decide) ⟨by decide, by decide⟩ rfl rfl (Nat.le_of_ble_eq_true rfl) d_Model_layTuesday_6 hf (fun x D1 hc => c_Model_runAside Γ hc) (fun x3 D4 hf => ?_)
  exact r_vret (pc := 9) C d_Model_layTuesday_9 hf
theorem c_Model_layTuesday (Γ : GmT) {v1 : Int32} {D : Dt} {rr : Unit} {DD : Dt} (hf : f_Model_layTuesday v1 D = some (rr, DD)) : Mt Γ y_Model_layTuesday b_Model_layTuesday 2 none 6 [.ref (Γ.2.1 176), .int v1] D none DD := Mt_of (by decide) (Nat.le_of_ble_eq_true rfl) (fun G C => te_Model_layTuesday C hf)
def f_Model_isPlan (v0 : Int32) (D : Dt) : Option (Int32 × Dt) :=
  bnd (f_Model_in v0 0 255 D) (fun x1 D2 => (if x1 = 0 ∨ x1 = 1 then some (x1, D2) else none))
set_option maxHeartbeats 4000000 in
theorem te_Model_isPlan {Γ : GmT} {G : Dt → Nat → List (Nat × Value) → List Value → Prop} {rr : Int32} {DD : Dt} (C : Cx Γ "RiverTuesdaysModel" b_Model_isPlan 1 2 (some .boolean) (some (.int rr)) DD G) {v0 : Int32} {D : Dt} (hf : f_Model_isPlan v0 D = some (rr, DD)) : G D 0 [(0, .int v0)] [] := by
  unfold f_Model_isPlan at hf
  refine r_iload_n (pc := 0) C 0 d_Model_isPlan_0 rfl rfl ?_
  refine r_iconst (pc := 1) C (v := 0) d_Model_isPlan_1 (by decide) ?_
  refine r_sipush (pc := 2) C (v := 255) d_Model_isPlan_2 (by decide) ?_
  refine r_callSi (pc := 5) (As := [.int v0, .int 0, .int 255]) (rest := []) C ok_Model_in Lm_Model_118 ⟨by decide, by decide⟩ rfl rfl (Nat.le_of_ble_eq_true rfl) d_Model_isPlan_5 hf (fun x D1 hc => c_Model_in Γ hc) (fun x1 D2 hf => ?_)
  exact r_zretc (pc := 8) C d_Model_isPlan_8 hf
theorem c_Model_isPlan (Γ : GmT) {v0 : Int32} {D : Dt} {rr : Int32} {DD : Dt} (hf : f_Model_isPlan v0 D = some (rr, DD)) : Mt Γ y_Model_isPlan b_Model_isPlan 1 (some .boolean) 2 [.int v0] D (some (.int rr)) DD := Mt_of (by decide) (Nat.le_of_ble_eq_true rfl) (fun G C => te_Model_isPlan C hf)
def f_Model_needTuesday (v1 : Int32) (v2 : Int32) (D : Dt) : Option (Int32 × Dt) :=
  (if v1 = 0 then some ((-1), D) else bnd (f_Model_isPlan v2 D) (fun x1 D2 => (if x1 = 0 then some ((-1), D2) else (if (D2 176 10) = 0 then some ((-4), D2) else bnd (f_Model_layTuesday v2 D2) (fun x3 D4 => some (0, D4))))))
set_option maxHeartbeats 4000000 in
theorem te_Model_needTuesday {Γ : GmT} {G : Dt → Nat → List (Nat × Value) → List Value → Prop} {rr : Int32} {DD : Dt} (C : Cx Γ "RiverTuesdaysModel" b_Model_needTuesday 3 7 (some .int) (some (.int rr)) DD G) {v1 : Int32} {v2 : Int32} {D : Dt} (hf : f_Model_needTuesday v1 v2 D = some (rr, DD)) : G D 0 [(0, .ref (Γ.2.1 176)), (1, .int v1), (2, .int v2)] [] := by
  unfold f_Model_needTuesday at hf
  refine r_iload_n (pc := 0) C 1 d_Model_needTuesday_0 rfl rfl ?_
  refine r_if_eq (pc := 1) C (tgt := 11) d_Model_needTuesday_1 (by decide) hf (fun c1 hf => ?_) (fun c1 hf => ?_)
  · refine r_iconst (pc := 11) C (v := (-1)) d_Model_needTuesday_11 (by decide) ?_
    exact r_iret (pc := 12) C d_Model_needTuesday_12 hf
  · refine r_iload_n (pc := 4) C 2 d_Model_needTuesday_4 rfl rfl ?_
    refine r_callSi (pc := 5) (As := [.int v2]) (rest := []) C ok_Model_isPlan Lm_Model_275 ⟨by decide, by decide⟩ rfl rfl (Nat.le_of_ble_eq_true rfl) d_Model_needTuesday_5 hf (fun x D1 hc => c_Model_isPlan Γ hc) (fun x1 D2 hf => ?_)
    refine r_if_ne (pc := 8) C (tgt := 13) d_Model_needTuesday_8 (by decide) hf (fun c8 hf => ?_) (fun c8 hf => ?_)
    · refine r_aload_n (pc := 13) C 0 d_Model_needTuesday_13 rfl rfl ?_
      refine g_Model_n (pc := 14) C k_id176 Lf_Model_176 d_Model_needTuesday_14 ?_
      refine r_if_ne (pc := 17) C (tgt := 23) d_Model_needTuesday_17 (by decide) hf (fun c17 hf => ?_) (fun c17 hf => ?_)
      · refine r_aload_n (pc := 23) C 0 d_Model_needTuesday_23 rfl rfl ?_
        refine r_iload_n (pc := 24) C 2 d_Model_needTuesday_24 rfl rfl ?_
        refine r_callVv (pc := 25) (As := [.int v2]) (rest := []) C ok_Model_layTuesday Lm_Model_278 k_id176 (by decide) ⟨by decide, by decide⟩ rfl rfl (Nat.le_of_ble_eq_true rfl) d_Model_needTuesday_25 hf (fun x D1 hc => c_Model_layTuesday Γ hc) (fun x3 D4 hf => ?_)
        refine r_iconst (pc := 28) C (v := 0) d_Model_needTuesday_28 (by decide) ?_
        exact r_iret (pc := 29) C d_Model_needTuesday_29 hf
      · refine r_bipush (pc := 20) C (v := (-4)) d_Model_needTuesday_20 (by decide) ?_
        exact r_iret (pc := 22) C d_Model_needTuesday_22 hf
    · refine r_iconst (pc := 11) C (v := (-1)) d_Model_needTuesday_11 (by decide) ?_
      exact r_iret (pc := 12) C d_Model_needTuesday_12 hf
theorem c_Model_needTuesday (Γ : GmT) {v1 : Int32} {v2 : Int32} {D : Dt} {rr : Int32} {DD : Dt} (hf : f_Model_needTuesday v1 v2 D = some (rr, DD)) : Mt Γ y_Model_needTuesday b_Model_needTuesday 3 (some .int) 7 [.ref (Γ.2.1 176), .int v1, .int v2] D (some (.int rr)) DD := Mt_of (by decide) (Nat.le_of_ble_eq_true rfl) (fun G C => te_Model_needTuesday C hf)
def f_Model_harm (v1 : Int32) (D : Dt) : Option (Int32 × Dt) :=
  bnd (f_Model_needTuesday 1 v1 D) (fun x1 D2 => (if 0 ≤ x1 then bnd (f_Model_tells (D2 176 36) (D2 176 35) D2) (fun x3 D4 => some (x3, D4)) else some (x1, D2)))
set_option maxHeartbeats 4000000 in
theorem te_Model_harm {Γ : GmT} {G : Dt → Nat → List (Nat × Value) → List Value → Prop} {rr : Int32} {DD : Dt} (C : Cx Γ "RiverTuesdaysModel" b_Model_harm 3 8 (some .int) (some (.int rr)) DD G) {v1 : Int32} {D : Dt} (hf : f_Model_harm v1 D = some (rr, DD)) : G D 0 [(0, .ref (Γ.2.1 176)), (1, .int v1)] [] := by
  unfold f_Model_harm at hf
  refine r_aload_n (pc := 0) C 0 d_Model_harm_0 rfl rfl ?_
  refine r_iconst (pc := 1) C (v := 1) d_Model_harm_1 (by decide) ?_
  refine r_iload_n (pc := 2) C 1 d_Model_harm_2 rfl rfl ?_
  refine r_callVi (pc := 3) (As := [.int 1, .int v1]) (rest := []) C ok_Model_needTuesday Lm_Model_281 k_id176 (by decide) ⟨by decide, by decide⟩ rfl rfl (Nat.le_of_ble_eq_true rfl) d_Model_harm_3 hf (fun x D1 hc => c_Model_needTuesday Γ hc) (fun x1 D2 hf => ?_)
  refine r_istore_n (pc := 6) (lv' := [(2, .int x1), (0, .ref (Γ.2.1 176)), (1, .int v1)]) C d_Model_harm_6 rfl (Nat.le_of_ble_eq_true rfl) rfl ?_
  refine r_iload_n (pc := 7) C 0 d_Model_harm_7 rfl rfl ?_
  refine r_if_ge (pc := 8) C (tgt := 15) d_Model_harm_8 (by decide) hf (fun c8 hf => ?_) (fun c8 hf => ?_)
  · refine r_aload_n (pc := 15) C 1 d_Model_harm_15 rfl rfl ?_
    refine r_aload_n (pc := 16) C 1 d_Model_harm_16 rfl rfl ?_
    refine g_Model_groundOf (pc := 17) C k_id176 Lf_Model_262 d_Model_harm_17 ?_
    refine r_aload_n (pc := 20) C 1 d_Model_harm_20 rfl rfl ?_
    refine g_Model_harmOf (pc := 21) C k_id176 Lf_Model_242 d_Model_harm_21 ?_
    refine r_callVi (pc := 24) (As := [.int (D2 176 36), .int (D2 176 35)]) (rest := []) C ok_Model_tells Lm_Model_137 k_id176 (by decide) ⟨by decide, by decide⟩ rfl rfl (Nat.le_of_ble_eq_true rfl) d_Model_harm_24 hf (fun x D1 hc => c_Model_tells Γ hc) (fun x3 D4 hf => ?_)
    exact r_iret (pc := 27) C d_Model_harm_27 hf
  · refine r_iload_n (pc := 11) C 0 d_Model_harm_11 rfl rfl ?_
    refine r_goto (pc := 12) C (tgt := 27) d_Model_harm_12 (by decide) ?_
    exact r_iret (pc := 27) C d_Model_harm_27 hf
theorem c_Model_harm (Γ : GmT) {v1 : Int32} {D : Dt} {rr : Int32} {DD : Dt} (hf : f_Model_harm v1 D = some (rr, DD)) : Mt Γ y_Model_harm b_Model_harm 3 (some .int) 8 [.ref (Γ.2.1 176), .int v1] D (some (.int rr)) DD := Mt_of (by decide) (Nat.le_of_ble_eq_true rfl) (fun G C => te_Model_harm C hf)
def f_Model_wet (v1 : Int32) (D : Dt) : Option (Int32 × Dt) :=
  bnd (f_Model_needTuesday 1 v1 D) (fun x1 D2 => (if 0 ≤ x1 then bnd (f_Model_bits (D2 176 37) D2) (fun x3 D4 => bnd (f_Model_tells x3 (D4 176 37) D4) (fun x5 D6 => some (x5, D6))) else some (x1, D2)))
set_option maxHeartbeats 4000000 in
theorem te_Model_wet {Γ : GmT} {G : Dt → Nat → List (Nat × Value) → List Value → Prop} {rr : Int32} {DD : Dt} (C : Cx Γ "RiverTuesdaysModel" b_Model_wet 3 8 (some .int) (some (.int rr)) DD G) {v1 : Int32} {D : Dt} (hf : f_Model_wet v1 D = some (rr, DD)) : G D 0 [(0, .ref (Γ.2.1 176)), (1, .int v1)] [] := by
  unfold f_Model_wet at hf
  refine r_aload_n (pc := 0) C 0 d_Model_wet_0 rfl rfl ?_
  refine r_iconst (pc := 1) C (v := 1) d_Model_wet_1 (by decide) ?_
  refine r_iload_n (pc := 2) C 1 d_Model_wet_2 rfl rfl ?_
  refine r_callVi (pc := 3) (As := [.int 1, .int v1]) (rest := []) C ok_Model_needTuesday Lm_Model_281 k_id176 (by decide) ⟨by decide, by decide⟩ rfl rfl (Nat.le_of_ble_eq_true rfl) d_Model_wet_3 hf (fun x D1 hc => c_Model_needTuesday Γ hc) (fun x1 D2 hf => ?_)
  refine r_istore_n (pc := 6) (lv' := [(2, .int x1), (0, .ref (Γ.2.1 176)), (1, .int v1)]) C d_Model_wet_6 rfl (Nat.le_of_ble_eq_true rfl) rfl ?_
  refine r_iload_n (pc := 7) C 0 d_Model_wet_7 rfl rfl ?_
  refine r_if_ge (pc := 8) C (tgt := 15) d_Model_wet_8 (by decide) hf (fun c8 hf => ?_) (fun c8 hf => ?_)
  · refine r_aload_n (pc := 15) C 1 d_Model_wet_15 rfl rfl ?_
    refine r_aload_n (pc := 16) C 1 d_Model_wet_16 rfl rfl ?_
    refine g_Model_wetSet (pc := 17) C k_id176 Lf_Model_245 d_Model_wet_17 ?_
    refine r_callSi (pc := 20) (As := [.int (D2 176 37)]) (rest := [.ref (Γ.2.1 176)]) C ok_Model_bits Lm_Model_285 ⟨by decide, by decide⟩ rfl rfl (Nat.le_of_ble_eq_true rfl) d_Model_wet_20 hf (fun x D1 hc => c_Model_bits Γ hc) (fun x3 D4 hf => ?_)
    refine r_aload_n (pc := 23) C 1 d_Model_wet_23 rfl rfl ?_
    refine g_Model_wetSet (pc := 24) C k_id176 Lf_Model_245 d_Model_wet_24 ?_
    refine r_callVi (pc := 27) (As := [.int x3, .int (D4 176 37)]) (rest := []) C ok_Model_tells Lm_Model_137 k_id176 (by decide) ⟨by decide, by decide⟩ rfl rfl (Nat.le_of_ble_eq_true rfl) d_Model_wet_27 hf (fun x D1 hc => c_Model_tells Γ hc) (fun x5 D6 hf => ?_)
    exact r_iret (pc := 30) C d_Model_wet_30 hf
  · refine r_iload_n (pc := 11) C 0 d_Model_wet_11 rfl rfl ?_
    refine r_goto (pc := 12) C (tgt := 30) d_Model_wet_12 (by decide) ?_
    exact r_iret (pc := 30) C d_Model_wet_30 hf
theorem c_Model_wet (Γ : GmT) {v1 : Int32} {D : Dt} {rr : Int32} {DD : Dt} (hf : f_Model_wet v1 D = some (rr, DD)) : Mt Γ y_Model_wet b_Model_wet 3 (some .int) 8 [.ref (Γ.2.1 176), .int v1] D (some (.int rr)) DD := Mt_of (by decide) (Nat.le_of_ble_eq_true rfl) (fun G C => te_Model_wet C hf)
def f_Model_when (v1 : Int32) (v2 : Int32) (D : Dt) : Option (Int32 × Dt) :=
  bnd (f_Model_isHouse v2 D) (fun x1 D2 => bnd (f_Model_needTuesday x1 v1 D2) (fun x3 D4 => (if 0 ≤ x3 then (if inb v2 8 = true then some (D4 200 v2.toNatClampNeg, D4) else none) else some (x3, D4))))
set_option maxHeartbeats 4000000 in
theorem te_Model_when {Γ : GmT} {G : Dt → Nat → List (Nat × Value) → List Value → Prop} {rr : Int32} {DD : Dt} (C : Cx Γ "RiverTuesdaysModel" b_Model_when 4 8 (some .int) (some (.int rr)) DD G) {v1 : Int32} {v2 : Int32} {D : Dt} (hf : f_Model_when v1 v2 D = some (rr, DD)) : G D 0 [(0, .ref (Γ.2.1 176)), (1, .int v1), (2, .int v2)] [] := by
  unfold f_Model_when at hf
  refine r_aload_n (pc := 0) C 0 d_Model_when_0 rfl rfl ?_
  refine r_aload_n (pc := 1) C 0 d_Model_when_1 rfl rfl ?_
  refine r_iload_n (pc := 2) C 2 d_Model_when_2 rfl rfl ?_
  refine r_callVi (pc := 3) (As := [.int v2]) (rest := [.ref (Γ.2.1 176)]) C ok_Model_isHouse Lm_Model_216 k_id176 (by decide) ⟨by decide, by decide⟩ rfl rfl (Nat.le_of_ble_eq_true rfl) d_Model_when_3 hf (fun x D1 hc => c_Model_isHouse Γ hc) (fun x1 D2 hf => ?_)
  refine r_iload_n (pc := 6) C 1 d_Model_when_6 rfl rfl ?_
  refine r_callVi (pc := 7) (As := [.int x1, .int v1]) (rest := []) C ok_Model_needTuesday Lm_Model_281 k_id176 (by decide) ⟨by decide, by decide⟩ rfl rfl (Nat.le_of_ble_eq_true rfl) d_Model_when_7 hf (fun x D1 hc => c_Model_needTuesday Γ hc) (fun x3 D4 hf => ?_)
  refine r_istore_n (pc := 10) (lv' := [(3, .int x3), (0, .ref (Γ.2.1 176)), (1, .int v1), (2, .int v2)]) C d_Model_when_10 rfl (Nat.le_of_ble_eq_true rfl) rfl ?_
  refine r_iload_n (pc := 11) C 0 d_Model_when_11 rfl rfl ?_
  refine r_if_ge (pc := 12) C (tgt := 19) d_Model_when_12 (by decide) hf (fun c12 hf => ?_) (fun c12 hf => ?_)
  · refine r_aload_n (pc := 19) C 1 d_Model_when_19 rfl rfl ?_
    refine g_Model_wetHour (pc := 20) C k_id176 Lf_Model_81 d_Model_when_20 ?_
    refine r_iload_n (pc := 23) C 3 d_Model_when_23 rfl rfl ?_
    refine r_iald (pc := 24) C kq_Model_wetHour d_Model_when_24 hf (fun hf => ?_)
    exact r_iret (pc := 25) C d_Model_when_25 hf
  · refine r_iload_n (pc := 15) C 0 d_Model_when_15 rfl rfl ?_
    refine r_goto (pc := 16) C (tgt := 25) d_Model_when_16 (by decide) ?_
    exact r_iret (pc := 25) C d_Model_when_25 hf
theorem c_Model_when (Γ : GmT) {v1 : Int32} {v2 : Int32} {D : Dt} {rr : Int32} {DD : Dt} (hf : f_Model_when v1 v2 D = some (rr, DD)) : Mt Γ y_Model_when b_Model_when 4 (some .int) 8 [.ref (Γ.2.1 176), .int v1, .int v2] D (some (.int rr)) DD := Mt_of (by decide) (Nat.le_of_ble_eq_true rfl) (fun G C => te_Model_when C hf)
def f_Model_cut (v1 : Int32) (v2 : Int32) (D : Dt) : Option (Int32 × Dt) :=
  bnd (f_Model_in v2 0 7 D) (fun x1 D2 => bnd (f_Model_needTuesday x1 v1 D2) (fun x3 D4 => (if 0 ≤ x3 then (if inb v2 8 = true then bnd (f_Model_bits (D4 201 v2.toNatClampNeg) D4) (fun x5 D6 => (if inb v2 8 = true then bnd (f_Model_tells x5 (D6 201 v2.toNatClampNeg) D6) (fun x7 D8 => some (x7, D8)) else none)) else none) else some (x3, D4))))
set_option maxHeartbeats 4000000 in
theorem te_Model_cut {Γ : GmT} {G : Dt → Nat → List (Nat × Value) → List Value → Prop} {rr : Int32} {DD : Dt} (C : Cx Γ "RiverTuesdaysModel" b_Model_cut 4 8 (some .int) (some (.int rr)) DD G) {v1 : Int32} {v2 : Int32} {D : Dt} (hf : f_Model_cut v1 v2 D = some (rr, DD)) : G D 0 [(0, .ref (Γ.2.1 176)), (1, .int v1), (2, .int v2)] [] := by
  unfold f_Model_cut at hf
  refine r_aload_n (pc := 0) C 0 d_Model_cut_0 rfl rfl ?_
  refine r_iload_n (pc := 1) C 2 d_Model_cut_1 rfl rfl ?_
  refine r_iconst (pc := 2) C (v := 0) d_Model_cut_2 (by decide) ?_
  refine r_bipush (pc := 3) C (v := 7) d_Model_cut_3 (by decide) ?_
  refine r_callSi (pc := 5) (As := [.int v2, .int 0, .int 7]) (rest := [.ref (Γ.2.1 176)]) C ok_Model_in Lm_Model_118 ⟨by decide, by decide⟩ rfl rfl (Nat.le_of_ble_eq_true rfl) d_Model_cut_5 hf (fun x D1 hc => c_Model_in Γ hc) (fun x1 D2 hf => ?_)
  refine r_iload_n (pc := 8) C 1 d_Model_cut_8 rfl rfl ?_
  refine r_callVi (pc := 9) (As := [.int x1, .int v1]) (rest := []) C ok_Model_needTuesday Lm_Model_281 k_id176 (by decide) ⟨by decide, by decide⟩ rfl rfl (Nat.le_of_ble_eq_true rfl) d_Model_cut_9 hf (fun x D1 hc => c_Model_needTuesday Γ hc) (fun x3 D4 hf => ?_)
  refine r_istore_n (pc := 12) (lv' := [(3, .int x3), (0, .ref (Γ.2.1 176)), (1, .int v1), (2, .int v2)]) C d_Model_cut_12 rfl (Nat.le_of_ble_eq_true rfl) rfl ?_
  refine r_iload_n (pc := 13) C 0 d_Model_cut_13 rfl rfl ?_
  refine r_if_ge (pc := 14) C (tgt := 21) d_Model_cut_14 (by decide) hf (fun c14 hf => ?_) (fun c14 hf => ?_)
  · refine r_aload_n (pc := 21) C 1 d_Model_cut_21 rfl rfl ?_
    refine r_aload_n (pc := 22) C 1 d_Model_cut_22 rfl rfl ?_
    refine g_Model_cutSets (pc := 23) C k_id176 Lf_Model_84 d_Model_cut_23 ?_
    refine r_iload_n (pc := 26) C 3 d_Model_cut_26 rfl rfl ?_
    refine r_iald (pc := 27) C kq_Model_cutSets d_Model_cut_27 hf (fun hf => ?_)
    refine r_callSi (pc := 28) (As := [.int (D4 201 v2.toNatClampNeg)]) (rest := [.ref (Γ.2.1 176)]) C ok_Model_bits Lm_Model_285 ⟨by decide, by decide⟩ rfl rfl (Nat.le_of_ble_eq_true rfl) d_Model_cut_28 hf (fun x D1 hc => c_Model_bits Γ hc) (fun x5 D6 hf => ?_)
    refine r_aload_n (pc := 31) C 1 d_Model_cut_31 rfl rfl ?_
    refine g_Model_cutSets (pc := 32) C k_id176 Lf_Model_84 d_Model_cut_32 ?_
    refine r_iload_n (pc := 35) C 3 d_Model_cut_35 rfl rfl ?_
    refine r_iald (pc := 36) C kq_Model_cutSets d_Model_cut_36 hf (fun hf => ?_)
    refine r_callVi (pc := 37) (As := [.int x5, .int (D6 201 v2.toNatClampNeg)]) (rest := []) C ok_Model_tells Lm_Model_137 k_id176 (by decide) ⟨by decide, by decide⟩ rfl rfl (Nat.le_of_ble_eq_true rfl) d_Model_cut_37 hf (fun x D1 hc => c_Model_tells Γ hc) (fun x7 D8 hf => ?_)
    exact r_iret (pc := 40) C d_Model_cut_40 hf
  · refine r_iload_n (pc := 17) C 0 d_Model_cut_17 rfl rfl ?_
    refine r_goto (pc := 18) C (tgt := 40) d_Model_cut_18 (by decide) ?_
    exact r_iret (pc := 40) C d_Model_cut_40 hf
theorem c_Model_cut (Γ : GmT) {v1 : Int32} {v2 : Int32} {D : Dt} {rr : Int32} {DD : Dt} (hf : f_Model_cut v1 v2 D = some (rr, DD)) : Mt Γ y_Model_cut b_Model_cut 4 (some .int) 8 [.ref (Γ.2.1 176), .int v1, .int v2] D (some (.int rr)) DD := Mt_of (by decide) (Nat.le_of_ble_eq_true rfl) (fun G C => te_Model_cut C hf)
def b_Model_isWhole_37 (k9 : Int32 → Int32 → Int32 → Int32 → Int32 → Dt → Option (Int32 × Dt)) (v0 : Int32) (v1 : Int32) (v2 : Int32) (v4 : Int32) (s0 : Int32) (D : Dt) : Option (Int32 × Dt) :=
  k9 v0 v1 v2 s0 (v4 + 1) D
set_option maxHeartbeats 4000000 in
theorem tb_Model_isWhole_37 {Γ : GmT} {G : Dt → Nat → List (Nat × Value) → List Value → Prop} {rr : Int32} {DD : Dt} (C : Cx Γ "RiverTuesdaysModel" b_Model_isWhole 5 2 (some .boolean) (some (.int rr)) DD G) {k9 : Int32 → Int32 → Int32 → Int32 → Int32 → Dt → Option (Int32 × Dt)} (hk9 : ∀ (v0 : Int32) (v1 : Int32) (v2 : Int32) (v3 : Int32) (v4 : Int32) (D : Dt), k9 v0 v1 v2 v3 v4 D = some (rr, DD) → G D 9 [(0, .int v0), (1, .int v1), (2, .int v2), (3, .int v3), (4, .int v4)] []) {v0 : Int32} {v1 : Int32} {v2 : Int32} {v4 : Int32} {s0 : Int32} {D : Dt} (hf : b_Model_isWhole_37 k9 v0 v1 v2 v4 s0 D = some (rr, DD)) : G D 37 [(0, .int v0), (1, .int v1), (2, .int v2), (4, .int v4)] [.int s0] := by
  unfold b_Model_isWhole_37 at hf
  refine r_istore_n (pc := 37) (lv' := [(3, .int s0), (0, .int v0), (1, .int v1), (2, .int v2), (4, .int v4)]) C d_Model_isWhole_37 rfl (Nat.le_of_ble_eq_true rfl) rfl ?_
  refine r_iinc (pc := 38) C (v := v4 + 1) (lv' := [(4, .int (v4 + 1)), (3, .int s0), (0, .int v0), (1, .int v1), (2, .int v2)]) 4 d_Model_isWhole_38 rfl rfl (Nat.le_of_ble_eq_true rfl) rfl ?_
  refine r_goto (pc := 41) C (tgt := 9) d_Model_isWhole_41 (by decide) ?_
  exact r_lv (pc := 9) C [2, 3, 4, 1, 0] rfl (hk9 v0 v1 v2 s0 (v4 + 1) D hf)
def b_Model_isWhole_36 (k9 : Int32 → Int32 → Int32 → Int32 → Int32 → Dt → Option (Int32 × Dt)) (v0 : Int32) (v1 : Int32) (v2 : Int32) (v4 : Int32) (D : Dt) : Option (Int32 × Dt) :=
  b_Model_isWhole_37 k9 v0 v1 v2 v4 0 D
set_option maxHeartbeats 4000000 in
theorem tb_Model_isWhole_36 {Γ : GmT} {G : Dt → Nat → List (Nat × Value) → List Value → Prop} {rr : Int32} {DD : Dt} (C : Cx Γ "RiverTuesdaysModel" b_Model_isWhole 5 2 (some .boolean) (some (.int rr)) DD G) {k9 : Int32 → Int32 → Int32 → Int32 → Int32 → Dt → Option (Int32 × Dt)} (hk9 : ∀ (v0 : Int32) (v1 : Int32) (v2 : Int32) (v3 : Int32) (v4 : Int32) (D : Dt), k9 v0 v1 v2 v3 v4 D = some (rr, DD) → G D 9 [(0, .int v0), (1, .int v1), (2, .int v2), (3, .int v3), (4, .int v4)] []) {v0 : Int32} {v1 : Int32} {v2 : Int32} {v4 : Int32} {D : Dt} (hf : b_Model_isWhole_36 k9 v0 v1 v2 v4 D = some (rr, DD)) : G D 36 [(0, .int v0), (1, .int v1), (2, .int v2), (4, .int v4)] [] := by
  unfold b_Model_isWhole_36 at hf
  refine r_iconst (pc := 36) C (v := 0) d_Model_isWhole_36 (by decide) ?_
  exact r_lv (pc := 37) C [0, 1, 2, 3] rfl (tb_Model_isWhole_37 C hk9 hf)
def s_Model_isWhole_9 (k9 : Int32 → Int32 → Int32 → Int32 → Int32 → Dt → Option (Int32 × Dt)) (v0 : Int32) (v1 : Int32) (v2 : Int32) (v3 : Int32) (v4 : Int32) (D : Dt) : Option (Int32 × Dt) :=
  bnd (f_Model_greater v1 v2 D) (fun x3 D4 => (if x3 < v4 then (if v3 = 0 ∨ v3 = 1 then some (v3, D4) else none) else (if v3 = 0 then b_Model_isWhole_36 k9 v0 v1 v2 v4 D4 else bnd (f_Model_has v0 v4 D4) (fun x5 D6 => (if x5 = 0 then b_Model_isWhole_36 k9 v0 v1 v2 v4 D6 else b_Model_isWhole_37 k9 v0 v1 v2 v4 1 D6)))))
def lp_Model_isWhole_9 (n : Nat) : Int32 → Int32 → Int32 → Int32 → Int32 → Dt → Option (Int32 × Dt) := itr (fun _ _ _ _ _ _ => none) (s_Model_isWhole_9) n
set_option maxHeartbeats 4000000 in
theorem ts_Model_isWhole_9 {Γ : GmT} {G : Dt → Nat → List (Nat × Value) → List Value → Prop} {rr : Int32} {DD : Dt} (C : Cx Γ "RiverTuesdaysModel" b_Model_isWhole 5 2 (some .boolean) (some (.int rr)) DD G) {k9 : Int32 → Int32 → Int32 → Int32 → Int32 → Dt → Option (Int32 × Dt)} (hk9 : ∀ (v0 : Int32) (v1 : Int32) (v2 : Int32) (v3 : Int32) (v4 : Int32) (D : Dt), k9 v0 v1 v2 v3 v4 D = some (rr, DD) → G D 9 [(0, .int v0), (1, .int v1), (2, .int v2), (3, .int v3), (4, .int v4)] []) {v0 : Int32} {v1 : Int32} {v2 : Int32} {v3 : Int32} {v4 : Int32} {D : Dt} (hf : s_Model_isWhole_9 k9 v0 v1 v2 v3 v4 D = some (rr, DD)) : G D 9 [(0, .int v0), (1, .int v1), (2, .int v2), (3, .int v3), (4, .int v4)] [] := by
  unfold s_Model_isWhole_9 at hf
  refine r_iload (pc := 9) C 4 d_Model_isWhole_9 rfl ?_
  refine r_iload_n (pc := 11) C 1 d_Model_isWhole_11 rfl rfl ?_
  refine r_iload_n (pc := 12) C 2 d_Model_isWhole_12 rfl rfl ?_
  refine r_callSi (pc := 13) (As := [.int v1, .int v2]) (rest := [.int v4]) C ok_Model_greater Lm_Model_213 ⟨by decide, by decide⟩ rfl rfl (Nat.le_of_ble_eq_true rfl) d_Model_isWhole_13 hf (fun x D1 hc => c_Model_greater Γ hc) (fun x3 D4 hf => ?_)
  refine r_icmp_gt (pc := 16) C (tgt := 44) d_Model_isWhole_16 (by decide) hf (fun c16 hf => ?_) (fun c16 hf => ?_)
  · refine r_iload_n (pc := 44) C 3 d_Model_isWhole_44 rfl rfl ?_
    exact r_zretc (pc := 45) C d_Model_isWhole_45 hf
  · refine r_iload_n (pc := 19) C 3 d_Model_isWhole_19 rfl rfl ?_
    refine r_if_eq (pc := 20) C (tgt := 36) d_Model_isWhole_20 (by decide) hf (fun c20 hf => ?_) (fun c20 hf => ?_)
    · exact r_lv (pc := 36) C [0, 1, 2, 4] rfl (tb_Model_isWhole_36 C hk9 hf)
    · refine r_iload_n (pc := 23) C 0 d_Model_isWhole_23 rfl rfl ?_
      refine r_iload (pc := 24) C 4 d_Model_isWhole_24 rfl ?_
      refine r_callSi (pc := 26) (As := [.int v0, .int v4]) (rest := []) C ok_Model_has Lm_Model_248 ⟨by decide, by decide⟩ rfl rfl (Nat.le_of_ble_eq_true rfl) d_Model_isWhole_26 hf (fun x D1 hc => c_Model_has Γ hc) (fun x5 D6 hf => ?_)
      refine r_if_eq (pc := 29) C (tgt := 36) d_Model_isWhole_29 (by decide) hf (fun c29 hf => ?_) (fun c29 hf => ?_)
      · exact r_lv (pc := 36) C [0, 1, 2, 4] rfl (tb_Model_isWhole_36 C hk9 hf)
      · refine r_iconst (pc := 32) C (v := 1) d_Model_isWhole_32 (by decide) ?_
        refine r_goto (pc := 33) C (tgt := 37) d_Model_isWhole_33 (by decide) ?_
        exact r_lv (pc := 37) C [0, 1, 2, 4] rfl (tb_Model_isWhole_37 C hk9 hf)
theorem tl_Model_isWhole_9 {Γ : GmT} {G : Dt → Nat → List (Nat × Value) → List Value → Prop} {rr : Int32} {DD : Dt} (C : Cx Γ "RiverTuesdaysModel" b_Model_isWhole 5 2 (some .boolean) (some (.int rr)) DD G) : ∀ (n : Nat) (v0 : Int32) (v1 : Int32) (v2 : Int32) (v3 : Int32) (v4 : Int32) (D : Dt), lp_Model_isWhole_9 n v0 v1 v2 v3 v4 D = some (rr, DD) → G D 9 [(0, .int v0), (1, .int v1), (2, .int v2), (3, .int v3), (4, .int v4)] [] := by
  intro n
  induction n with
  | zero =>
    intro v0 v1 v2 v3 v4 D hf
    exact absurd (show (none : Option (Int32 × Dt)) = some (rr, DD) from hf) (by simp)
  | succ n ih =>
    intro v0 v1 v2 v3 v4 D hf
    exact ts_Model_isWhole_9 C (k9 := lp_Model_isWhole_9 n) ih hf
def f_Model_isWhole (v0 : Int32) (v1 : Int32) (v2 : Int32) (D : Dt) : Option (Int32 × Dt) :=
  bnd (f_Model_lesser v1 v2 D) (fun x1 D2 => lp_Model_isWhole_9 FU v0 v1 v2 1 x1 D2)
set_option maxHeartbeats 4000000 in
theorem te_Model_isWhole {Γ : GmT} {G : Dt → Nat → List (Nat × Value) → List Value → Prop} {rr : Int32} {DD : Dt} (C : Cx Γ "RiverTuesdaysModel" b_Model_isWhole 5 2 (some .boolean) (some (.int rr)) DD G) {v0 : Int32} {v1 : Int32} {v2 : Int32} {D : Dt} (hf : f_Model_isWhole v0 v1 v2 D = some (rr, DD)) : G D 0 [(0, .int v0), (1, .int v1), (2, .int v2)] [] := by
  unfold f_Model_isWhole at hf
  refine r_iconst (pc := 0) C (v := 1) d_Model_isWhole_0 (by decide) ?_
  refine r_istore_n (pc := 1) (lv' := [(3, .int 1), (0, .int v0), (1, .int v1), (2, .int v2)]) C d_Model_isWhole_1 rfl (Nat.le_of_ble_eq_true rfl) rfl ?_
  refine r_iload_n (pc := 2) C 2 d_Model_isWhole_2 rfl rfl ?_
  refine r_iload_n (pc := 3) C 3 d_Model_isWhole_3 rfl rfl ?_
  refine r_callSi (pc := 4) (As := [.int v1, .int v2]) (rest := []) C ok_Model_lesser Lm_Model_198 ⟨by decide, by decide⟩ rfl rfl (Nat.le_of_ble_eq_true rfl) d_Model_isWhole_4 hf (fun x D1 hc => c_Model_lesser Γ hc) (fun x1 D2 hf => ?_)
  refine r_istore (pc := 7) (lv' := [(4, .int x1), (3, .int 1), (0, .int v0), (1, .int v1), (2, .int v2)]) C d_Model_isWhole_7 (Nat.le_of_ble_eq_true rfl) rfl ?_
  exact r_lv (pc := 9) C [2, 3, 4, 1, 0] rfl (tl_Model_isWhole_9 C FU v0 v1 v2 1 x1 D2 hf)
theorem c_Model_isWhole (Γ : GmT) {v0 : Int32} {v1 : Int32} {v2 : Int32} {D : Dt} {rr : Int32} {DD : Dt} (hf : f_Model_isWhole v0 v1 v2 D = some (rr, DD)) : Mt Γ y_Model_isWhole b_Model_isWhole 5 (some .boolean) 2 [.int v0, .int v1, .int v2] D (some (.int rr)) DD := Mt_of (by decide) (Nat.le_of_ble_eq_true rfl) (fun G C => te_Model_isWhole C hf)
def b_Model_boat_33 (v1 : Int32) (v2 : Int32) (v3 : Int32) (v4 : Int32) (s0 : Int32) (D : Dt) : Option (Int32 × Dt) :=
  bnd (f_Model_needTuesday s0 v1 D) (fun x3 D4 => (if 0 ≤ x3 then (if inb v2 8 = true then bnd (f_Model_isWhole (D4 201 v2.toNatClampNeg) v3 v4 D4) (fun x5 D6 => (if x5 = 0 then some (0, D6) else some (1, D6))) else none) else some (x3, D4)))
set_option maxHeartbeats 4000000 in
theorem tb_Model_boat_33 {Γ : GmT} {G : Dt → Nat → List (Nat × Value) → List Value → Prop} {rr : Int32} {DD : Dt} (C : Cx Γ "RiverTuesdaysModel" b_Model_boat 6 8 (some .int) (some (.int rr)) DD G) {v1 : Int32} {v2 : Int32} {v3 : Int32} {v4 : Int32} {s0 : Int32} {D : Dt} (hf : b_Model_boat_33 v1 v2 v3 v4 s0 D = some (rr, DD)) : G D 33 [(0, .ref (Γ.2.1 176)), (1, .int v1), (2, .int v2), (3, .int v3), (4, .int v4)] [.int s0, .ref (Γ.2.1 176)] := by
  unfold b_Model_boat_33 at hf
  refine r_iload_n (pc := 33) C 1 d_Model_boat_33 rfl rfl ?_
  refine r_callVi (pc := 34) (As := [.int s0, .int v1]) (rest := []) C ok_Model_needTuesday Lm_Model_281 k_id176 (by decide) ⟨by decide, by decide⟩ rfl rfl (Nat.le_of_ble_eq_true rfl) d_Model_boat_34 hf (fun x D1 hc => c_Model_needTuesday Γ hc) (fun x3 D4 hf => ?_)
  refine r_istore (pc := 37) (lv' := [(5, .int x3), (0, .ref (Γ.2.1 176)), (1, .int v1), (2, .int v2), (3, .int v3), (4, .int v4)]) C d_Model_boat_37 (Nat.le_of_ble_eq_true rfl) rfl ?_
  refine r_iload (pc := 39) C 0 d_Model_boat_39 rfl ?_
  refine r_if_ge (pc := 41) C (tgt := 49) d_Model_boat_41 (by decide) hf (fun c41 hf => ?_) (fun c41 hf => ?_)
  · refine r_aload_n (pc := 49) C 1 d_Model_boat_49 rfl rfl ?_
    refine g_Model_cutSets (pc := 50) C k_id176 Lf_Model_84 d_Model_boat_50 ?_
    refine r_iload_n (pc := 53) C 3 d_Model_boat_53 rfl rfl ?_
    refine r_iald (pc := 54) C kq_Model_cutSets d_Model_boat_54 hf (fun hf => ?_)
    refine r_iload_n (pc := 55) C 4 d_Model_boat_55 rfl rfl ?_
    refine r_iload (pc := 56) C 5 d_Model_boat_56 rfl ?_
    refine r_callSi (pc := 58) (As := [.int (D4 201 v2.toNatClampNeg), .int v3, .int v4]) (rest := []) C ok_Model_isWhole Lm_Model_288 ⟨by decide, by decide⟩ rfl rfl (Nat.le_of_ble_eq_true rfl) d_Model_boat_58 hf (fun x D1 hc => c_Model_isWhole Γ hc) (fun x5 D6 hf => ?_)
    refine r_if_eq (pc := 61) C (tgt := 68) d_Model_boat_61 (by decide) hf (fun c61 hf => ?_) (fun c61 hf => ?_)
    · refine r_iconst (pc := 68) C (v := 0) d_Model_boat_68 (by decide) ?_
      exact r_iret (pc := 69) C d_Model_boat_69 hf
    · refine r_iconst (pc := 64) C (v := 1) d_Model_boat_64 (by decide) ?_
      refine r_goto (pc := 65) C (tgt := 69) d_Model_boat_65 (by decide) ?_
      exact r_iret (pc := 69) C d_Model_boat_69 hf
  · refine r_iload (pc := 44) C 0 d_Model_boat_44 rfl ?_
    refine r_goto (pc := 46) C (tgt := 69) d_Model_boat_46 (by decide) ?_
    exact r_iret (pc := 69) C d_Model_boat_69 hf
def b_Model_boat_32 (v1 : Int32) (v2 : Int32) (v3 : Int32) (v4 : Int32) (D : Dt) : Option (Int32 × Dt) :=
  b_Model_boat_33 v1 v2 v3 v4 0 D
set_option maxHeartbeats 4000000 in
theorem tb_Model_boat_32 {Γ : GmT} {G : Dt → Nat → List (Nat × Value) → List Value → Prop} {rr : Int32} {DD : Dt} (C : Cx Γ "RiverTuesdaysModel" b_Model_boat 6 8 (some .int) (some (.int rr)) DD G) {v1 : Int32} {v2 : Int32} {v3 : Int32} {v4 : Int32} {D : Dt} (hf : b_Model_boat_32 v1 v2 v3 v4 D = some (rr, DD)) : G D 32 [(0, .ref (Γ.2.1 176)), (1, .int v1), (2, .int v2), (3, .int v3), (4, .int v4)] [.ref (Γ.2.1 176)] := by
  unfold b_Model_boat_32 at hf
  refine r_iconst (pc := 32) C (v := 0) d_Model_boat_32 (by decide) ?_
  exact r_lv (pc := 33) C [0, 1, 2, 3, 4] rfl (tb_Model_boat_33 C hf)
def f_Model_boat (v1 : Int32) (v2 : Int32) (v3 : Int32) (v4 : Int32) (D : Dt) : Option (Int32 × Dt) :=
  bnd (f_Model_in v2 0 7 D) (fun x1 D2 => (if x1 = 0 then b_Model_boat_32 v1 v2 v3 v4 D2 else bnd (f_Model_isHouse v3 D2) (fun x7 D8 => (if x7 = 0 then b_Model_boat_32 v1 v2 v3 v4 D8 else bnd (f_Model_isHouse v4 D8) (fun x9 D10 => (if x9 = 0 then b_Model_boat_32 v1 v2 v3 v4 D10 else b_Model_boat_33 v1 v2 v3 v4 1 D10))))))
set_option maxHeartbeats 4000000 in
theorem te_Model_boat {Γ : GmT} {G : Dt → Nat → List (Nat × Value) → List Value → Prop} {rr : Int32} {DD : Dt} (C : Cx Γ "RiverTuesdaysModel" b_Model_boat 6 8 (some .int) (some (.int rr)) DD G) {v1 : Int32} {v2 : Int32} {v3 : Int32} {v4 : Int32} {D : Dt} (hf : f_Model_boat v1 v2 v3 v4 D = some (rr, DD)) : G D 0 [(0, .ref (Γ.2.1 176)), (1, .int v1), (2, .int v2), (3, .int v3), (4, .int v4)] [] := by
  unfold f_Model_boat at hf
  refine r_aload_n (pc := 0) C 0 d_Model_boat_0 rfl rfl ?_
  refine r_iload_n (pc := 1) C 2 d_Model_boat_1 rfl rfl ?_
  refine r_iconst (pc := 2) C (v := 0) d_Model_boat_2 (by decide) ?_
  refine r_bipush (pc := 3) C (v := 7) d_Model_boat_3 (by decide) ?_
  refine r_callSi (pc := 5) (As := [.int v2, .int 0, .int 7]) (rest := [.ref (Γ.2.1 176)]) C ok_Model_in Lm_Model_118 ⟨by decide, by decide⟩ rfl rfl (Nat.le_of_ble_eq_true rfl) d_Model_boat_5 hf (fun x D1 hc => c_Model_in Γ hc) (fun x1 D2 hf => ?_)
  refine r_if_eq (pc := 8) C (tgt := 32) d_Model_boat_8 (by decide) hf (fun c8 hf => ?_) (fun c8 hf => ?_)
  · exact r_lv (pc := 32) C [0, 1, 2, 3, 4] rfl (tb_Model_boat_32 C hf)
  · refine r_aload_n (pc := 11) C 0 d_Model_boat_11 rfl rfl ?_
    refine r_iload_n (pc := 12) C 3 d_Model_boat_12 rfl rfl ?_
    refine r_callVi (pc := 13) (As := [.int v3]) (rest := [.ref (Γ.2.1 176)]) C ok_Model_isHouse Lm_Model_216 k_id176 (by decide) ⟨by decide, by decide⟩ rfl rfl (Nat.le_of_ble_eq_true rfl) d_Model_boat_13 hf (fun x D1 hc => c_Model_isHouse Γ hc) (fun x7 D8 hf => ?_)
    refine r_if_eq (pc := 16) C (tgt := 32) d_Model_boat_16 (by decide) hf (fun c16 hf => ?_) (fun c16 hf => ?_)
    · exact r_lv (pc := 32) C [0, 1, 2, 3, 4] rfl (tb_Model_boat_32 C hf)
    · refine r_aload_n (pc := 19) C 0 d_Model_boat_19 rfl rfl ?_
      refine r_iload (pc := 20) C 4 d_Model_boat_20 rfl ?_
      refine r_callVi (pc := 22) (As := [.int v4]) (rest := [.ref (Γ.2.1 176)]) C ok_Model_isHouse Lm_Model_216 k_id176 (by decide) ⟨by decide, by decide⟩ rfl rfl (Nat.le_of_ble_eq_true rfl) d_Model_boat_22 hf (fun x D1 hc => c_Model_isHouse Γ hc) (fun x9 D10 hf => ?_)
      refine r_if_eq (pc := 25) C (tgt := 32) d_Model_boat_25 (by decide) hf (fun c25 hf => ?_) (fun c25 hf => ?_)
      · exact r_lv (pc := 32) C [0, 1, 2, 3, 4] rfl (tb_Model_boat_32 C hf)
      · refine r_iconst (pc := 28) C (v := 1) d_Model_boat_28 (by decide) ?_
        refine r_goto (pc := 29) C (tgt := 33) d_Model_boat_29 (by decide) ?_
        exact r_lv (pc := 33) C [0, 1, 2, 3, 4] rfl (tb_Model_boat_33 C hf)
theorem c_Model_boat (Γ : GmT) {v1 : Int32} {v2 : Int32} {v3 : Int32} {v4 : Int32} {D : Dt} {rr : Int32} {DD : Dt} (hf : f_Model_boat v1 v2 v3 v4 D = some (rr, DD)) : Mt Γ y_Model_boat b_Model_boat 6 (some .int) 8 [.ref (Γ.2.1 176), .int v1, .int v2, .int v3, .int v4] D (some (.int rr)) DD := Mt_of (by decide) (Nat.le_of_ble_eq_true rfl) (fun G C => te_Model_boat C hf)
def b_Model_trade_110 (k21 : Int32 → Int32 → Int32 → Dt → Option (Int32 × Dt)) (v4 : Int32) (v5 : Int32) (v6 : Int32) (s0 : Int32) (D : Dt) : Option (Int32 × Dt) :=
  bnd (f_Model_greater v4 v6 D) (fun x5 D6 => k21 s0 x5 (v5 + 1) D6)
set_option maxHeartbeats 4000000 in
theorem tb_Model_trade_110 {Γ : GmT} {G : Dt → Nat → List (Nat × Value) → List Value → Prop} {rr : Int32} {DD : Dt} (C : Cx Γ "RiverTuesdaysModel" b_Model_trade 9 8 (some .int) (some (.int rr)) DD G) {k21 : Int32 → Int32 → Int32 → Dt → Option (Int32 × Dt)} (hk21 : ∀ (v3 : Int32) (v4 : Int32) (v5 : Int32) (D : Dt), k21 v3 v4 v5 D = some (rr, DD) → G D 21 [(0, .ref (Γ.2.1 176)), (3, .int v3), (4, .int v4), (5, .int v5)] []) {v4 : Int32} {v5 : Int32} {v6 : Int32} {s0 : Int32} {D : Dt} (hf : b_Model_trade_110 k21 v4 v5 v6 s0 D = some (rr, DD)) : G D 110 [(0, .ref (Γ.2.1 176)), (4, .int v4), (5, .int v5), (6, .int v6)] [.int s0] := by
  unfold b_Model_trade_110 at hf
  refine r_istore_n (pc := 110) (lv' := [(3, .int s0), (0, .ref (Γ.2.1 176)), (4, .int v4), (5, .int v5), (6, .int v6)]) C d_Model_trade_110 rfl (Nat.le_of_ble_eq_true rfl) rfl ?_
  refine r_iload (pc := 111) C 2 d_Model_trade_111 rfl ?_
  refine r_iload (pc := 113) C 4 d_Model_trade_113 rfl ?_
  refine r_callSi (pc := 115) (As := [.int v4, .int v6]) (rest := []) C ok_Model_greater Lm_Model_213 ⟨by decide, by decide⟩ rfl rfl (Nat.le_of_ble_eq_true rfl) d_Model_trade_115 hf (fun x D1 hc => c_Model_greater Γ hc) (fun x5 D6 hf => ?_)
  refine r_istore (pc := 118) (lv' := [(4, .int x5), (3, .int s0), (0, .ref (Γ.2.1 176)), (5, .int v5), (6, .int v6)]) C d_Model_trade_118 (Nat.le_of_ble_eq_true rfl) rfl ?_
  refine r_iinc (pc := 120) C (v := v5 + 1) (lv' := [(5, .int (v5 + 1)), (4, .int x5), (3, .int s0), (0, .ref (Γ.2.1 176)), (6, .int v6)]) 3 d_Model_trade_120 rfl rfl (Nat.le_of_ble_eq_true rfl) rfl ?_
  refine r_goto (pc := 123) C (tgt := 21) d_Model_trade_123 (by decide) ?_
  exact r_lv (pc := 21) C [3, 2, 1, 0] rfl (hk21 s0 x5 (v5 + 1) D6 hf)
def b_Model_trade_82 (k21 : Int32 → Int32 → Int32 → Dt → Option (Int32 × Dt)) (k34 : Int32 → Int32 → Int32 → Int32 → Int32 → Dt → Option (Int32 × Dt)) (k49 : Int32 → Int32 → Int32 → Int32 → Int32 → Int32 → Dt → Option (Int32 × Dt)) (v3 : Int32) (v4 : Int32) (v5 : Int32) (v7 : Int32) (v8 : Int32) (s0 : Int32) (s1 : Int32) (D : Dt) : Option (Int32 × Dt) :=
  k49 v3 v4 v5 (s1 + s0) v7 (v8 + 1) D
set_option maxHeartbeats 4000000 in
theorem tb_Model_trade_82 {Γ : GmT} {G : Dt → Nat → List (Nat × Value) → List Value → Prop} {rr : Int32} {DD : Dt} (C : Cx Γ "RiverTuesdaysModel" b_Model_trade 9 8 (some .int) (some (.int rr)) DD G) {k21 : Int32 → Int32 → Int32 → Dt → Option (Int32 × Dt)} {k34 : Int32 → Int32 → Int32 → Int32 → Int32 → Dt → Option (Int32 × Dt)} {k49 : Int32 → Int32 → Int32 → Int32 → Int32 → Int32 → Dt → Option (Int32 × Dt)} (hk21 : ∀ (v3 : Int32) (v4 : Int32) (v5 : Int32) (D : Dt), k21 v3 v4 v5 D = some (rr, DD) → G D 21 [(0, .ref (Γ.2.1 176)), (3, .int v3), (4, .int v4), (5, .int v5)] []) (hk34 : ∀ (v3 : Int32) (v4 : Int32) (v5 : Int32) (v6 : Int32) (v7 : Int32) (D : Dt), k34 v3 v4 v5 v6 v7 D = some (rr, DD) → G D 34 [(0, .ref (Γ.2.1 176)), (3, .int v3), (4, .int v4), (5, .int v5), (6, .int v6), (7, .int v7)] []) (hk49 : ∀ (v3 : Int32) (v4 : Int32) (v5 : Int32) (v6 : Int32) (v7 : Int32) (v8 : Int32) (D : Dt), k49 v3 v4 v5 v6 v7 v8 D = some (rr, DD) → G D 49 [(0, .ref (Γ.2.1 176)), (3, .int v3), (4, .int v4), (5, .int v5), (6, .int v6), (7, .int v7), (8, .int v8)] []) {v3 : Int32} {v4 : Int32} {v5 : Int32} {v7 : Int32} {v8 : Int32} {s0 : Int32} {s1 : Int32} {D : Dt} (hf : b_Model_trade_82 k21 k34 k49 v3 v4 v5 v7 v8 s0 s1 D = some (rr, DD)) : G D 82 [(0, .ref (Γ.2.1 176)), (3, .int v3), (4, .int v4), (5, .int v5), (7, .int v7), (8, .int v8)] [.int s0, .int s1] := by
  unfold b_Model_trade_82 at hf
  refine r_iadd (pc := 82) C d_Model_trade_82 ?_
  refine r_istore (pc := 83) (lv' := [(6, .int (s1 + s0)), (0, .ref (Γ.2.1 176)), (3, .int v3), (4, .int v4), (5, .int v5), (7, .int v7), (8, .int v8)]) C d_Model_trade_83 (Nat.le_of_ble_eq_true rfl) rfl ?_
  refine r_iinc (pc := 85) C (v := v8 + 1) (lv' := [(8, .int (v8 + 1)), (6, .int (s1 + s0)), (0, .ref (Γ.2.1 176)), (3, .int v3), (4, .int v4), (5, .int v5), (7, .int v7)]) 6 d_Model_trade_85 rfl rfl (Nat.le_of_ble_eq_true rfl) rfl ?_
  refine r_goto (pc := 88) C (tgt := 49) d_Model_trade_88 (by decide) ?_
  exact r_lv (pc := 49) C [2, 3, 4, 5, 1, 6, 0] rfl (hk49 v3 v4 v5 (s1 + s0) v7 (v8 + 1) D hf)
def s_Model_trade_49 (k21 : Int32 → Int32 → Int32 → Dt → Option (Int32 × Dt)) (k34 : Int32 → Int32 → Int32 → Int32 → Int32 → Dt → Option (Int32 × Dt)) (k49 : Int32 → Int32 → Int32 → Int32 → Int32 → Int32 → Dt → Option (Int32 × Dt)) (v3 : Int32) (v4 : Int32) (v5 : Int32) (v6 : Int32) (v7 : Int32) (v8 : Int32) (D : Dt) : Option (Int32 × Dt) :=
  (if (D 176 10) ≤ v8 then k34 v3 v4 v5 v6 (v7 + 1) D else (if inb v5 8 = true then bnd (f_Model_isWhole (D 201 v5.toNatClampNeg) v7 v8 D) (fun x7 D8 => (if x7 = 0 then b_Model_trade_82 k21 k34 k49 v3 v4 v5 v7 v8 0 v6 D8 else b_Model_trade_82 k21 k34 k49 v3 v4 v5 v7 v8 1 v6 D8)) else none))
def lp_Model_trade_49 (k21 : Int32 → Int32 → Int32 → Dt → Option (Int32 × Dt)) (k34 : Int32 → Int32 → Int32 → Int32 → Int32 → Dt → Option (Int32 × Dt)) (n : Nat) : Int32 → Int32 → Int32 → Int32 → Int32 → Int32 → Dt → Option (Int32 × Dt) := itr (fun _ _ _ _ _ _ _ => none) (s_Model_trade_49 k21 k34) n
set_option maxHeartbeats 4000000 in
theorem ts_Model_trade_49 {Γ : GmT} {G : Dt → Nat → List (Nat × Value) → List Value → Prop} {rr : Int32} {DD : Dt} (C : Cx Γ "RiverTuesdaysModel" b_Model_trade 9 8 (some .int) (some (.int rr)) DD G) {k21 : Int32 → Int32 → Int32 → Dt → Option (Int32 × Dt)} {k34 : Int32 → Int32 → Int32 → Int32 → Int32 → Dt → Option (Int32 × Dt)} (hk21 : ∀ (v3 : Int32) (v4 : Int32) (v5 : Int32) (D : Dt), k21 v3 v4 v5 D = some (rr, DD) → G D 21 [(0, .ref (Γ.2.1 176)), (3, .int v3), (4, .int v4), (5, .int v5)] []) (hk34 : ∀ (v3 : Int32) (v4 : Int32) (v5 : Int32) (v6 : Int32) (v7 : Int32) (D : Dt), k34 v3 v4 v5 v6 v7 D = some (rr, DD) → G D 34 [(0, .ref (Γ.2.1 176)), (3, .int v3), (4, .int v4), (5, .int v5), (6, .int v6), (7, .int v7)] []) {k49 : Int32 → Int32 → Int32 → Int32 → Int32 → Int32 → Dt → Option (Int32 × Dt)} (hk49 : ∀ (v3 : Int32) (v4 : Int32) (v5 : Int32) (v6 : Int32) (v7 : Int32) (v8 : Int32) (D : Dt), k49 v3 v4 v5 v6 v7 v8 D = some (rr, DD) → G D 49 [(0, .ref (Γ.2.1 176)), (3, .int v3), (4, .int v4), (5, .int v5), (6, .int v6), (7, .int v7), (8, .int v8)] []) {v3 : Int32} {v4 : Int32} {v5 : Int32} {v6 : Int32} {v7 : Int32} {v8 : Int32} {D : Dt} (hf : s_Model_trade_49 k21 k34 k49 v3 v4 v5 v6 v7 v8 D = some (rr, DD)) : G D 49 [(0, .ref (Γ.2.1 176)), (3, .int v3), (4, .int v4), (5, .int v5), (6, .int v6), (7, .int v7), (8, .int v8)] [] := by
  unfold s_Model_trade_49 at hf
  refine r_iload (pc := 49) C 6 d_Model_trade_49 rfl ?_
  refine r_aload_n (pc := 51) C 0 d_Model_trade_51 rfl rfl ?_
  refine g_Model_n (pc := 52) C k_id176 Lf_Model_176 d_Model_trade_52 ?_
  refine r_icmp_ge (pc := 55) C (tgt := 91) d_Model_trade_55 (by decide) hf (fun c55 hf => ?_) (fun c55 hf => ?_)
  · refine r_iinc (pc := 91) C (v := v7 + 1) (lv' := [(7, .int (v7 + 1)), (0, .ref (Γ.2.1 176)), (3, .int v3), (4, .int v4), (5, .int v5), (6, .int v6), (8, .int v8)]) 5 d_Model_trade_91 rfl rfl (Nat.le_of_ble_eq_true rfl) rfl ?_
    refine r_goto (pc := 94) C (tgt := 34) d_Model_trade_94 (by decide) ?_
    exact r_lv (pc := 34) C [1, 2, 3, 4, 5, 0] rfl (hk34 v3 v4 v5 v6 (v7 + 1) D hf)
  · refine r_iload (pc := 58) C 4 d_Model_trade_58 rfl ?_
    refine r_aload_n (pc := 60) C 0 d_Model_trade_60 rfl rfl ?_
    refine g_Model_cutSets (pc := 61) C k_id176 Lf_Model_84 d_Model_trade_61 ?_
    refine r_iload (pc := 64) C 3 d_Model_trade_64 rfl ?_
    refine r_iald (pc := 66) C kq_Model_cutSets d_Model_trade_66 hf (fun hf => ?_)
    refine r_iload (pc := 67) C 5 d_Model_trade_67 rfl ?_
    refine r_iload (pc := 69) C 6 d_Model_trade_69 rfl ?_
    refine r_callSi (pc := 71) (As := [.int (D 201 v5.toNatClampNeg), .int v7, .int v8]) (rest := [.int v6]) C ok_Model_isWhole Lm_Model_288 ⟨by decide, by decide⟩ rfl rfl (Nat.le_of_ble_eq_true rfl) d_Model_trade_71 hf (fun x D1 hc => c_Model_isWhole Γ hc) (fun x7 D8 hf => ?_)
    refine r_if_eq (pc := 74) C (tgt := 81) d_Model_trade_74 (by decide) hf (fun c74 hf => ?_) (fun c74 hf => ?_)
    · refine r_iconst (pc := 81) C (v := 0) d_Model_trade_81 (by decide) ?_
      exact r_lv (pc := 82) C [0, 1, 2, 3, 5, 6] rfl (tb_Model_trade_82 C hk21 hk34 hk49 hf)
    · refine r_iconst (pc := 77) C (v := 1) d_Model_trade_77 (by decide) ?_
      refine r_goto (pc := 78) C (tgt := 82) d_Model_trade_78 (by decide) ?_
      exact r_lv (pc := 82) C [0, 1, 2, 3, 5, 6] rfl (tb_Model_trade_82 C hk21 hk34 hk49 hf)
theorem tl_Model_trade_49 {Γ : GmT} {G : Dt → Nat → List (Nat × Value) → List Value → Prop} {rr : Int32} {DD : Dt} (C : Cx Γ "RiverTuesdaysModel" b_Model_trade 9 8 (some .int) (some (.int rr)) DD G) {k21 : Int32 → Int32 → Int32 → Dt → Option (Int32 × Dt)} {k34 : Int32 → Int32 → Int32 → Int32 → Int32 → Dt → Option (Int32 × Dt)} (hk21 : ∀ (v3 : Int32) (v4 : Int32) (v5 : Int32) (D : Dt), k21 v3 v4 v5 D = some (rr, DD) → G D 21 [(0, .ref (Γ.2.1 176)), (3, .int v3), (4, .int v4), (5, .int v5)] []) (hk34 : ∀ (v3 : Int32) (v4 : Int32) (v5 : Int32) (v6 : Int32) (v7 : Int32) (D : Dt), k34 v3 v4 v5 v6 v7 D = some (rr, DD) → G D 34 [(0, .ref (Γ.2.1 176)), (3, .int v3), (4, .int v4), (5, .int v5), (6, .int v6), (7, .int v7)] []) : ∀ (n : Nat) (v3 : Int32) (v4 : Int32) (v5 : Int32) (v6 : Int32) (v7 : Int32) (v8 : Int32) (D : Dt), lp_Model_trade_49 k21 k34 n v3 v4 v5 v6 v7 v8 D = some (rr, DD) → G D 49 [(0, .ref (Γ.2.1 176)), (3, .int v3), (4, .int v4), (5, .int v5), (6, .int v6), (7, .int v7), (8, .int v8)] [] := by
  intro n
  induction n with
  | zero =>
    intro v3 v4 v5 v6 v7 v8 D hf
    exact absurd (show (none : Option (Int32 × Dt)) = some (rr, DD) from hf) (by simp)
  | succ n ih =>
    intro v3 v4 v5 v6 v7 v8 D hf
    exact ts_Model_trade_49 C hk21 hk34 (k49 := lp_Model_trade_49 k21 k34 n) ih hf
def s_Model_trade_34 (k21 : Int32 → Int32 → Int32 → Dt → Option (Int32 × Dt)) (k34 : Int32 → Int32 → Int32 → Int32 → Int32 → Dt → Option (Int32 × Dt)) (v3 : Int32) (v4 : Int32) (v5 : Int32) (v6 : Int32) (v7 : Int32) (D : Dt) : Option (Int32 × Dt) :=
  (if (D 176 10) ≤ v7 then (if v6 ≤ v4 then b_Model_trade_110 k21 v4 v5 v6 v3 D else b_Model_trade_110 k21 v4 v5 v6 v5 D) else lp_Model_trade_49 k21 k34 FU v3 v4 v5 v6 v7 (v7 + 1) D)
def lp_Model_trade_34 (k21 : Int32 → Int32 → Int32 → Dt → Option (Int32 × Dt)) (n : Nat) : Int32 → Int32 → Int32 → Int32 → Int32 → Dt → Option (Int32 × Dt) := itr (fun _ _ _ _ _ _ => none) (s_Model_trade_34 k21) n
set_option maxHeartbeats 4000000 in
theorem ts_Model_trade_34 {Γ : GmT} {G : Dt → Nat → List (Nat × Value) → List Value → Prop} {rr : Int32} {DD : Dt} (C : Cx Γ "RiverTuesdaysModel" b_Model_trade 9 8 (some .int) (some (.int rr)) DD G) {k21 : Int32 → Int32 → Int32 → Dt → Option (Int32 × Dt)} (hk21 : ∀ (v3 : Int32) (v4 : Int32) (v5 : Int32) (D : Dt), k21 v3 v4 v5 D = some (rr, DD) → G D 21 [(0, .ref (Γ.2.1 176)), (3, .int v3), (4, .int v4), (5, .int v5)] []) {k34 : Int32 → Int32 → Int32 → Int32 → Int32 → Dt → Option (Int32 × Dt)} (hk34 : ∀ (v3 : Int32) (v4 : Int32) (v5 : Int32) (v6 : Int32) (v7 : Int32) (D : Dt), k34 v3 v4 v5 v6 v7 D = some (rr, DD) → G D 34 [(0, .ref (Γ.2.1 176)), (3, .int v3), (4, .int v4), (5, .int v5), (6, .int v6), (7, .int v7)] []) {v3 : Int32} {v4 : Int32} {v5 : Int32} {v6 : Int32} {v7 : Int32} {D : Dt} (hf : s_Model_trade_34 k21 k34 v3 v4 v5 v6 v7 D = some (rr, DD)) : G D 34 [(0, .ref (Γ.2.1 176)), (3, .int v3), (4, .int v4), (5, .int v5), (6, .int v6), (7, .int v7)] [] := by
  unfold s_Model_trade_34 at hf
  refine r_iload (pc := 34) C 5 d_Model_trade_34 rfl ?_
  refine r_aload_n (pc := 36) C 0 d_Model_trade_36 rfl rfl ?_
  refine g_Model_n (pc := 37) C k_id176 Lf_Model_176 d_Model_trade_37 ?_
  refine r_icmp_ge (pc := 40) C (tgt := 97) d_Model_trade_40 (by decide) hf (fun c40 hf => ?_) (fun c40 hf => ?_)
  · refine r_iload (pc := 97) C 4 d_Model_trade_97 rfl ?_
    refine r_iload (pc := 99) C 2 d_Model_trade_99 rfl ?_
    refine r_icmp_le (pc := 101) C (tgt := 109) d_Model_trade_101 (by decide) hf (fun c101 hf => ?_) (fun c101 hf => ?_)
    · refine r_iload_n (pc := 109) C 1 d_Model_trade_109 rfl rfl ?_
      exact r_lv (pc := 110) C [0, 2, 3, 4] rfl (tb_Model_trade_110 C hk21 hf)
    · refine r_iload (pc := 104) C 3 d_Model_trade_104 rfl ?_
      refine r_goto (pc := 106) C (tgt := 110) d_Model_trade_106 (by decide) ?_
      exact r_lv (pc := 110) C [0, 2, 3, 4] rfl (tb_Model_trade_110 C hk21 hf)
  · refine r_iload (pc := 43) C 5 d_Model_trade_43 rfl ?_
    refine r_iconst (pc := 45) C (v := 1) d_Model_trade_45 (by decide) ?_
    refine r_iadd (pc := 46) C d_Model_trade_46 ?_
    refine r_istore (pc := 47) (lv' := [(8, .int (v7 + 1)), (0, .ref (Γ.2.1 176)), (3, .int v3), (4, .int v4), (5, .int v5), (6, .int v6), (7, .int v7)]) C d_Model_trade_47 (Nat.le_of_ble_eq_true rfl) rfl ?_
    exact r_lv (pc := 49) C [1, 2, 3, 4, 5, 6, 0] rfl (tl_Model_trade_49 C hk21 hk34 FU v3 v4 v5 v6 v7 (v7 + 1) D hf)
theorem tl_Model_trade_34 {Γ : GmT} {G : Dt → Nat → List (Nat × Value) → List Value → Prop} {rr : Int32} {DD : Dt} (C : Cx Γ "RiverTuesdaysModel" b_Model_trade 9 8 (some .int) (some (.int rr)) DD G) {k21 : Int32 → Int32 → Int32 → Dt → Option (Int32 × Dt)} (hk21 : ∀ (v3 : Int32) (v4 : Int32) (v5 : Int32) (D : Dt), k21 v3 v4 v5 D = some (rr, DD) → G D 21 [(0, .ref (Γ.2.1 176)), (3, .int v3), (4, .int v4), (5, .int v5)] []) : ∀ (n : Nat) (v3 : Int32) (v4 : Int32) (v5 : Int32) (v6 : Int32) (v7 : Int32) (D : Dt), lp_Model_trade_34 k21 n v3 v4 v5 v6 v7 D = some (rr, DD) → G D 34 [(0, .ref (Γ.2.1 176)), (3, .int v3), (4, .int v4), (5, .int v5), (6, .int v6), (7, .int v7)] [] := by
  intro n
  induction n with
  | zero =>
    intro v3 v4 v5 v6 v7 D hf
    exact absurd (show (none : Option (Int32 × Dt)) = some (rr, DD) from hf) (by simp)
  | succ n ih =>
    intro v3 v4 v5 v6 v7 D hf
    exact ts_Model_trade_34 C hk21 (k34 := lp_Model_trade_34 k21 n) ih hf
def s_Model_trade_21 (k21 : Int32 → Int32 → Int32 → Dt → Option (Int32 × Dt)) (v3 : Int32) (v4 : Int32) (v5 : Int32) (D : Dt) : Option (Int32 × Dt) :=
  (if 8 ≤ v5 then bnd (f_Model_tells v4 v3 D) (fun x3 D4 => some (x3, D4)) else lp_Model_trade_34 k21 FU v3 v4 v5 0 0 D)
def lp_Model_trade_21 (n : Nat) : Int32 → Int32 → Int32 → Dt → Option (Int32 × Dt) := itr (fun _ _ _ _ => none) (s_Model_trade_21) n
set_option maxHeartbeats 4000000 in
theorem ts_Model_trade_21 {Γ : GmT} {G : Dt → Nat → List (Nat × Value) → List Value → Prop} {rr : Int32} {DD : Dt} (C : Cx Γ "RiverTuesdaysModel" b_Model_trade 9 8 (some .int) (some (.int rr)) DD G) {k21 : Int32 → Int32 → Int32 → Dt → Option (Int32 × Dt)} (hk21 : ∀ (v3 : Int32) (v4 : Int32) (v5 : Int32) (D : Dt), k21 v3 v4 v5 D = some (rr, DD) → G D 21 [(0, .ref (Γ.2.1 176)), (3, .int v3), (4, .int v4), (5, .int v5)] []) {v3 : Int32} {v4 : Int32} {v5 : Int32} {D : Dt} (hf : s_Model_trade_21 k21 v3 v4 v5 D = some (rr, DD)) : G D 21 [(0, .ref (Γ.2.1 176)), (3, .int v3), (4, .int v4), (5, .int v5)] [] := by
  unfold s_Model_trade_21 at hf
  refine r_iload (pc := 21) C 3 d_Model_trade_21 rfl ?_
  refine r_bipush (pc := 23) C (v := 8) d_Model_trade_23 (by decide) ?_
  refine r_icmp_ge (pc := 25) C (tgt := 126) d_Model_trade_25 (by decide) hf (fun c25 hf => ?_) (fun c25 hf => ?_)
  · refine r_aload_n (pc := 126) C 0 d_Model_trade_126 rfl rfl ?_
    refine r_iload (pc := 127) C 2 d_Model_trade_127 rfl ?_
    refine r_iload_n (pc := 129) C 1 d_Model_trade_129 rfl rfl ?_
    refine r_callVi (pc := 130) (As := [.int v4, .int v3]) (rest := []) C ok_Model_tells Lm_Model_137 k_id176 (by decide) ⟨by decide, by decide⟩ rfl rfl (Nat.le_of_ble_eq_true rfl) d_Model_trade_130 hf (fun x D1 hc => c_Model_tells Γ hc) (fun x3 D4 hf => ?_)
    exact r_iret (pc := 133) C d_Model_trade_133 hf
  · refine r_iconst (pc := 28) C (v := 0) d_Model_trade_28 (by decide) ?_
    refine r_istore (pc := 29) (lv' := [(6, .int 0), (0, .ref (Γ.2.1 176)), (3, .int v3), (4, .int v4), (5, .int v5)]) C d_Model_trade_29 (Nat.le_of_ble_eq_true rfl) rfl ?_
    refine r_iconst (pc := 31) C (v := 0) d_Model_trade_31 (by decide) ?_
    refine r_istore (pc := 32) (lv' := [(7, .int 0), (6, .int 0), (0, .ref (Γ.2.1 176)), (3, .int v3), (4, .int v4), (5, .int v5)]) C d_Model_trade_32 (Nat.le_of_ble_eq_true rfl) rfl ?_
    exact r_lv (pc := 34) C [2, 3, 4, 5, 1, 0] rfl (tl_Model_trade_34 C hk21 FU v3 v4 v5 0 0 D hf)
theorem tl_Model_trade_21 {Γ : GmT} {G : Dt → Nat → List (Nat × Value) → List Value → Prop} {rr : Int32} {DD : Dt} (C : Cx Γ "RiverTuesdaysModel" b_Model_trade 9 8 (some .int) (some (.int rr)) DD G) : ∀ (n : Nat) (v3 : Int32) (v4 : Int32) (v5 : Int32) (D : Dt), lp_Model_trade_21 n v3 v4 v5 D = some (rr, DD) → G D 21 [(0, .ref (Γ.2.1 176)), (3, .int v3), (4, .int v4), (5, .int v5)] [] := by
  intro n
  induction n with
  | zero =>
    intro v3 v4 v5 D hf
    exact absurd (show (none : Option (Int32 × Dt)) = some (rr, DD) from hf) (by simp)
  | succ n ih =>
    intro v3 v4 v5 D hf
    exact ts_Model_trade_21 C (k21 := lp_Model_trade_21 n) ih hf
def f_Model_trade (v1 : Int32) (D : Dt) : Option (Int32 × Dt) :=
  bnd (f_Model_needTuesday 1 v1 D) (fun x1 D2 => (if 0 ≤ x1 then lp_Model_trade_21 FU 0 (-1) 0 D2 else some (x1, D2)))
set_option maxHeartbeats 4000000 in
theorem te_Model_trade {Γ : GmT} {G : Dt → Nat → List (Nat × Value) → List Value → Prop} {rr : Int32} {DD : Dt} (C : Cx Γ "RiverTuesdaysModel" b_Model_trade 9 8 (some .int) (some (.int rr)) DD G) {v1 : Int32} {D : Dt} (hf : f_Model_trade v1 D = some (rr, DD)) : G D 0 [(0, .ref (Γ.2.1 176)), (1, .int v1)] [] := by
  unfold f_Model_trade at hf
  refine r_aload_n (pc := 0) C 0 d_Model_trade_0 rfl rfl ?_
  refine r_iconst (pc := 1) C (v := 1) d_Model_trade_1 (by decide) ?_
  refine r_iload_n (pc := 2) C 1 d_Model_trade_2 rfl rfl ?_
  refine r_callVi (pc := 3) (As := [.int 1, .int v1]) (rest := []) C ok_Model_needTuesday Lm_Model_281 k_id176 (by decide) ⟨by decide, by decide⟩ rfl rfl (Nat.le_of_ble_eq_true rfl) d_Model_trade_3 hf (fun x D1 hc => c_Model_needTuesday Γ hc) (fun x1 D2 hf => ?_)
  refine r_istore_n (pc := 6) (lv' := [(2, .int x1), (0, .ref (Γ.2.1 176)), (1, .int v1)]) C d_Model_trade_6 rfl (Nat.le_of_ble_eq_true rfl) rfl ?_
  refine r_iload_n (pc := 7) C 0 d_Model_trade_7 rfl rfl ?_
  refine r_if_ge (pc := 8) C (tgt := 13) d_Model_trade_8 (by decide) hf (fun c8 hf => ?_) (fun c8 hf => ?_)
  · refine r_iconst (pc := 13) C (v := 0) d_Model_trade_13 (by decide) ?_
    refine r_istore_n (pc := 14) (lv' := [(3, .int 0), (2, .int x1), (0, .ref (Γ.2.1 176)), (1, .int v1)]) C d_Model_trade_14 rfl (Nat.le_of_ble_eq_true rfl) rfl ?_
    refine r_iconst (pc := 15) C (v := (-1)) d_Model_trade_15 (by decide) ?_
    refine r_istore (pc := 16) (lv' := [(4, .int ((-1))), (3, .int 0), (2, .int x1), (0, .ref (Γ.2.1 176)), (1, .int v1)]) C d_Model_trade_16 (Nat.le_of_ble_eq_true rfl) rfl ?_
    refine r_iconst (pc := 18) C (v := 0) d_Model_trade_18 (by decide) ?_
    refine r_istore (pc := 19) (lv' := [(5, .int 0), (4, .int ((-1))), (3, .int 0), (2, .int x1), (0, .ref (Γ.2.1 176)), (1, .int v1)]) C d_Model_trade_19 (Nat.le_of_ble_eq_true rfl) rfl ?_
    exact r_lv (pc := 21) C [4, 2, 1, 0] rfl (tl_Model_trade_21 C FU 0 (-1) 0 D2 hf)
  · refine r_iload_n (pc := 11) C 0 d_Model_trade_11 rfl rfl ?_
    exact r_iret (pc := 12) C d_Model_trade_12 hf
theorem c_Model_trade (Γ : GmT) {v1 : Int32} {D : Dt} {rr : Int32} {DD : Dt} (hf : f_Model_trade v1 D = some (rr, DD)) : Mt Γ y_Model_trade b_Model_trade 9 (some .int) 8 [.ref (Γ.2.1 176), .int v1] D (some (.int rr)) DD := Mt_of (by decide) (Nat.le_of_ble_eq_true rfl) (fun G C => te_Model_trade C hf)
def b_Model_marks_97 (k32 : Int32 → Int32 → Int32 → Dt → Option (Int32 × Dt)) (v2 : Int32) (v5 : Int32) (s0 : Int32) (D : Dt) : Option (Int32 × Dt) :=
  k32 v2 s0 (v5 + 1) D
set_option maxHeartbeats 4000000 in
theorem tb_Model_marks_97 {Γ : GmT} {G : Dt → Nat → List (Nat × Value) → List Value → Prop} {rr : Int32} {DD : Dt} (C : Cx Γ "RiverTuesdaysModel" b_Model_marks 6 8 (some .int) (some (.int rr)) DD G) {k32 : Int32 → Int32 → Int32 → Dt → Option (Int32 × Dt)} (hk32 : ∀ (v2 : Int32) (v4 : Int32) (v5 : Int32) (D : Dt), k32 v2 v4 v5 D = some (rr, DD) → G D 32 [(0, .ref (Γ.2.1 176)), (2, .int v2), (4, .int v4), (5, .int v5)] []) {v2 : Int32} {v5 : Int32} {s0 : Int32} {D : Dt} (hf : b_Model_marks_97 k32 v2 v5 s0 D = some (rr, DD)) : G D 97 [(0, .ref (Γ.2.1 176)), (2, .int v2), (5, .int v5)] [.int s0] := by
  unfold b_Model_marks_97 at hf
  refine r_istore (pc := 97) (lv' := [(4, .int s0), (0, .ref (Γ.2.1 176)), (2, .int v2), (5, .int v5)]) C d_Model_marks_97 (Nat.le_of_ble_eq_true rfl) rfl ?_
  refine r_iinc (pc := 99) C (v := v5 + 1) (lv' := [(5, .int (v5 + 1)), (4, .int s0), (0, .ref (Γ.2.1 176)), (2, .int v2)]) 3 d_Model_marks_99 rfl rfl (Nat.le_of_ble_eq_true rfl) rfl ?_
  refine r_goto (pc := 102) C (tgt := 32) d_Model_marks_102 (by decide) ?_
  exact r_lv (pc := 32) C [2, 3, 1, 0] rfl (hk32 v2 s0 (v5 + 1) D hf)
def b_Model_marks_70 (k32 : Int32 → Int32 → Int32 → Dt → Option (Int32 × Dt)) (v2 : Int32) (v4 : Int32) (v5 : Int32) (s0 : Int32) (s1 : Int32) (rs2 : Nat) (D : Dt) : Option (Int32 × Dt) :=
  (if inb s1 360 = true then nm (wr D rs2 s1.toNatClampNeg s0) (fun D6 => (if (D6 176 10) ≤ v5 then b_Model_marks_97 k32 v2 v5 v4 D6 else (if inb v5 8 = true then bnd (f_Model_greater v4 (D6 202 v5.toNatClampNeg) D6) (fun x7 D8 => b_Model_marks_97 k32 v2 v5 x7 D8) else none))) else none)
set_option maxHeartbeats 4000000 in
theorem tb_Model_marks_70 {Γ : GmT} {G : Dt → Nat → List (Nat × Value) → List Value → Prop} {rr : Int32} {DD : Dt} (C : Cx Γ "RiverTuesdaysModel" b_Model_marks 6 8 (some .int) (some (.int rr)) DD G) {k32 : Int32 → Int32 → Int32 → Dt → Option (Int32 × Dt)} (hk32 : ∀ (v2 : Int32) (v4 : Int32) (v5 : Int32) (D : Dt), k32 v2 v4 v5 D = some (rr, DD) → G D 32 [(0, .ref (Γ.2.1 176)), (2, .int v2), (4, .int v4), (5, .int v5)] []) {v2 : Int32} {v4 : Int32} {v5 : Int32} {s0 : Int32} {s1 : Int32} {rs2 : Nat} (hrs2 : isA 11 rs2 360) {D : Dt} (hf : b_Model_marks_70 k32 v2 v4 v5 s0 s1 rs2 D = some (rr, DD)) : G D 70 [(0, .ref (Γ.2.1 176)), (2, .int v2), (4, .int v4), (5, .int v5)] [.int s0, .int s1, .ref (Γ.2.1 rs2)] := by
  unfold b_Model_marks_70 at hf
  refine r_iast (pc := 70) C hrs2 d_Model_marks_70 hf (fun hf => ?_)
  refine r_nmD hf (fun D6 hf => ?_)
  refine r_iload (pc := 71) C 3 d_Model_marks_71 rfl ?_
  refine r_aload_n (pc := 73) C 0 d_Model_marks_73 rfl rfl ?_
  refine g_Model_n (pc := 74) C k_id176 Lf_Model_176 d_Model_marks_74 ?_
  refine r_icmp_ge (pc := 77) C (tgt := 95) d_Model_marks_77 (by decide) hf (fun c77 hf => ?_) (fun c77 hf => ?_)
  · refine r_iload (pc := 95) C 2 d_Model_marks_95 rfl ?_
    exact r_lv (pc := 97) C [0, 1, 3] rfl (tb_Model_marks_97 C hk32 hf)
  · refine r_iload (pc := 80) C 2 d_Model_marks_80 rfl ?_
    refine r_aload_n (pc := 82) C 0 d_Model_marks_82 rfl rfl ?_
    refine g_Model_marksOf (pc := 83) C k_id176 Lf_Model_87 d_Model_marks_83 ?_
    refine r_iload (pc := 86) C 3 d_Model_marks_86 rfl ?_
    refine r_iald (pc := 88) C kq_Model_marksOf d_Model_marks_88 hf (fun hf => ?_)
    refine r_callSi (pc := 89) (As := [.int v4, .int (D6 202 v5.toNatClampNeg)]) (rest := []) C ok_Model_greater Lm_Model_213 ⟨by decide, by decide⟩ rfl rfl (Nat.le_of_ble_eq_true rfl) d_Model_marks_89 hf (fun x D1 hc => c_Model_greater Γ hc) (fun x7 D8 hf => ?_)
    refine r_goto (pc := 92) C (tgt := 97) d_Model_marks_92 (by decide) ?_
    exact r_lv (pc := 97) C [0, 1, 3] rfl (tb_Model_marks_97 C hk32 hf)
def s_Model_marks_32 (k32 : Int32 → Int32 → Int32 → Dt → Option (Int32 × Dt)) (v2 : Int32) (v4 : Int32) (v5 : Int32) (D : Dt) : Option (Int32 × Dt) :=
  (if 60 ≤ v5 then some (v4, D) else (if (D 176 10) ≤ v5 then b_Model_marks_70 k32 v2 v4 v5 0 ((60 * v2) + v5) 179 D else (if inb v5 8 = true then b_Model_marks_70 k32 v2 v4 v5 (D 202 v5.toNatClampNeg) ((60 * v2) + v5) 179 D else none)))
def lp_Model_marks_32 (n : Nat) : Int32 → Int32 → Int32 → Dt → Option (Int32 × Dt) := itr (fun _ _ _ _ => none) (s_Model_marks_32) n
set_option maxHeartbeats 4000000 in
theorem ts_Model_marks_32 {Γ : GmT} {G : Dt → Nat → List (Nat × Value) → List Value → Prop} {rr : Int32} {DD : Dt} (C : Cx Γ "RiverTuesdaysModel" b_Model_marks 6 8 (some .int) (some (.int rr)) DD G) {k32 : Int32 → Int32 → Int32 → Dt → Option (Int32 × Dt)} (hk32 : ∀ (v2 : Int32) (v4 : Int32) (v5 : Int32) (D : Dt), k32 v2 v4 v5 D = some (rr, DD) → G D 32 [(0, .ref (Γ.2.1 176)), (2, .int v2), (4, .int v4), (5, .int v5)] []) {v2 : Int32} {v4 : Int32} {v5 : Int32} {D : Dt} (hf : s_Model_marks_32 k32 v2 v4 v5 D = some (rr, DD)) : G D 32 [(0, .ref (Γ.2.1 176)), (2, .int v2), (4, .int v4), (5, .int v5)] [] := by
  unfold s_Model_marks_32 at hf
  refine r_iload (pc := 32) C 3 d_Model_marks_32 rfl ?_
  refine r_bipush (pc := 34) C (v := 60) d_Model_marks_34 (by decide) ?_
  refine r_icmp_ge (pc := 36) C (tgt := 105) d_Model_marks_36 (by decide) hf (fun c36 hf => ?_) (fun c36 hf => ?_)
  · refine r_iload (pc := 105) C 2 d_Model_marks_105 rfl ?_
    exact r_iret (pc := 107) C d_Model_marks_107 hf
  · refine r_aload_n (pc := 39) C 0 d_Model_marks_39 rfl rfl ?_
    refine g_Model_rows (pc := 40) C k_id176 Lf_Model_16 d_Model_marks_40 ?_
    refine r_bipush (pc := 43) C (v := 60) d_Model_marks_43 (by decide) ?_
    refine r_iload_n (pc := 45) C 1 d_Model_marks_45 rfl rfl ?_
    refine r_imul (pc := 46) C d_Model_marks_46 ?_
    refine r_iload (pc := 47) C 3 d_Model_marks_47 rfl ?_
    refine r_iadd (pc := 49) C d_Model_marks_49 ?_
    refine r_iload (pc := 50) C 3 d_Model_marks_50 rfl ?_
    refine r_aload_n (pc := 52) C 0 d_Model_marks_52 rfl rfl ?_
    refine g_Model_n (pc := 53) C k_id176 Lf_Model_176 d_Model_marks_53 ?_
    refine r_icmp_ge (pc := 56) C (tgt := 69) d_Model_marks_56 (by decide) hf (fun c56 hf => ?_) (fun c56 hf => ?_)
    · refine r_iconst (pc := 69) C (v := 0) d_Model_marks_69 (by decide) ?_
      exact r_lv (pc := 70) C [0, 1, 2, 3] rfl (tb_Model_marks_70 C hk32 kq_Model_rows hf)
    · refine r_aload_n (pc := 59) C 0 d_Model_marks_59 rfl rfl ?_
      refine g_Model_marksOf (pc := 60) C k_id176 Lf_Model_87 d_Model_marks_60 ?_
      refine r_iload (pc := 63) C 3 d_Model_marks_63 rfl ?_
      refine r_iald (pc := 65) C kq_Model_marksOf d_Model_marks_65 hf (fun hf => ?_)
      refine r_goto (pc := 66) C (tgt := 70) d_Model_marks_66 (by decide) ?_
      exact r_lv (pc := 70) C [0, 1, 2, 3] rfl (tb_Model_marks_70 C hk32 kq_Model_rows hf)
theorem tl_Model_marks_32 {Γ : GmT} {G : Dt → Nat → List (Nat × Value) → List Value → Prop} {rr : Int32} {DD : Dt} (C : Cx Γ "RiverTuesdaysModel" b_Model_marks 6 8 (some .int) (some (.int rr)) DD G) : ∀ (n : Nat) (v2 : Int32) (v4 : Int32) (v5 : Int32) (D : Dt), lp_Model_marks_32 n v2 v4 v5 D = some (rr, DD) → G D 32 [(0, .ref (Γ.2.1 176)), (2, .int v2), (4, .int v4), (5, .int v5)] [] := by
  intro n
  induction n with
  | zero =>
    intro v2 v4 v5 D hf
    exact absurd (show (none : Option (Int32 × Dt)) = some (rr, DD) from hf) (by simp)
  | succ n ih =>
    intro v2 v4 v5 D hf
    exact ts_Model_marks_32 C (k32 := lp_Model_marks_32 n) ih hf
def f_Model_marks (v1 : Int32) (v2 : Int32) (D : Dt) : Option (Int32 × Dt) :=
  bnd (f_Model_isRow v2 D) (fun x1 D2 => bnd (f_Model_needTuesday x1 v1 D2) (fun x3 D4 => (if 0 ≤ x3 then (if inb v2 6 = true then nm (wr D4 178 v2.toNatClampNeg (D4 176 10)) (fun D5 => lp_Model_marks_32 FU v2 0 0 D5) else none) else some (x3, D4))))
set_option maxHeartbeats 4000000 in
theorem te_Model_marks {Γ : GmT} {G : Dt → Nat → List (Nat × Value) → List Value → Prop} {rr : Int32} {DD : Dt} (C : Cx Γ "RiverTuesdaysModel" b_Model_marks 6 8 (some .int) (some (.int rr)) DD G) {v1 : Int32} {v2 : Int32} {D : Dt} (hf : f_Model_marks v1 v2 D = some (rr, DD)) : G D 0 [(0, .ref (Γ.2.1 176)), (1, .int v1), (2, .int v2)] [] := by
  unfold f_Model_marks at hf
  refine r_aload_n (pc := 0) C 0 d_Model_marks_0 rfl rfl ?_
  refine r_iload_n (pc := 1) C 2 d_Model_marks_1 rfl rfl ?_
  refine r_callSi (pc := 2) (As := [.int v2]) (rest := [.ref (Γ.2.1 176)]) C ok_Model_isRow Lm_Model_125 ⟨by decide, by decide⟩ rfl rfl (Nat.le_of_ble_eq_true rfl) d_Model_marks_2 hf (fun x D1 hc => c_Model_isRow Γ hc) (fun x1 D2 hf => ?_)
  refine r_iload_n (pc := 5) C 1 d_Model_marks_5 rfl rfl ?_
  refine r_callVi (pc := 6) (As := [.int x1, .int v1]) (rest := []) C ok_Model_needTuesday Lm_Model_281 k_id176 (by decide) ⟨by decide, by decide⟩ rfl rfl (Nat.le_of_ble_eq_true rfl) d_Model_marks_6 hf (fun x D1 hc => c_Model_needTuesday Γ hc) (fun x3 D4 hf => ?_)
  refine r_istore_n (pc := 9) (lv' := [(3, .int x3), (0, .ref (Γ.2.1 176)), (1, .int v1), (2, .int v2)]) C d_Model_marks_9 rfl (Nat.le_of_ble_eq_true rfl) rfl ?_
  refine r_iload_n (pc := 10) C 0 d_Model_marks_10 rfl rfl ?_
  refine r_if_ge (pc := 11) C (tgt := 16) d_Model_marks_11 (by decide) hf (fun c11 hf => ?_) (fun c11 hf => ?_)
  · refine r_iconst (pc := 16) C (v := 0) d_Model_marks_16 (by decide) ?_
    refine r_istore (pc := 17) (lv' := [(4, .int 0), (3, .int x3), (0, .ref (Γ.2.1 176)), (1, .int v1), (2, .int v2)]) C d_Model_marks_17 (Nat.le_of_ble_eq_true rfl) rfl ?_
    refine r_aload_n (pc := 19) C 2 d_Model_marks_19 rfl rfl ?_
    refine g_Model_sizes (pc := 20) C k_id176 Lf_Model_13 d_Model_marks_20 ?_
    refine r_iload_n (pc := 23) C 4 d_Model_marks_23 rfl rfl ?_
    refine r_aload_n (pc := 24) C 2 d_Model_marks_24 rfl rfl ?_
    refine g_Model_n (pc := 25) C k_id176 Lf_Model_176 d_Model_marks_25 ?_
    refine r_iast (pc := 28) C kq_Model_sizes d_Model_marks_28 hf (fun hf => ?_)
    refine r_nmD hf (fun D5 hf => ?_)
    refine r_iconst (pc := 29) C (v := 0) d_Model_marks_29 (by decide) ?_
    refine r_istore (pc := 30) (lv' := [(5, .int 0), (4, .int 0), (3, .int x3), (0, .ref (Γ.2.1 176)), (1, .int v1), (2, .int v2)]) C d_Model_marks_30 (Nat.le_of_ble_eq_true rfl) rfl ?_
    exact r_lv (pc := 32) C [3, 5, 1, 0] rfl (tl_Model_marks_32 C FU v2 0 0 D5 hf)
  · refine r_iload_n (pc := 14) C 0 d_Model_marks_14 rfl rfl ?_
    exact r_iret (pc := 15) C d_Model_marks_15 hf
theorem c_Model_marks (Γ : GmT) {v1 : Int32} {v2 : Int32} {D : Dt} {rr : Int32} {DD : Dt} (hf : f_Model_marks v1 v2 D = some (rr, DD)) : Mt Γ y_Model_marks b_Model_marks 6 (some .int) 8 [.ref (Γ.2.1 176), .int v1, .int v2] D (some (.int rr)) DD := Mt_of (by decide) (Nat.le_of_ble_eq_true rfl) (fun G C => te_Model_marks C hf)
