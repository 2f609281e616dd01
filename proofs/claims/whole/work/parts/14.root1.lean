/-! 14.root1: printed by wip/whole/gen/gmeth.py out of the bytecode -/
abbrev b_Root_mirrored : ByteArray := prog_1_method_69_code
abbrev y_Root_mirrored : MethodName := ⟨"RiverTuesdays", "mirrored", "(I)I"⟩
theorem ok_Root_mirrored : okS y_Root_mirrored b_Root_mirrored 3 (some .int) 1 := ⟨mGW (List.mem_of_getElem? (i := 787) (by decide +kernel)) rfl, mGW (List.mem_of_getElem? (i := 74) (by decide +kernel)) rfl, mGW (List.mem_of_getElem? (i := 788) (by decide +kernel)) rfl, ⟨by decide, by decide, by decide +kernel⟩⟩
theorem d_Root_mirrored_0 : decode b_Root_mirrored 0 = .ok (.iconst 0, 1) := by decide +kernel
theorem d_Root_mirrored_1 : decode b_Root_mirrored 1 = .ok (.istore_n 1, 1) := by decide +kernel
theorem d_Root_mirrored_2 : decode b_Root_mirrored 2 = .ok (.iconst 0, 1) := by decide +kernel
theorem d_Root_mirrored_3 : decode b_Root_mirrored 3 = .ok (.istore_n 2, 1) := by decide +kernel
theorem d_Root_mirrored_4 : decode b_Root_mirrored 4 = .ok (.iload_n 2, 1) := by decide +kernel
theorem d_Root_mirrored_5 : decode b_Root_mirrored 5 = .ok (.bipush 8, 2) := by decide +kernel
theorem d_Root_mirrored_7 : decode b_Root_mirrored 7 = .ok (.if_icmp .ge 26, 3) := by decide +kernel
theorem d_Root_mirrored_10 : decode b_Root_mirrored 10 = .ok (.iload_n 0, 1) := by decide +kernel
theorem d_Root_mirrored_11 : decode b_Root_mirrored 11 = .ok (.iload_n 2, 1) := by decide +kernel
theorem d_Root_mirrored_12 : decode b_Root_mirrored 12 = .ok (.invokestatic 248, 3) := by decide +kernel
theorem d_Root_mirrored_15 : decode b_Root_mirrored 15 = .ok (.ifCond .eq 12, 3) := by decide +kernel
theorem d_Root_mirrored_18 : decode b_Root_mirrored 18 = .ok (.iload_n 1, 1) := by decide +kernel
theorem d_Root_mirrored_19 : decode b_Root_mirrored 19 = .ok (.iconst 1, 1) := by decide +kernel
theorem d_Root_mirrored_20 : decode b_Root_mirrored 20 = .ok (.bipush 7, 2) := by decide +kernel
theorem d_Root_mirrored_22 : decode b_Root_mirrored 22 = .ok (.iload_n 2, 1) := by decide +kernel
theorem d_Root_mirrored_23 : decode b_Root_mirrored 23 = .ok (.isub, 1) := by decide +kernel
theorem d_Root_mirrored_24 : decode b_Root_mirrored 24 = .ok (.ishl, 1) := by decide +kernel
theorem d_Root_mirrored_25 : decode b_Root_mirrored 25 = .ok (.ior, 1) := by decide +kernel
theorem d_Root_mirrored_26 : decode b_Root_mirrored 26 = .ok (.istore_n 1, 1) := by decide +kernel
theorem d_Root_mirrored_27 : decode b_Root_mirrored 27 = .ok (.iinc 2 1, 3) := by decide +kernel
theorem d_Root_mirrored_30 : decode b_Root_mirrored 30 = .ok (.goto (-26), 3) := by decide +kernel
theorem d_Root_mirrored_33 : decode b_Root_mirrored 33 = .ok (.iload_n 1, 1) := by decide +kernel
theorem d_Root_mirrored_34 : decode b_Root_mirrored 34 = .ok (.ireturn, 1) := by decide +kernel
abbrev b_Root_planOfRank : ByteArray := prog_1_method_71_code
abbrev y_Root_planOfRank : MethodName := ⟨"RiverTuesdays", "planOfRank", "(J)I"⟩
theorem ok_Root_planOfRank : okS y_Root_planOfRank b_Root_planOfRank 2 (some .int) 1 := ⟨mGW (List.mem_of_getElem? (i := 798) (by decide +kernel)) rfl, mGW (List.mem_of_getElem? (i := 74) (by decide +kernel)) rfl, mGW (List.mem_of_getElem? (i := 799) (by decide +kernel)) rfl, ⟨by decide, by decide, by decide +kernel⟩⟩
theorem d_Root_planOfRank_0 : decode b_Root_planOfRank 0 = .ok (.lload_n 0, 1) := by decide +kernel
theorem d_Root_planOfRank_1 : decode b_Root_planOfRank 1 = .ok (.ldc2_w 433, 3) := by decide +kernel
theorem d_Root_planOfRank_4 : decode b_Root_planOfRank 4 = .ok (.land, 1) := by decide +kernel
theorem d_Root_planOfRank_5 : decode b_Root_planOfRank 5 = .ok (.l2i, 1) := by decide +kernel
theorem d_Root_planOfRank_6 : decode b_Root_planOfRank 6 = .ok (.ireturn, 1) := by decide +kernel
abbrev b_Root_rank : ByteArray := prog_1_method_70_code
abbrev y_Root_rank : MethodName := ⟨"RiverTuesdays", "rank", "(III)J"⟩
theorem ok_Root_rank : okS y_Root_rank b_Root_rank 3 (some .long) 3 := ⟨mGW (List.mem_of_getElem? (i := 790) (by decide +kernel)) rfl, mGW (List.mem_of_getElem? (i := 74) (by decide +kernel)) rfl, mGW (List.mem_of_getElem? (i := 791) (by decide +kernel)) rfl, ⟨by decide, by decide, by decide +kernel⟩⟩
theorem d_Root_rank_0 : decode b_Root_rank 0 = .ok (.iload_n 0, 1) := by decide +kernel
theorem d_Root_rank_1 : decode b_Root_rank 1 = .ok (.i2l, 1) := by decide +kernel
theorem d_Root_rank_2 : decode b_Root_rank 2 = .ok (.ldc2_w 431, 3) := by decide +kernel
theorem d_Root_rank_5 : decode b_Root_rank 5 = .ok (.lmul, 1) := by decide +kernel
theorem d_Root_rank_6 : decode b_Root_rank 6 = .ok (.iload_n 1, 1) := by decide +kernel
theorem d_Root_rank_7 : decode b_Root_rank 7 = .ok (.i2l, 1) := by decide +kernel
theorem d_Root_rank_8 : decode b_Root_rank 8 = .ok (.ladd, 1) := by decide +kernel
theorem d_Root_rank_9 : decode b_Root_rank 9 = .ok (.ldc2_w 375, 3) := by decide +kernel
theorem d_Root_rank_12 : decode b_Root_rank 12 = .ok (.lmul, 1) := by decide +kernel
theorem d_Root_rank_13 : decode b_Root_rank 13 = .ok (.iload_n 2, 1) := by decide +kernel
theorem d_Root_rank_14 : decode b_Root_rank 14 = .ok (.i2l, 1) := by decide +kernel
theorem d_Root_rank_15 : decode b_Root_rank 15 = .ok (.ladd, 1) := by decide +kernel
theorem d_Root_rank_16 : decode b_Root_rank 16 = .ok (.lreturn, 1) := by decide +kernel
abbrev b_Root_most : ByteArray := prog_1_method_32_code
abbrev y_Root_most : MethodName := ⟨"RiverTuesdays", "most", "(I)I"⟩
theorem ok_Root_most : okV y_Root_most b_Root_most 6 (some .int) 1 8 := ⟨mGW (List.mem_of_getElem? (i := 782) (by decide +kernel)) rfl, mGW (List.mem_of_getElem? (i := 783) (by decide +kernel)) rfl, mGW (List.mem_of_getElem? (i := 74) (by decide +kernel)) rfl, mGW (List.mem_of_getElem? (i := 784) (by decide +kernel)) rfl, ⟨by decide, by decide, by decide +kernel⟩, rfl⟩
theorem d_Root_most_0 : decode b_Root_most 0 = .ok (.iload_n 1, 1) := by decide +kernel
theorem d_Root_most_1 : decode b_Root_most 1 = .ok (.iconst 0, 1) := by decide +kernel
theorem d_Root_most_2 : decode b_Root_most 2 = .ok (.bipush 8, 2) := by decide +kernel
theorem d_Root_most_4 : decode b_Root_most 4 = .ok (.invokestatic 155, 3) := by decide +kernel
theorem d_Root_most_7 : decode b_Root_most 7 = .ok (.ifCond .ne 5, 3) := by decide +kernel
theorem d_Root_most_10 : decode b_Root_most 10 = .ok (.iconst (-1), 1) := by decide +kernel
theorem d_Root_most_11 : decode b_Root_most 11 = .ok (.ireturn, 1) := by decide +kernel
theorem d_Root_most_12 : decode b_Root_most 12 = .ok (.aload_n 0, 1) := by decide +kernel
theorem d_Root_most_13 : decode b_Root_most 13 = .ok (.invokevirtual 190, 3) := by decide +kernel
theorem d_Root_most_16 : decode b_Root_most 16 = .ok (.ifCond .ne 6, 3) := by decide +kernel
theorem d_Root_most_19 : decode b_Root_most 19 = .ok (.bipush (-4), 2) := by decide +kernel
theorem d_Root_most_21 : decode b_Root_most 21 = .ok (.ireturn, 1) := by decide +kernel
theorem d_Root_most_22 : decode b_Root_most 22 = .ok (.ldc2_w 289, 3) := by decide +kernel
theorem d_Root_most_25 : decode b_Root_most 25 = .ok (.lstore_n 2, 1) := by decide +kernel
theorem d_Root_most_26 : decode b_Root_most 26 = .ok (.aload_n 0, 1) := by decide +kernel
theorem d_Root_most_27 : decode b_Root_most 27 = .ok (.getfield 53, 3) := by decide +kernel
theorem d_Root_most_30 : decode b_Root_most 30 = .ok (.aload_n 0, 1) := by decide +kernel
theorem d_Root_most_31 : decode b_Root_most 31 = .ok (.getfield 24, 3) := by decide +kernel
theorem d_Root_most_34 : decode b_Root_most 34 = .ok (.getfield 168, 3) := by decide +kernel
theorem d_Root_most_37 : decode b_Root_most 37 = .ok (.invokevirtual 291, 3) := by decide +kernel
theorem d_Root_most_40 : decode b_Root_most 40 = .ok (.iconst 0, 1) := by decide +kernel
theorem d_Root_most_41 : decode b_Root_most 41 = .ok (.istore 4, 2) := by decide +kernel
theorem d_Root_most_43 : decode b_Root_most 43 = .ok (.iload 4, 2) := by decide +kernel
theorem d_Root_most_45 : decode b_Root_most 45 = .ok (.sipush 256, 3) := by decide +kernel
theorem d_Root_most_48 : decode b_Root_most 48 = .ok (.if_icmp .ge 66, 3) := by decide +kernel
theorem d_Root_most_51 : decode b_Root_most 51 = .ok (.iload 4, 2) := by decide +kernel
theorem d_Root_most_53 : decode b_Root_most 53 = .ok (.invokestatic 294, 3) := by decide +kernel
theorem d_Root_most_56 : decode b_Root_most 56 = .ok (.istore 5, 2) := by decide +kernel
theorem d_Root_most_58 : decode b_Root_most 58 = .ok (.iload 5, 2) := by decide +kernel
theorem d_Root_most_60 : decode b_Root_most 60 = .ok (.invokestatic 240, 3) := by decide +kernel
theorem d_Root_most_63 : decode b_Root_most 63 = .ok (.iload_n 1, 1) := by decide +kernel
theorem d_Root_most_64 : decode b_Root_most 64 = .ok (.if_icmp .ne 44, 3) := by decide +kernel
theorem d_Root_most_67 : decode b_Root_most 67 = .ok (.aload_n 0, 1) := by decide +kernel
theorem d_Root_most_68 : decode b_Root_most 68 = .ok (.getfield 53, 3) := by decide +kernel
theorem d_Root_most_71 : decode b_Root_most 71 = .ok (.aload_n 0, 1) := by decide +kernel
theorem d_Root_most_72 : decode b_Root_most 72 = .ok (.getfield 24, 3) := by decide +kernel
theorem d_Root_most_75 : decode b_Root_most 75 = .ok (.getfield 146, 3) := by decide +kernel
theorem d_Root_most_78 : decode b_Root_most 78 = .ok (.iload 5, 2) := by decide +kernel
theorem d_Root_most_80 : decode b_Root_most 80 = .ok (.invokevirtual 297, 3) := by decide +kernel
theorem d_Root_most_83 : decode b_Root_most 83 = .ok (.lload_n 2, 1) := by decide +kernel
theorem d_Root_most_84 : decode b_Root_most 84 = .ok (.aload_n 0, 1) := by decide +kernel
theorem d_Root_most_85 : decode b_Root_most 85 = .ok (.getfield 53, 3) := by decide +kernel
theorem d_Root_most_88 : decode b_Root_most 88 = .ok (.invokevirtual 231, 3) := by decide +kernel
theorem d_Root_most_91 : decode b_Root_most 91 = .ok (.ineg, 1) := by decide +kernel
theorem d_Root_most_92 : decode b_Root_most 92 = .ok (.aload_n 0, 1) := by decide +kernel
theorem d_Root_most_93 : decode b_Root_most 93 = .ok (.getfield 53, 3) := by decide +kernel
theorem d_Root_most_96 : decode b_Root_most 96 = .ok (.invokevirtual 234, 3) := by decide +kernel
theorem d_Root_most_99 : decode b_Root_most 99 = .ok (.iload 5, 2) := by decide +kernel
theorem d_Root_most_101 : decode b_Root_most 101 = .ok (.invokestatic 301, 3) := by decide +kernel
theorem d_Root_most_104 : decode b_Root_most 104 = .ok (.invokestatic 305, 3) := by decide +kernel
theorem d_Root_most_107 : decode b_Root_most 107 = .ok (.lstore_n 2, 1) := by decide +kernel
theorem d_Root_most_108 : decode b_Root_most 108 = .ok (.iinc 4 1, 3) := by decide +kernel
theorem d_Root_most_111 : decode b_Root_most 111 = .ok (.goto (-68), 3) := by decide +kernel
theorem d_Root_most_114 : decode b_Root_most 114 = .ok (.lload_n 2, 1) := by decide +kernel
theorem d_Root_most_115 : decode b_Root_most 115 = .ok (.invokestatic 308, 3) := by decide +kernel
theorem d_Root_most_118 : decode b_Root_most 118 = .ok (.istore 4, 2) := by decide +kernel
theorem d_Root_most_120 : decode b_Root_most 120 = .ok (.aload_n 0, 1) := by decide +kernel
theorem d_Root_most_121 : decode b_Root_most 121 = .ok (.getfield 53, 3) := by decide +kernel
theorem d_Root_most_124 : decode b_Root_most 124 = .ok (.aload_n 0, 1) := by decide +kernel
theorem d_Root_most_125 : decode b_Root_most 125 = .ok (.getfield 24, 3) := by decide +kernel
theorem d_Root_most_128 : decode b_Root_most 128 = .ok (.getfield 146, 3) := by decide +kernel
theorem d_Root_most_131 : decode b_Root_most 131 = .ok (.iload 4, 2) := by decide +kernel
theorem d_Root_most_133 : decode b_Root_most 133 = .ok (.invokevirtual 297, 3) := by decide +kernel
theorem d_Root_most_136 : decode b_Root_most 136 = .ok (.aload_n 0, 1) := by decide +kernel
theorem d_Root_most_137 : decode b_Root_most 137 = .ok (.aload_n 0, 1) := by decide +kernel
theorem d_Root_most_138 : decode b_Root_most 138 = .ok (.getfield 53, 3) := by decide +kernel
theorem d_Root_most_141 : decode b_Root_most 141 = .ok (.invokevirtual 231, 3) := by decide +kernel
theorem d_Root_most_144 : decode b_Root_most 144 = .ok (.iload 4, 2) := by decide +kernel
theorem d_Root_most_146 : decode b_Root_most 146 = .ok (.invokevirtual 99, 3) := by decide +kernel
theorem d_Root_most_149 : decode b_Root_most 149 = .ok (.ireturn, 1) := by decide +kernel
abbrev b_Root_least : ByteArray := prog_1_method_33_code
abbrev y_Root_least : MethodName := ⟨"RiverTuesdays", "least", "(I)I"⟩
theorem ok_Root_least : okV y_Root_least b_Root_least 6 (some .int) 1 8 := ⟨mGW (List.mem_of_getElem? (i := 802) (by decide +kernel)) rfl, mGW (List.mem_of_getElem? (i := 803) (by decide +kernel)) rfl, mGW (List.mem_of_getElem? (i := 74) (by decide +kernel)) rfl, mGW (List.mem_of_getElem? (i := 804) (by decide +kernel)) rfl, ⟨by decide, by decide, by decide +kernel⟩, rfl⟩
theorem d_Root_least_0 : decode b_Root_least 0 = .ok (.iload_n 1, 1) := by decide +kernel
theorem d_Root_least_1 : decode b_Root_least 1 = .ok (.iconst 0, 1) := by decide +kernel
theorem d_Root_least_2 : decode b_Root_least 2 = .ok (.bipush 99, 2) := by decide +kernel
theorem d_Root_least_4 : decode b_Root_least 4 = .ok (.invokestatic 155, 3) := by decide +kernel
theorem d_Root_least_7 : decode b_Root_least 7 = .ok (.ifCond .ne 5, 3) := by decide +kernel
theorem d_Root_least_10 : decode b_Root_least 10 = .ok (.iconst (-1), 1) := by decide +kernel
theorem d_Root_least_11 : decode b_Root_least 11 = .ok (.ireturn, 1) := by decide +kernel
theorem d_Root_least_12 : decode b_Root_least 12 = .ok (.aload_n 0, 1) := by decide +kernel
theorem d_Root_least_13 : decode b_Root_least 13 = .ok (.invokevirtual 190, 3) := by decide +kernel
theorem d_Root_least_16 : decode b_Root_least 16 = .ok (.ifCond .ne 6, 3) := by decide +kernel
theorem d_Root_least_19 : decode b_Root_least 19 = .ok (.bipush (-4), 2) := by decide +kernel
theorem d_Root_least_21 : decode b_Root_least 21 = .ok (.ireturn, 1) := by decide +kernel
theorem d_Root_least_22 : decode b_Root_least 22 = .ok (.ldc2_w 289, 3) := by decide +kernel
theorem d_Root_least_25 : decode b_Root_least 25 = .ok (.lstore_n 2, 1) := by decide +kernel
theorem d_Root_least_26 : decode b_Root_least 26 = .ok (.aload_n 0, 1) := by decide +kernel
theorem d_Root_least_27 : decode b_Root_least 27 = .ok (.getfield 53, 3) := by decide +kernel
theorem d_Root_least_30 : decode b_Root_least 30 = .ok (.aload_n 0, 1) := by decide +kernel
theorem d_Root_least_31 : decode b_Root_least 31 = .ok (.getfield 24, 3) := by decide +kernel
theorem d_Root_least_34 : decode b_Root_least 34 = .ok (.getfield 168, 3) := by decide +kernel
theorem d_Root_least_37 : decode b_Root_least 37 = .ok (.invokevirtual 291, 3) := by decide +kernel
theorem d_Root_least_40 : decode b_Root_least 40 = .ok (.iconst 0, 1) := by decide +kernel
theorem d_Root_least_41 : decode b_Root_least 41 = .ok (.istore 4, 2) := by decide +kernel
theorem d_Root_least_43 : decode b_Root_least 43 = .ok (.iload 4, 2) := by decide +kernel
theorem d_Root_least_45 : decode b_Root_least 45 = .ok (.sipush 256, 3) := by decide +kernel
theorem d_Root_least_48 : decode b_Root_least 48 = .ok (.if_icmp .ge 65, 3) := by decide +kernel
theorem d_Root_least_51 : decode b_Root_least 51 = .ok (.iload 4, 2) := by decide +kernel
theorem d_Root_least_53 : decode b_Root_least 53 = .ok (.invokestatic 294, 3) := by decide +kernel
theorem d_Root_least_56 : decode b_Root_least 56 = .ok (.istore 5, 2) := by decide +kernel
theorem d_Root_least_58 : decode b_Root_least 58 = .ok (.aload_n 0, 1) := by decide +kernel
theorem d_Root_least_59 : decode b_Root_least 59 = .ok (.getfield 53, 3) := by decide +kernel
theorem d_Root_least_62 : decode b_Root_least 62 = .ok (.aload_n 0, 1) := by decide +kernel
theorem d_Root_least_63 : decode b_Root_least 63 = .ok (.getfield 24, 3) := by decide +kernel
theorem d_Root_least_66 : decode b_Root_least 66 = .ok (.getfield 146, 3) := by decide +kernel
theorem d_Root_least_69 : decode b_Root_least 69 = .ok (.iload 5, 2) := by decide +kernel
theorem d_Root_least_71 : decode b_Root_least 71 = .ok (.invokevirtual 297, 3) := by decide +kernel
theorem d_Root_least_74 : decode b_Root_least 74 = .ok (.aload_n 0, 1) := by decide +kernel
theorem d_Root_least_75 : decode b_Root_least 75 = .ok (.getfield 53, 3) := by decide +kernel
theorem d_Root_least_78 : decode b_Root_least 78 = .ok (.invokevirtual 231, 3) := by decide +kernel
theorem d_Root_least_81 : decode b_Root_least 81 = .ok (.iload_n 1, 1) := by decide +kernel
theorem d_Root_least_82 : decode b_Root_least 82 = .ok (.if_icmp .lt 25, 3) := by decide +kernel
theorem d_Root_least_85 : decode b_Root_least 85 = .ok (.lload_n 2, 1) := by decide +kernel
theorem d_Root_least_86 : decode b_Root_least 86 = .ok (.aload_n 0, 1) := by decide +kernel
theorem d_Root_least_87 : decode b_Root_least 87 = .ok (.getfield 53, 3) := by decide +kernel
theorem d_Root_least_90 : decode b_Root_least 90 = .ok (.invokevirtual 234, 3) := by decide +kernel
theorem d_Root_least_93 : decode b_Root_least 93 = .ok (.iload 5, 2) := by decide +kernel
theorem d_Root_least_95 : decode b_Root_least 95 = .ok (.invokestatic 240, 3) := by decide +kernel
theorem d_Root_least_98 : decode b_Root_least 98 = .ok (.iload 5, 2) := by decide +kernel
theorem d_Root_least_100 : decode b_Root_least 100 = .ok (.invokestatic 301, 3) := by decide +kernel
theorem d_Root_least_103 : decode b_Root_least 103 = .ok (.invokestatic 305, 3) := by decide +kernel
theorem d_Root_least_106 : decode b_Root_least 106 = .ok (.lstore_n 2, 1) := by decide +kernel
theorem d_Root_least_107 : decode b_Root_least 107 = .ok (.iinc 4 1, 3) := by decide +kernel
theorem d_Root_least_110 : decode b_Root_least 110 = .ok (.goto (-67), 3) := by decide +kernel
theorem d_Root_least_113 : decode b_Root_least 113 = .ok (.lload_n 2, 1) := by decide +kernel
theorem d_Root_least_114 : decode b_Root_least 114 = .ok (.ldc2_w 289, 3) := by decide +kernel
theorem d_Root_least_117 : decode b_Root_least 117 = .ok (.lcmp, 1) := by decide +kernel
theorem d_Root_least_118 : decode b_Root_least 118 = .ok (.ifCond .ne 6, 3) := by decide +kernel
theorem d_Root_least_121 : decode b_Root_least 121 = .ok (.bipush (-9), 2) := by decide +kernel
theorem d_Root_least_123 : decode b_Root_least 123 = .ok (.ireturn, 1) := by decide +kernel
theorem d_Root_least_124 : decode b_Root_least 124 = .ok (.lload_n 2, 1) := by decide +kernel
theorem d_Root_least_125 : decode b_Root_least 125 = .ok (.invokestatic 308, 3) := by decide +kernel
theorem d_Root_least_128 : decode b_Root_least 128 = .ok (.istore 4, 2) := by decide +kernel
theorem d_Root_least_130 : decode b_Root_least 130 = .ok (.aload_n 0, 1) := by decide +kernel
theorem d_Root_least_131 : decode b_Root_least 131 = .ok (.getfield 53, 3) := by decide +kernel
theorem d_Root_least_134 : decode b_Root_least 134 = .ok (.aload_n 0, 1) := by decide +kernel
theorem d_Root_least_135 : decode b_Root_least 135 = .ok (.getfield 24, 3) := by decide +kernel
theorem d_Root_least_138 : decode b_Root_least 138 = .ok (.getfield 146, 3) := by decide +kernel
theorem d_Root_least_141 : decode b_Root_least 141 = .ok (.iload 4, 2) := by decide +kernel
theorem d_Root_least_143 : decode b_Root_least 143 = .ok (.invokevirtual 297, 3) := by decide +kernel
theorem d_Root_least_146 : decode b_Root_least 146 = .ok (.aload_n 0, 1) := by decide +kernel
theorem d_Root_least_147 : decode b_Root_least 147 = .ok (.aload_n 0, 1) := by decide +kernel
theorem d_Root_least_148 : decode b_Root_least 148 = .ok (.getfield 53, 3) := by decide +kernel
theorem d_Root_least_151 : decode b_Root_least 151 = .ok (.invokevirtual 234, 3) := by decide +kernel
theorem d_Root_least_154 : decode b_Root_least 154 = .ok (.iload 4, 2) := by decide +kernel
theorem d_Root_least_156 : decode b_Root_least 156 = .ok (.invokevirtual 99, 3) := by decide +kernel
theorem d_Root_least_159 : decode b_Root_least 159 = .ok (.ireturn, 1) := by decide +kernel
abbrev b_Root_dry : ByteArray := prog_1_method_34_code
abbrev y_Root_dry : MethodName := ⟨"RiverTuesdays", "dry", "()I"⟩
theorem ok_Root_dry : okV y_Root_dry b_Root_dry 5 (some .int) 0 8 := ⟨mGW (List.mem_of_getElem? (i := 806) (by decide +kernel)) rfl, mGW (List.mem_of_getElem? (i := 807) (by decide +kernel)) rfl, mGW (List.mem_of_getElem? (i := 74) (by decide +kernel)) rfl, mGW (List.mem_of_getElem? (i := 808) (by decide +kernel)) rfl, ⟨by decide, by decide, by decide +kernel⟩, rfl⟩
theorem d_Root_dry_0 : decode b_Root_dry 0 = .ok (.aload_n 0, 1) := by decide +kernel
theorem d_Root_dry_1 : decode b_Root_dry 1 = .ok (.invokevirtual 190, 3) := by decide +kernel
theorem d_Root_dry_4 : decode b_Root_dry 4 = .ok (.ifCond .ne 6, 3) := by decide +kernel
theorem d_Root_dry_7 : decode b_Root_dry 7 = .ok (.bipush (-4), 2) := by decide +kernel
theorem d_Root_dry_9 : decode b_Root_dry 9 = .ok (.ireturn, 1) := by decide +kernel
theorem d_Root_dry_10 : decode b_Root_dry 10 = .ok (.ldc2_w 289, 3) := by decide +kernel
theorem d_Root_dry_13 : decode b_Root_dry 13 = .ok (.lstore_n 1, 1) := by decide +kernel
theorem d_Root_dry_14 : decode b_Root_dry 14 = .ok (.aload_n 0, 1) := by decide +kernel
theorem d_Root_dry_15 : decode b_Root_dry 15 = .ok (.getfield 53, 3) := by decide +kernel
theorem d_Root_dry_18 : decode b_Root_dry 18 = .ok (.aload_n 0, 1) := by decide +kernel
theorem d_Root_dry_19 : decode b_Root_dry 19 = .ok (.getfield 24, 3) := by decide +kernel
theorem d_Root_dry_22 : decode b_Root_dry 22 = .ok (.getfield 168, 3) := by decide +kernel
theorem d_Root_dry_25 : decode b_Root_dry 25 = .ok (.invokevirtual 291, 3) := by decide +kernel
theorem d_Root_dry_28 : decode b_Root_dry 28 = .ok (.iconst 0, 1) := by decide +kernel
theorem d_Root_dry_29 : decode b_Root_dry 29 = .ok (.istore_n 3, 1) := by decide +kernel
theorem d_Root_dry_30 : decode b_Root_dry 30 = .ok (.iload_n 3, 1) := by decide +kernel
theorem d_Root_dry_31 : decode b_Root_dry 31 = .ok (.sipush 256, 3) := by decide +kernel
theorem d_Root_dry_34 : decode b_Root_dry 34 = .ok (.if_icmp .ge 58, 3) := by decide +kernel
theorem d_Root_dry_37 : decode b_Root_dry 37 = .ok (.iload_n 3, 1) := by decide +kernel
theorem d_Root_dry_38 : decode b_Root_dry 38 = .ok (.invokestatic 294, 3) := by decide +kernel
theorem d_Root_dry_41 : decode b_Root_dry 41 = .ok (.istore 4, 2) := by decide +kernel
theorem d_Root_dry_43 : decode b_Root_dry 43 = .ok (.aload_n 0, 1) := by decide +kernel
theorem d_Root_dry_44 : decode b_Root_dry 44 = .ok (.getfield 53, 3) := by decide +kernel
theorem d_Root_dry_47 : decode b_Root_dry 47 = .ok (.aload_n 0, 1) := by decide +kernel
theorem d_Root_dry_48 : decode b_Root_dry 48 = .ok (.getfield 24, 3) := by decide +kernel
theorem d_Root_dry_51 : decode b_Root_dry 51 = .ok (.getfield 146, 3) := by decide +kernel
theorem d_Root_dry_54 : decode b_Root_dry 54 = .ok (.iload 4, 2) := by decide +kernel
theorem d_Root_dry_56 : decode b_Root_dry 56 = .ok (.invokevirtual 297, 3) := by decide +kernel
theorem d_Root_dry_59 : decode b_Root_dry 59 = .ok (.aload_n 0, 1) := by decide +kernel
theorem d_Root_dry_60 : decode b_Root_dry 60 = .ok (.getfield 53, 3) := by decide +kernel
theorem d_Root_dry_63 : decode b_Root_dry 63 = .ok (.invokevirtual 234, 3) := by decide +kernel
theorem d_Root_dry_66 : decode b_Root_dry 66 = .ok (.ifCond .ne 20, 3) := by decide +kernel
theorem d_Root_dry_69 : decode b_Root_dry 69 = .ok (.lload_n 1, 1) := by decide +kernel
theorem d_Root_dry_70 : decode b_Root_dry 70 = .ok (.iload 4, 2) := by decide +kernel
theorem d_Root_dry_72 : decode b_Root_dry 72 = .ok (.invokestatic 240, 3) := by decide +kernel
theorem d_Root_dry_75 : decode b_Root_dry 75 = .ok (.ineg, 1) := by decide +kernel
theorem d_Root_dry_76 : decode b_Root_dry 76 = .ok (.iconst 0, 1) := by decide +kernel
theorem d_Root_dry_77 : decode b_Root_dry 77 = .ok (.iload 4, 2) := by decide +kernel
theorem d_Root_dry_79 : decode b_Root_dry 79 = .ok (.invokestatic 301, 3) := by decide +kernel
theorem d_Root_dry_82 : decode b_Root_dry 82 = .ok (.invokestatic 305, 3) := by decide +kernel
theorem d_Root_dry_85 : decode b_Root_dry 85 = .ok (.lstore_n 1, 1) := by decide +kernel
theorem d_Root_dry_86 : decode b_Root_dry 86 = .ok (.iinc 3 1, 3) := by decide +kernel
theorem d_Root_dry_89 : decode b_Root_dry 89 = .ok (.goto (-59), 3) := by decide +kernel
theorem d_Root_dry_92 : decode b_Root_dry 92 = .ok (.lload_n 1, 1) := by decide +kernel
theorem d_Root_dry_93 : decode b_Root_dry 93 = .ok (.ldc2_w 289, 3) := by decide +kernel
theorem d_Root_dry_96 : decode b_Root_dry 96 = .ok (.lcmp, 1) := by decide +kernel
theorem d_Root_dry_97 : decode b_Root_dry 97 = .ok (.ifCond .ne 6, 3) := by decide +kernel
theorem d_Root_dry_100 : decode b_Root_dry 100 = .ok (.bipush (-9), 2) := by decide +kernel
theorem d_Root_dry_102 : decode b_Root_dry 102 = .ok (.ireturn, 1) := by decide +kernel
theorem d_Root_dry_103 : decode b_Root_dry 103 = .ok (.lload_n 1, 1) := by decide +kernel
theorem d_Root_dry_104 : decode b_Root_dry 104 = .ok (.invokestatic 308, 3) := by decide +kernel
theorem d_Root_dry_107 : decode b_Root_dry 107 = .ok (.istore_n 3, 1) := by decide +kernel
theorem d_Root_dry_108 : decode b_Root_dry 108 = .ok (.aload_n 0, 1) := by decide +kernel
theorem d_Root_dry_109 : decode b_Root_dry 109 = .ok (.iload_n 3, 1) := by decide +kernel
theorem d_Root_dry_110 : decode b_Root_dry 110 = .ok (.iload_n 3, 1) := by decide +kernel
theorem d_Root_dry_111 : decode b_Root_dry 111 = .ok (.invokestatic 240, 3) := by decide +kernel
theorem d_Root_dry_114 : decode b_Root_dry 114 = .ok (.invokevirtual 99, 3) := by decide +kernel
theorem d_Root_dry_117 : decode b_Root_dry 117 = .ok (.ireturn, 1) := by decide +kernel
abbrev b_Root_isLike : ByteArray := prog_1_method_73_code
abbrev y_Root_isLike : MethodName := ⟨"RiverTuesdays", "isLike", "(LRiverTuesdays$Row;)Z"⟩
theorem ok_Root_isLike : okV y_Root_isLike b_Root_isLike 3 (some .boolean) 1 8 := ⟨mGW (List.mem_of_getElem? (i := 823) (by decide +kernel)) rfl, mGW (List.mem_of_getElem? (i := 18) (by decide +kernel)) rfl, mGW (List.mem_of_getElem? (i := 74) (by decide +kernel)) rfl, mGW (List.mem_of_getElem? (i := 824) (by decide +kernel)) rfl, ⟨by decide, by decide, by decide +kernel⟩, rfl⟩
theorem d_Root_isLike_0 : decode b_Root_isLike 0 = .ok (.iconst 0, 1) := by decide +kernel
theorem d_Root_isLike_1 : decode b_Root_isLike 1 = .ok (.istore_n 2, 1) := by decide +kernel
theorem d_Root_isLike_2 : decode b_Root_isLike 2 = .ok (.iload_n 2, 1) := by decide +kernel
theorem d_Root_isLike_3 : decode b_Root_isLike 3 = .ok (.aload_n 0, 1) := by decide +kernel
theorem d_Root_isLike_4 : decode b_Root_isLike 4 = .ok (.getfield 24, 3) := by decide +kernel
theorem d_Root_isLike_7 : decode b_Root_isLike 7 = .ok (.getfield 146, 3) := by decide +kernel
theorem d_Root_isLike_10 : decode b_Root_isLike 10 = .ok (.getfield 149, 3) := by decide +kernel
theorem d_Root_isLike_13 : decode b_Root_isLike 13 = .ok (.if_icmp .ge 43, 3) := by decide +kernel
theorem d_Root_isLike_16 : decode b_Root_isLike 16 = .ok (.aload_n 1, 1) := by decide +kernel
theorem d_Root_isLike_17 : decode b_Root_isLike 17 = .ok (.getfield 96, 3) := by decide +kernel
theorem d_Root_isLike_20 : decode b_Root_isLike 20 = .ok (.iload_n 2, 1) := by decide +kernel
theorem d_Root_isLike_21 : decode b_Root_isLike 21 = .ok (.iaload, 1) := by decide +kernel
theorem d_Root_isLike_22 : decode b_Root_isLike 22 = .ok (.bipush (-9), 2) := by decide +kernel
theorem d_Root_isLike_24 : decode b_Root_isLike 24 = .ok (.if_icmp .eq 26, 3) := by decide +kernel
theorem d_Root_isLike_27 : decode b_Root_isLike 27 = .ok (.aload_n 1, 1) := by decide +kernel
theorem d_Root_isLike_28 : decode b_Root_isLike 28 = .ok (.getfield 96, 3) := by decide +kernel
theorem d_Root_isLike_31 : decode b_Root_isLike 31 = .ok (.iload_n 2, 1) := by decide +kernel
theorem d_Root_isLike_32 : decode b_Root_isLike 32 = .ok (.iaload, 1) := by decide +kernel
theorem d_Root_isLike_33 : decode b_Root_isLike 33 = .ok (.aload_n 0, 1) := by decide +kernel
theorem d_Root_isLike_34 : decode b_Root_isLike 34 = .ok (.getfield 53, 3) := by decide +kernel
theorem d_Root_isLike_37 : decode b_Root_isLike 37 = .ok (.getfield 268, 3) := by decide +kernel
theorem d_Root_isLike_40 : decode b_Root_isLike 40 = .ok (.bipush 8, 2) := by decide +kernel
theorem d_Root_isLike_42 : decode b_Root_isLike 42 = .ok (.aaload, 1) := by decide +kernel
theorem d_Root_isLike_43 : decode b_Root_isLike 43 = .ok (.iload_n 2, 1) := by decide +kernel
theorem d_Root_isLike_44 : decode b_Root_isLike 44 = .ok (.iaload, 1) := by decide +kernel
theorem d_Root_isLike_45 : decode b_Root_isLike 45 = .ok (.if_icmp .eq 5, 3) := by decide +kernel
theorem d_Root_isLike_48 : decode b_Root_isLike 48 = .ok (.iconst 0, 1) := by decide +kernel
theorem d_Root_isLike_49 : decode b_Root_isLike 49 = .ok (.ireturn, 1) := by decide +kernel
theorem d_Root_isLike_50 : decode b_Root_isLike 50 = .ok (.iinc 2 1, 3) := by decide +kernel
theorem d_Root_isLike_53 : decode b_Root_isLike 53 = .ok (.goto (-51), 3) := by decide +kernel
theorem d_Root_isLike_56 : decode b_Root_isLike 56 = .ok (.iconst 1, 1) := by decide +kernel
theorem d_Root_isLike_57 : decode b_Root_isLike 57 = .ok (.ireturn, 1) := by decide +kernel
abbrev b_Root_gatherFits : ByteArray := prog_1_method_72_code
abbrev y_Root_gatherFits : MethodName := ⟨"RiverTuesdays", "gatherFits", "(LRiverTuesdays$Row;)V"⟩
theorem ok_Root_gatherFits : okV y_Root_gatherFits b_Root_gatherFits 4 none 1 8 := ⟨mGW (List.mem_of_getElem? (i := 819) (by decide +kernel)) rfl, mGW (List.mem_of_getElem? (i := 17) (by decide +kernel)) rfl, mGW (List.mem_of_getElem? (i := 74) (by decide +kernel)) rfl, mGW (List.mem_of_getElem? (i := 820) (by decide +kernel)) rfl, ⟨by decide, by decide, by decide +kernel⟩, rfl⟩
theorem d_Root_gatherFits_0 : decode b_Root_gatherFits 0 = .ok (.aload_n 0, 1) := by decide +kernel
theorem d_Root_gatherFits_1 : decode b_Root_gatherFits 1 = .ok (.getfield 60, 3) := by decide +kernel
theorem d_Root_gatherFits_4 : decode b_Root_gatherFits 4 = .ok (.iconst 0, 1) := by decide +kernel
theorem d_Root_gatherFits_5 : decode b_Root_gatherFits 5 = .ok (.putfield 322, 3) := by decide +kernel
theorem d_Root_gatherFits_8 : decode b_Root_gatherFits 8 = .ok (.aload_n 0, 1) := by decide +kernel
theorem d_Root_gatherFits_9 : decode b_Root_gatherFits 9 = .ok (.getfield 53, 3) := by decide +kernel
theorem d_Root_gatherFits_12 : decode b_Root_gatherFits 12 = .ok (.aload_n 0, 1) := by decide +kernel
theorem d_Root_gatherFits_13 : decode b_Root_gatherFits 13 = .ok (.getfield 24, 3) := by decide +kernel
theorem d_Root_gatherFits_16 : decode b_Root_gatherFits 16 = .ok (.getfield 168, 3) := by decide +kernel
theorem d_Root_gatherFits_19 : decode b_Root_gatherFits 19 = .ok (.invokevirtual 291, 3) := by decide +kernel
theorem d_Root_gatherFits_22 : decode b_Root_gatherFits 22 = .ok (.iconst 0, 1) := by decide +kernel
theorem d_Root_gatherFits_23 : decode b_Root_gatherFits 23 = .ok (.istore_n 2, 1) := by decide +kernel
theorem d_Root_gatherFits_24 : decode b_Root_gatherFits 24 = .ok (.iload_n 2, 1) := by decide +kernel
theorem d_Root_gatherFits_25 : decode b_Root_gatherFits 25 = .ok (.sipush 256, 3) := by decide +kernel
theorem d_Root_gatherFits_28 : decode b_Root_gatherFits 28 = .ok (.if_icmp .ge 55, 3) := by decide +kernel
theorem d_Root_gatherFits_31 : decode b_Root_gatherFits 31 = .ok (.iload_n 2, 1) := by decide +kernel
theorem d_Root_gatherFits_32 : decode b_Root_gatherFits 32 = .ok (.invokestatic 294, 3) := by decide +kernel
theorem d_Root_gatherFits_35 : decode b_Root_gatherFits 35 = .ok (.istore_n 3, 1) := by decide +kernel
theorem d_Root_gatherFits_36 : decode b_Root_gatherFits 36 = .ok (.aload_n 0, 1) := by decide +kernel
theorem d_Root_gatherFits_37 : decode b_Root_gatherFits 37 = .ok (.getfield 53, 3) := by decide +kernel
theorem d_Root_gatherFits_40 : decode b_Root_gatherFits 40 = .ok (.aload_n 0, 1) := by decide +kernel
theorem d_Root_gatherFits_41 : decode b_Root_gatherFits 41 = .ok (.getfield 24, 3) := by decide +kernel
theorem d_Root_gatherFits_44 : decode b_Root_gatherFits 44 = .ok (.getfield 146, 3) := by decide +kernel
theorem d_Root_gatherFits_47 : decode b_Root_gatherFits 47 = .ok (.iload_n 3, 1) := by decide +kernel
theorem d_Root_gatherFits_48 : decode b_Root_gatherFits 48 = .ok (.invokevirtual 297, 3) := by decide +kernel
theorem d_Root_gatherFits_51 : decode b_Root_gatherFits 51 = .ok (.aload_n 0, 1) := by decide +kernel
theorem d_Root_gatherFits_52 : decode b_Root_gatherFits 52 = .ok (.aload_n 1, 1) := by decide +kernel
theorem d_Root_gatherFits_53 : decode b_Root_gatherFits 53 = .ok (.invokevirtual 435, 3) := by decide +kernel
theorem d_Root_gatherFits_56 : decode b_Root_gatherFits 56 = .ok (.ifCond .eq 21, 3) := by decide +kernel
theorem d_Root_gatherFits_59 : decode b_Root_gatherFits 59 = .ok (.aload_n 0, 1) := by decide +kernel
theorem d_Root_gatherFits_60 : decode b_Root_gatherFits 60 = .ok (.getfield 60, 3) := by decide +kernel
theorem d_Root_gatherFits_63 : decode b_Root_gatherFits 63 = .ok (.iload_n 3, 1) := by decide +kernel
theorem d_Root_gatherFits_64 : decode b_Root_gatherFits 64 = .ok (.aload_n 0, 1) := by decide +kernel
theorem d_Root_gatherFits_65 : decode b_Root_gatherFits 65 = .ok (.getfield 53, 3) := by decide +kernel
theorem d_Root_gatherFits_68 : decode b_Root_gatherFits 68 = .ok (.getfield 268, 3) := by decide +kernel
theorem d_Root_gatherFits_71 : decode b_Root_gatherFits 71 = .ok (.bipush 8, 2) := by decide +kernel
theorem d_Root_gatherFits_73 : decode b_Root_gatherFits 73 = .ok (.aaload, 1) := by decide +kernel
theorem d_Root_gatherFits_74 : decode b_Root_gatherFits 74 = .ok (.invokevirtual 439, 3) := by decide +kernel
theorem d_Root_gatherFits_77 : decode b_Root_gatherFits 77 = .ok (.iinc 2 1, 3) := by decide +kernel
theorem d_Root_gatherFits_80 : decode b_Root_gatherFits 80 = .ok (.goto (-56), 3) := by decide +kernel
theorem d_Root_gatherFits_83 : decode b_Root_gatherFits 83 = .ok (.return_, 1) := by decide +kernel
abbrev b_Root_refusedMarks : ByteArray := prog_1_method_63_code
abbrev y_Root_refusedMarks : MethodName := ⟨"RiverTuesdays", "refusedMarks", "(I)I"⟩
theorem ok_Root_refusedMarks : okV y_Root_refusedMarks b_Root_refusedMarks 4 (some .int) 1 8 := ⟨mGW (List.mem_of_getElem? (i := 815) (by decide +kernel)) rfl, mGW (List.mem_of_getElem? (i := 16) (by decide +kernel)) rfl, mGW (List.mem_of_getElem? (i := 74) (by decide +kernel)) rfl, mGW (List.mem_of_getElem? (i := 816) (by decide +kernel)) rfl, ⟨by decide, by decide, by decide +kernel⟩, rfl⟩
theorem d_Root_refusedMarks_0 : decode b_Root_refusedMarks 0 = .ok (.iload_n 1, 1) := by decide +kernel
theorem d_Root_refusedMarks_1 : decode b_Root_refusedMarks 1 = .ok (.invokestatic 80, 3) := by decide +kernel
theorem d_Root_refusedMarks_4 : decode b_Root_refusedMarks 4 = .ok (.ifCond .ne 5, 3) := by decide +kernel
theorem d_Root_refusedMarks_7 : decode b_Root_refusedMarks 7 = .ok (.iconst (-1), 1) := by decide +kernel
theorem d_Root_refusedMarks_8 : decode b_Root_refusedMarks 8 = .ok (.ireturn, 1) := by decide +kernel
theorem d_Root_refusedMarks_9 : decode b_Root_refusedMarks 9 = .ok (.aload_n 0, 1) := by decide +kernel
theorem d_Root_refusedMarks_10 : decode b_Root_refusedMarks 10 = .ok (.invokevirtual 190, 3) := by decide +kernel
theorem d_Root_refusedMarks_13 : decode b_Root_refusedMarks 13 = .ok (.ifCond .ne 6, 3) := by decide +kernel
theorem d_Root_refusedMarks_16 : decode b_Root_refusedMarks 16 = .ok (.bipush (-4), 2) := by decide +kernel
theorem d_Root_refusedMarks_18 : decode b_Root_refusedMarks 18 = .ok (.ireturn, 1) := by decide +kernel
theorem d_Root_refusedMarks_19 : decode b_Root_refusedMarks 19 = .ok (.aload_n 0, 1) := by decide +kernel
theorem d_Root_refusedMarks_20 : decode b_Root_refusedMarks 20 = .ok (.getfield 11, 3) := by decide +kernel
theorem d_Root_refusedMarks_23 : decode b_Root_refusedMarks 23 = .ok (.iload_n 1, 1) := by decide +kernel
theorem d_Root_refusedMarks_24 : decode b_Root_refusedMarks 24 = .ok (.aaload, 1) := by decide +kernel
theorem d_Root_refusedMarks_25 : decode b_Root_refusedMarks 25 = .ok (.invokevirtual 109, 3) := by decide +kernel
theorem d_Root_refusedMarks_28 : decode b_Root_refusedMarks 28 = .ok (.ifCond .ne 9, 3) := by decide +kernel
theorem d_Root_refusedMarks_31 : decode b_Root_refusedMarks 31 = .ok (.aload_n 0, 1) := by decide +kernel
theorem d_Root_refusedMarks_32 : decode b_Root_refusedMarks 32 = .ok (.iconst 1, 1) := by decide +kernel
theorem d_Root_refusedMarks_33 : decode b_Root_refusedMarks 33 = .ok (.invokevirtual 84, 3) := by decide +kernel
theorem d_Root_refusedMarks_36 : decode b_Root_refusedMarks 36 = .ok (.ireturn, 1) := by decide +kernel
theorem d_Root_refusedMarks_37 : decode b_Root_refusedMarks 37 = .ok (.aload_n 0, 1) := by decide +kernel
theorem d_Root_refusedMarks_38 : decode b_Root_refusedMarks 38 = .ok (.getfield 11, 3) := by decide +kernel
theorem d_Root_refusedMarks_41 : decode b_Root_refusedMarks 41 = .ok (.iload_n 1, 1) := by decide +kernel
theorem d_Root_refusedMarks_42 : decode b_Root_refusedMarks 42 = .ok (.aaload, 1) := by decide +kernel
theorem d_Root_refusedMarks_43 : decode b_Root_refusedMarks 43 = .ok (.getfield 105, 3) := by decide +kernel
theorem d_Root_refusedMarks_46 : decode b_Root_refusedMarks 46 = .ok (.aload_n 0, 1) := by decide +kernel
theorem d_Root_refusedMarks_47 : decode b_Root_refusedMarks 47 = .ok (.getfield 24, 3) := by decide +kernel
theorem d_Root_refusedMarks_50 : decode b_Root_refusedMarks 50 = .ok (.getfield 146, 3) := by decide +kernel
theorem d_Root_refusedMarks_53 : decode b_Root_refusedMarks 53 = .ok (.getfield 149, 3) := by decide +kernel
theorem d_Root_refusedMarks_56 : decode b_Root_refusedMarks 56 = .ok (.if_icmp .eq 9, 3) := by decide +kernel
theorem d_Root_refusedMarks_59 : decode b_Root_refusedMarks 59 = .ok (.aload_n 0, 1) := by decide +kernel
theorem d_Root_refusedMarks_60 : decode b_Root_refusedMarks 60 = .ok (.iconst 5, 1) := by decide +kernel
theorem d_Root_refusedMarks_61 : decode b_Root_refusedMarks 61 = .ok (.invokevirtual 84, 3) := by decide +kernel
theorem d_Root_refusedMarks_64 : decode b_Root_refusedMarks 64 = .ok (.ireturn, 1) := by decide +kernel
theorem d_Root_refusedMarks_65 : decode b_Root_refusedMarks 65 = .ok (.iconst 0, 1) := by decide +kernel
theorem d_Root_refusedMarks_66 : decode b_Root_refusedMarks 66 = .ok (.istore_n 2, 1) := by decide +kernel
theorem d_Root_refusedMarks_67 : decode b_Root_refusedMarks 67 = .ok (.iload_n 2, 1) := by decide +kernel
theorem d_Root_refusedMarks_68 : decode b_Root_refusedMarks 68 = .ok (.aload_n 0, 1) := by decide +kernel
theorem d_Root_refusedMarks_69 : decode b_Root_refusedMarks 69 = .ok (.getfield 11, 3) := by decide +kernel
theorem d_Root_refusedMarks_72 : decode b_Root_refusedMarks 72 = .ok (.iload_n 1, 1) := by decide +kernel
theorem d_Root_refusedMarks_73 : decode b_Root_refusedMarks 73 = .ok (.aaload, 1) := by decide +kernel
theorem d_Root_refusedMarks_74 : decode b_Root_refusedMarks 74 = .ok (.getfield 105, 3) := by decide +kernel
theorem d_Root_refusedMarks_77 : decode b_Root_refusedMarks 77 = .ok (.if_icmp .ge 44, 3) := by decide +kernel
theorem d_Root_refusedMarks_80 : decode b_Root_refusedMarks 80 = .ok (.aload_n 0, 1) := by decide +kernel
theorem d_Root_refusedMarks_81 : decode b_Root_refusedMarks 81 = .ok (.getfield 11, 3) := by decide +kernel
theorem d_Root_refusedMarks_84 : decode b_Root_refusedMarks 84 = .ok (.iload_n 1, 1) := by decide +kernel
theorem d_Root_refusedMarks_85 : decode b_Root_refusedMarks 85 = .ok (.aaload, 1) := by decide +kernel
theorem d_Root_refusedMarks_86 : decode b_Root_refusedMarks 86 = .ok (.getfield 96, 3) := by decide +kernel
theorem d_Root_refusedMarks_89 : decode b_Root_refusedMarks 89 = .ok (.iload_n 2, 1) := by decide +kernel
theorem d_Root_refusedMarks_90 : decode b_Root_refusedMarks 90 = .ok (.iaload, 1) := by decide +kernel
theorem d_Root_refusedMarks_91 : decode b_Root_refusedMarks 91 = .ok (.istore_n 3, 1) := by decide +kernel
theorem d_Root_refusedMarks_92 : decode b_Root_refusedMarks 92 = .ok (.iload_n 3, 1) := by decide +kernel
theorem d_Root_refusedMarks_93 : decode b_Root_refusedMarks 93 = .ok (.bipush (-9), 2) := by decide +kernel
theorem d_Root_refusedMarks_95 : decode b_Root_refusedMarks 95 = .ok (.if_icmp .eq 20, 3) := by decide +kernel
theorem d_Root_refusedMarks_98 : decode b_Root_refusedMarks 98 = .ok (.iload_n 3, 1) := by decide +kernel
theorem d_Root_refusedMarks_99 : decode b_Root_refusedMarks 99 = .ok (.iconst 0, 1) := by decide +kernel
theorem d_Root_refusedMarks_100 : decode b_Root_refusedMarks 100 = .ok (.sipush 999, 3) := by decide +kernel
theorem d_Root_refusedMarks_103 : decode b_Root_refusedMarks 103 = .ok (.invokestatic 155, 3) := by decide +kernel
theorem d_Root_refusedMarks_106 : decode b_Root_refusedMarks 106 = .ok (.ifCond .ne 9, 3) := by decide +kernel
theorem d_Root_refusedMarks_109 : decode b_Root_refusedMarks 109 = .ok (.aload_n 0, 1) := by decide +kernel
theorem d_Root_refusedMarks_110 : decode b_Root_refusedMarks 110 = .ok (.iconst 3, 1) := by decide +kernel
theorem d_Root_refusedMarks_111 : decode b_Root_refusedMarks 111 = .ok (.invokevirtual 84, 3) := by decide +kernel
theorem d_Root_refusedMarks_114 : decode b_Root_refusedMarks 114 = .ok (.ireturn, 1) := by decide +kernel
theorem d_Root_refusedMarks_115 : decode b_Root_refusedMarks 115 = .ok (.iinc 2 1, 3) := by decide +kernel
theorem d_Root_refusedMarks_118 : decode b_Root_refusedMarks 118 = .ok (.goto (-51), 3) := by decide +kernel
theorem d_Root_refusedMarks_121 : decode b_Root_refusedMarks 121 = .ok (.iconst 0, 1) := by decide +kernel
theorem d_Root_refusedMarks_122 : decode b_Root_refusedMarks 122 = .ok (.ireturn, 1) := by decide +kernel
abbrev b_Root_led : ByteArray := prog_1_method_35_code
abbrev y_Root_led : MethodName := ⟨"RiverTuesdays", "led", "(I)I"⟩
theorem ok_Root_led : okV y_Root_led b_Root_led 3 (some .int) 1 8 := ⟨mGW (List.mem_of_getElem? (i := 810) (by decide +kernel)) rfl, mGW (List.mem_of_getElem? (i := 811) (by decide +kernel)) rfl, mGW (List.mem_of_getElem? (i := 74) (by decide +kernel)) rfl, mGW (List.mem_of_getElem? (i := 812) (by decide +kernel)) rfl, ⟨by decide, by decide, by decide +kernel⟩, rfl⟩
theorem d_Root_led_0 : decode b_Root_led 0 = .ok (.aload_n 0, 1) := by decide +kernel
theorem d_Root_led_1 : decode b_Root_led 1 = .ok (.iload_n 1, 1) := by decide +kernel
theorem d_Root_led_2 : decode b_Root_led 2 = .ok (.invokevirtual 312, 3) := by decide +kernel
theorem d_Root_led_5 : decode b_Root_led 5 = .ok (.istore_n 2, 1) := by decide +kernel
theorem d_Root_led_6 : decode b_Root_led 6 = .ok (.iload_n 2, 1) := by decide +kernel
theorem d_Root_led_7 : decode b_Root_led 7 = .ok (.ifCond .eq 5, 3) := by decide +kernel
theorem d_Root_led_10 : decode b_Root_led 10 = .ok (.iload_n 2, 1) := by decide +kernel
theorem d_Root_led_11 : decode b_Root_led 11 = .ok (.ireturn, 1) := by decide +kernel
theorem d_Root_led_12 : decode b_Root_led 12 = .ok (.aload_n 0, 1) := by decide +kernel
theorem d_Root_led_13 : decode b_Root_led 13 = .ok (.aload_n 0, 1) := by decide +kernel
theorem d_Root_led_14 : decode b_Root_led 14 = .ok (.getfield 11, 3) := by decide +kernel
theorem d_Root_led_17 : decode b_Root_led 17 = .ok (.iload_n 1, 1) := by decide +kernel
theorem d_Root_led_18 : decode b_Root_led 18 = .ok (.aaload, 1) := by decide +kernel
theorem d_Root_led_19 : decode b_Root_led 19 = .ok (.invokevirtual 315, 3) := by decide +kernel
theorem d_Root_led_22 : decode b_Root_led 22 = .ok (.aload_n 0, 1) := by decide +kernel
theorem d_Root_led_23 : decode b_Root_led 23 = .ok (.aload_n 0, 1) := by decide +kernel
theorem d_Root_led_24 : decode b_Root_led 24 = .ok (.getfield 60, 3) := by decide +kernel
theorem d_Root_led_27 : decode b_Root_led 27 = .ok (.invokevirtual 319, 3) := by decide +kernel
theorem d_Root_led_30 : decode b_Root_led 30 = .ok (.aload_n 0, 1) := by decide +kernel
theorem d_Root_led_31 : decode b_Root_led 31 = .ok (.getfield 60, 3) := by decide +kernel
theorem d_Root_led_34 : decode b_Root_led 34 = .ok (.getfield 322, 3) := by decide +kernel
theorem d_Root_led_37 : decode b_Root_led 37 = .ok (.invokevirtual 99, 3) := by decide +kernel
theorem d_Root_led_40 : decode b_Root_led 40 = .ok (.ireturn, 1) := by decide +kernel
abbrev b_Root_sure : ByteArray := prog_1_method_36_code
abbrev y_Root_sure : MethodName := ⟨"RiverTuesdays", "sure", "(I)I"⟩
theorem ok_Root_sure : okV y_Root_sure b_Root_sure 3 (some .int) 1 8 := ⟨mGW (List.mem_of_getElem? (i := 836) (by decide +kernel)) rfl, mGW (List.mem_of_getElem? (i := 837) (by decide +kernel)) rfl, mGW (List.mem_of_getElem? (i := 74) (by decide +kernel)) rfl, mGW (List.mem_of_getElem? (i := 838) (by decide +kernel)) rfl, ⟨by decide, by decide, by decide +kernel⟩, rfl⟩
theorem d_Root_sure_0 : decode b_Root_sure 0 = .ok (.aload_n 0, 1) := by decide +kernel
theorem d_Root_sure_1 : decode b_Root_sure 1 = .ok (.iload_n 1, 1) := by decide +kernel
theorem d_Root_sure_2 : decode b_Root_sure 2 = .ok (.invokevirtual 312, 3) := by decide +kernel
theorem d_Root_sure_5 : decode b_Root_sure 5 = .ok (.istore_n 2, 1) := by decide +kernel
theorem d_Root_sure_6 : decode b_Root_sure 6 = .ok (.iload_n 2, 1) := by decide +kernel
theorem d_Root_sure_7 : decode b_Root_sure 7 = .ok (.ifCond .eq 5, 3) := by decide +kernel
theorem d_Root_sure_10 : decode b_Root_sure 10 = .ok (.iload_n 2, 1) := by decide +kernel
theorem d_Root_sure_11 : decode b_Root_sure 11 = .ok (.ireturn, 1) := by decide +kernel
theorem d_Root_sure_12 : decode b_Root_sure 12 = .ok (.aload_n 0, 1) := by decide +kernel
theorem d_Root_sure_13 : decode b_Root_sure 13 = .ok (.aload_n 0, 1) := by decide +kernel
theorem d_Root_sure_14 : decode b_Root_sure 14 = .ok (.getfield 11, 3) := by decide +kernel
theorem d_Root_sure_17 : decode b_Root_sure 17 = .ok (.iload_n 1, 1) := by decide +kernel
theorem d_Root_sure_18 : decode b_Root_sure 18 = .ok (.aaload, 1) := by decide +kernel
theorem d_Root_sure_19 : decode b_Root_sure 19 = .ok (.invokevirtual 315, 3) := by decide +kernel
theorem d_Root_sure_22 : decode b_Root_sure 22 = .ok (.aload_n 0, 1) := by decide +kernel
theorem d_Root_sure_23 : decode b_Root_sure 23 = .ok (.getfield 60, 3) := by decide +kernel
theorem d_Root_sure_26 : decode b_Root_sure 26 = .ok (.getfield 322, 3) := by decide +kernel
theorem d_Root_sure_29 : decode b_Root_sure 29 = .ok (.ifCond .ne 9, 3) := by decide +kernel
theorem d_Root_sure_32 : decode b_Root_sure 32 = .ok (.aload_n 0, 1) := by decide +kernel
theorem d_Root_sure_33 : decode b_Root_sure 33 = .ok (.iconst 4, 1) := by decide +kernel
theorem d_Root_sure_34 : decode b_Root_sure 34 = .ok (.invokevirtual 84, 3) := by decide +kernel
theorem d_Root_sure_37 : decode b_Root_sure 37 = .ok (.ireturn, 1) := by decide +kernel
theorem d_Root_sure_38 : decode b_Root_sure 38 = .ok (.aload_n 0, 1) := by decide +kernel
theorem d_Root_sure_39 : decode b_Root_sure 39 = .ok (.aload_n 0, 1) := by decide +kernel
theorem d_Root_sure_40 : decode b_Root_sure 40 = .ok (.getfield 60, 3) := by decide +kernel
theorem d_Root_sure_43 : decode b_Root_sure 43 = .ok (.invokevirtual 323, 3) := by decide +kernel
theorem d_Root_sure_46 : decode b_Root_sure 46 = .ok (.aload_n 0, 1) := by decide +kernel
theorem d_Root_sure_47 : decode b_Root_sure 47 = .ok (.getfield 60, 3) := by decide +kernel
theorem d_Root_sure_50 : decode b_Root_sure 50 = .ok (.invokevirtual 326, 3) := by decide +kernel
theorem d_Root_sure_53 : decode b_Root_sure 53 = .ok (.invokevirtual 99, 3) := by decide +kernel
theorem d_Root_sure_56 : decode b_Root_sure 56 = .ok (.ireturn, 1) := by decide +kernel
abbrev b_Root_look : ByteArray := prog_1_method_37_code
abbrev y_Root_look : MethodName := ⟨"RiverTuesdays", "look", "(I)I"⟩
theorem ok_Root_look : okV y_Root_look b_Root_look 7 (some .int) 1 8 := ⟨mGW (List.mem_of_getElem? (i := 848) (by decide +kernel)) rfl, mGW (List.mem_of_getElem? (i := 849) (by decide +kernel)) rfl, mGW (List.mem_of_getElem? (i := 74) (by decide +kernel)) rfl, mGW (List.mem_of_getElem? (i := 850) (by decide +kernel)) rfl, ⟨by decide, by decide, by decide +kernel⟩, rfl⟩
theorem d_Root_look_0 : decode b_Root_look 0 = .ok (.aload_n 0, 1) := by decide +kernel
theorem d_Root_look_1 : decode b_Root_look 1 = .ok (.iload_n 1, 1) := by decide +kernel
theorem d_Root_look_2 : decode b_Root_look 2 = .ok (.invokevirtual 312, 3) := by decide +kernel
theorem d_Root_look_5 : decode b_Root_look 5 = .ok (.istore_n 2, 1) := by decide +kernel
theorem d_Root_look_6 : decode b_Root_look 6 = .ok (.iload_n 2, 1) := by decide +kernel
theorem d_Root_look_7 : decode b_Root_look 7 = .ok (.ifCond .eq 5, 3) := by decide +kernel
theorem d_Root_look_10 : decode b_Root_look 10 = .ok (.iload_n 2, 1) := by decide +kernel
theorem d_Root_look_11 : decode b_Root_look 11 = .ok (.ireturn, 1) := by decide +kernel
theorem d_Root_look_12 : decode b_Root_look 12 = .ok (.aload_n 0, 1) := by decide +kernel
theorem d_Root_look_13 : decode b_Root_look 13 = .ok (.aload_n 0, 1) := by decide +kernel
theorem d_Root_look_14 : decode b_Root_look 14 = .ok (.getfield 11, 3) := by decide +kernel
theorem d_Root_look_17 : decode b_Root_look 17 = .ok (.iload_n 1, 1) := by decide +kernel
theorem d_Root_look_18 : decode b_Root_look 18 = .ok (.aaload, 1) := by decide +kernel
theorem d_Root_look_19 : decode b_Root_look 19 = .ok (.invokevirtual 315, 3) := by decide +kernel
theorem d_Root_look_22 : decode b_Root_look 22 = .ok (.aload_n 0, 1) := by decide +kernel
theorem d_Root_look_23 : decode b_Root_look 23 = .ok (.getfield 60, 3) := by decide +kernel
theorem d_Root_look_26 : decode b_Root_look 26 = .ok (.getfield 322, 3) := by decide +kernel
theorem d_Root_look_29 : decode b_Root_look 29 = .ok (.ifCond .ne 9, 3) := by decide +kernel
theorem d_Root_look_32 : decode b_Root_look 32 = .ok (.aload_n 0, 1) := by decide +kernel
theorem d_Root_look_33 : decode b_Root_look 33 = .ok (.iconst 4, 1) := by decide +kernel
theorem d_Root_look_34 : decode b_Root_look 34 = .ok (.invokevirtual 84, 3) := by decide +kernel
theorem d_Root_look_37 : decode b_Root_look 37 = .ok (.ireturn, 1) := by decide +kernel
theorem d_Root_look_38 : decode b_Root_look 38 = .ok (.bipush (-9), 2) := by decide +kernel
theorem d_Root_look_40 : decode b_Root_look 40 = .ok (.istore_n 3, 1) := by decide +kernel
theorem d_Root_look_41 : decode b_Root_look 41 = .ok (.sipush 257, 3) := by decide +kernel
theorem d_Root_look_44 : decode b_Root_look 44 = .ok (.istore 4, 2) := by decide +kernel
theorem d_Root_look_46 : decode b_Root_look 46 = .ok (.iconst 0, 1) := by decide +kernel
theorem d_Root_look_47 : decode b_Root_look 47 = .ok (.istore 5, 2) := by decide +kernel
theorem d_Root_look_49 : decode b_Root_look 49 = .ok (.iload 5, 2) := by decide +kernel
theorem d_Root_look_51 : decode b_Root_look 51 = .ok (.aload_n 0, 1) := by decide +kernel
theorem d_Root_look_52 : decode b_Root_look 52 = .ok (.getfield 24, 3) := by decide +kernel
theorem d_Root_look_55 : decode b_Root_look 55 = .ok (.getfield 146, 3) := by decide +kernel
theorem d_Root_look_58 : decode b_Root_look 58 = .ok (.getfield 149, 3) := by decide +kernel
theorem d_Root_look_61 : decode b_Root_look 61 = .ok (.if_icmp .ge 57, 3) := by decide +kernel
theorem d_Root_look_64 : decode b_Root_look 64 = .ok (.aload_n 0, 1) := by decide +kernel
theorem d_Root_look_65 : decode b_Root_look 65 = .ok (.getfield 11, 3) := by decide +kernel
theorem d_Root_look_68 : decode b_Root_look 68 = .ok (.iload_n 1, 1) := by decide +kernel
theorem d_Root_look_69 : decode b_Root_look 69 = .ok (.aaload, 1) := by decide +kernel
theorem d_Root_look_70 : decode b_Root_look 70 = .ok (.getfield 96, 3) := by decide +kernel
theorem d_Root_look_73 : decode b_Root_look 73 = .ok (.iload 5, 2) := by decide +kernel
theorem d_Root_look_75 : decode b_Root_look 75 = .ok (.iaload, 1) := by decide +kernel
theorem d_Root_look_76 : decode b_Root_look 76 = .ok (.bipush (-9), 2) := by decide +kernel
theorem d_Root_look_78 : decode b_Root_look 78 = .ok (.if_icmp .ne 15, 3) := by decide +kernel
theorem d_Root_look_81 : decode b_Root_look 81 = .ok (.aload_n 0, 1) := by decide +kernel
theorem d_Root_look_82 : decode b_Root_look 82 = .ok (.getfield 60, 3) := by decide +kernel
theorem d_Root_look_85 : decode b_Root_look 85 = .ok (.iload 5, 2) := by decide +kernel
theorem d_Root_look_87 : decode b_Root_look 87 = .ok (.invokevirtual 329, 3) := by decide +kernel
theorem d_Root_look_90 : decode b_Root_look 90 = .ok (.goto 6, 3) := by decide +kernel
theorem d_Root_look_93 : decode b_Root_look 93 = .ok (.sipush 257, 3) := by decide +kernel
theorem d_Root_look_96 : decode b_Root_look 96 = .ok (.istore 6, 2) := by decide +kernel
theorem d_Root_look_98 : decode b_Root_look 98 = .ok (.iload 6, 2) := by decide +kernel
theorem d_Root_look_100 : decode b_Root_look 100 = .ok (.iload 4, 2) := by decide +kernel
theorem d_Root_look_102 : decode b_Root_look 102 = .ok (.if_icmp .ge 10, 3) := by decide +kernel
theorem d_Root_look_105 : decode b_Root_look 105 = .ok (.iload 5, 2) := by decide +kernel
theorem d_Root_look_107 : decode b_Root_look 107 = .ok (.istore_n 3, 1) := by decide +kernel
theorem d_Root_look_108 : decode b_Root_look 108 = .ok (.iload 6, 2) := by decide +kernel
theorem d_Root_look_110 : decode b_Root_look 110 = .ok (.istore 4, 2) := by decide +kernel
theorem d_Root_look_112 : decode b_Root_look 112 = .ok (.iinc 5 1, 3) := by decide +kernel
theorem d_Root_look_115 : decode b_Root_look 115 = .ok (.goto (-66), 3) := by decide +kernel
theorem d_Root_look_118 : decode b_Root_look 118 = .ok (.iload_n 3, 1) := by decide +kernel
theorem d_Root_look_119 : decode b_Root_look 119 = .ok (.bipush (-9), 2) := by decide +kernel
theorem d_Root_look_121 : decode b_Root_look 121 = .ok (.if_icmp .ne 8, 3) := by decide +kernel
theorem d_Root_look_124 : decode b_Root_look 124 = .ok (.bipush (-9), 2) := by decide +kernel
theorem d_Root_look_126 : decode b_Root_look 126 = .ok (.goto 10, 3) := by decide +kernel
theorem d_Root_look_129 : decode b_Root_look 129 = .ok (.aload_n 0, 1) := by decide +kernel
theorem d_Root_look_130 : decode b_Root_look 130 = .ok (.iload 4, 2) := by decide +kernel
theorem d_Root_look_132 : decode b_Root_look 132 = .ok (.iload_n 3, 1) := by decide +kernel
theorem d_Root_look_133 : decode b_Root_look 133 = .ok (.invokevirtual 99, 3) := by decide +kernel
theorem d_Root_look_136 : decode b_Root_look 136 = .ok (.ireturn, 1) := by decide +kernel
abbrev b_Root_findRaises : ByteArray := prog_1_method_74_code
abbrev y_Root_findRaises : MethodName := ⟨"RiverTuesdays", "findRaises", "(I)I"⟩
theorem ok_Root_findRaises : okV y_Root_findRaises b_Root_findRaises 6 (some .int) 1 8 := ⟨mGW (List.mem_of_getElem? (i := 866) (by decide +kernel)) rfl, mGW (List.mem_of_getElem? (i := 20) (by decide +kernel)) rfl, mGW (List.mem_of_getElem? (i := 74) (by decide +kernel)) rfl, mGW (List.mem_of_getElem? (i := 867) (by decide +kernel)) rfl, ⟨by decide, by decide, by decide +kernel⟩, rfl⟩
theorem d_Root_findRaises_0 : decode b_Root_findRaises 0 = .ok (.aload_n 0, 1) := by decide +kernel
theorem d_Root_findRaises_1 : decode b_Root_findRaises 1 = .ok (.getfield 39, 3) := by decide +kernel
theorem d_Root_findRaises_4 : decode b_Root_findRaises 4 = .ok (.aload_n 0, 1) := by decide +kernel
theorem d_Root_findRaises_5 : decode b_Root_findRaises 5 = .ok (.getfield 24, 3) := by decide +kernel
theorem d_Root_findRaises_8 : decode b_Root_findRaises 8 = .ok (.getfield 146, 3) := by decide +kernel
theorem d_Root_findRaises_11 : decode b_Root_findRaises 11 = .ok (.invokevirtual 443, 3) := by decide +kernel
theorem d_Root_findRaises_14 : decode b_Root_findRaises 14 = .ok (.aload_n 0, 1) := by decide +kernel
theorem d_Root_findRaises_15 : decode b_Root_findRaises 15 = .ok (.getfield 24, 3) := by decide +kernel
theorem d_Root_findRaises_18 : decode b_Root_findRaises 18 = .ok (.getfield 168, 3) := by decide +kernel
theorem d_Root_findRaises_21 : decode b_Root_findRaises 21 = .ok (.getfield 171, 3) := by decide +kernel
theorem d_Root_findRaises_24 : decode b_Root_findRaises 24 = .ok (.iconst 0, 1) := by decide +kernel
theorem d_Root_findRaises_25 : decode b_Root_findRaises 25 = .ok (.aload_n 0, 1) := by decide +kernel
theorem d_Root_findRaises_26 : decode b_Root_findRaises 26 = .ok (.getfield 39, 3) := by decide +kernel
theorem d_Root_findRaises_29 : decode b_Root_findRaises 29 = .ok (.getfield 165, 3) := by decide +kernel
theorem d_Root_findRaises_32 : decode b_Root_findRaises 32 = .ok (.iconst 0, 1) := by decide +kernel
theorem d_Root_findRaises_33 : decode b_Root_findRaises 33 = .ok (.bipush 8, 2) := by decide +kernel
theorem d_Root_findRaises_35 : decode b_Root_findRaises 35 = .ok (.invokestatic 117, 3) := by decide +kernel
theorem d_Root_findRaises_38 : decode b_Root_findRaises 38 = .ok (.aload_n 0, 1) := by decide +kernel
theorem d_Root_findRaises_39 : decode b_Root_findRaises 39 = .ok (.getfield 53, 3) := by decide +kernel
theorem d_Root_findRaises_42 : decode b_Root_findRaises 42 = .ok (.aload_n 0, 1) := by decide +kernel
theorem d_Root_findRaises_43 : decode b_Root_findRaises 43 = .ok (.getfield 24, 3) := by decide +kernel
theorem d_Root_findRaises_46 : decode b_Root_findRaises 46 = .ok (.getfield 168, 3) := by decide +kernel
theorem d_Root_findRaises_49 : decode b_Root_findRaises 49 = .ok (.invokevirtual 291, 3) := by decide +kernel
theorem d_Root_findRaises_52 : decode b_Root_findRaises 52 = .ok (.aload_n 0, 1) := by decide +kernel
theorem d_Root_findRaises_53 : decode b_Root_findRaises 53 = .ok (.getfield 53, 3) := by decide +kernel
theorem d_Root_findRaises_56 : decode b_Root_findRaises 56 = .ok (.aload_n 0, 1) := by decide +kernel
theorem d_Root_findRaises_57 : decode b_Root_findRaises 57 = .ok (.getfield 39, 3) := by decide +kernel
theorem d_Root_findRaises_60 : decode b_Root_findRaises 60 = .ok (.iload_n 1, 1) := by decide +kernel
theorem d_Root_findRaises_61 : decode b_Root_findRaises 61 = .ok (.invokevirtual 297, 3) := by decide +kernel
theorem d_Root_findRaises_64 : decode b_Root_findRaises 64 = .ok (.iconst 0, 1) := by decide +kernel
theorem d_Root_findRaises_65 : decode b_Root_findRaises 65 = .ok (.istore_n 2, 1) := by decide +kernel
theorem d_Root_findRaises_66 : decode b_Root_findRaises 66 = .ok (.iconst 0, 1) := by decide +kernel
theorem d_Root_findRaises_67 : decode b_Root_findRaises 67 = .ok (.istore_n 3, 1) := by decide +kernel
theorem d_Root_findRaises_68 : decode b_Root_findRaises 68 = .ok (.iload_n 3, 1) := by decide +kernel
theorem d_Root_findRaises_69 : decode b_Root_findRaises 69 = .ok (.aload_n 0, 1) := by decide +kernel
theorem d_Root_findRaises_70 : decode b_Root_findRaises 70 = .ok (.getfield 24, 3) := by decide +kernel
theorem d_Root_findRaises_73 : decode b_Root_findRaises 73 = .ok (.getfield 146, 3) := by decide +kernel
theorem d_Root_findRaises_76 : decode b_Root_findRaises 76 = .ok (.getfield 149, 3) := by decide +kernel
theorem d_Root_findRaises_79 : decode b_Root_findRaises 79 = .ok (.if_icmp .ge 100, 3) := by decide +kernel
theorem d_Root_findRaises_82 : decode b_Root_findRaises 82 = .ok (.aload_n 0, 1) := by decide +kernel
theorem d_Root_findRaises_83 : decode b_Root_findRaises 83 = .ok (.getfield 24, 3) := by decide +kernel
theorem d_Root_findRaises_86 : decode b_Root_findRaises 86 = .ok (.getfield 146, 3) := by decide +kernel
theorem d_Root_findRaises_89 : decode b_Root_findRaises 89 = .ok (.getfield 165, 3) := by decide +kernel
theorem d_Root_findRaises_92 : decode b_Root_findRaises 92 = .ok (.iload_n 3, 1) := by decide +kernel
theorem d_Root_findRaises_93 : decode b_Root_findRaises 93 = .ok (.iaload, 1) := by decide +kernel
theorem d_Root_findRaises_94 : decode b_Root_findRaises 94 = .ok (.aload_n 0, 1) := by decide +kernel
theorem d_Root_findRaises_95 : decode b_Root_findRaises 95 = .ok (.getfield 24, 3) := by decide +kernel
theorem d_Root_findRaises_98 : decode b_Root_findRaises 98 = .ok (.getfield 168, 3) := by decide +kernel
theorem d_Root_findRaises_101 : decode b_Root_findRaises 101 = .ok (.getfield 171, 3) := by decide +kernel
theorem d_Root_findRaises_104 : decode b_Root_findRaises 104 = .ok (.iload_n 3, 1) := by decide +kernel
theorem d_Root_findRaises_105 : decode b_Root_findRaises 105 = .ok (.iaload, 1) := by decide +kernel
theorem d_Root_findRaises_106 : decode b_Root_findRaises 106 = .ok (.if_icmp .le 7, 3) := by decide +kernel
theorem d_Root_findRaises_109 : decode b_Root_findRaises 109 = .ok (.iconst 1, 1) := by decide +kernel
theorem d_Root_findRaises_110 : decode b_Root_findRaises 110 = .ok (.goto 4, 3) := by decide +kernel
theorem d_Root_findRaises_113 : decode b_Root_findRaises 113 = .ok (.iconst 0, 1) := by decide +kernel
theorem d_Root_findRaises_114 : decode b_Root_findRaises 114 = .ok (.istore 4, 2) := by decide +kernel
theorem d_Root_findRaises_116 : decode b_Root_findRaises 116 = .ok (.aload_n 0, 1) := by decide +kernel
theorem d_Root_findRaises_117 : decode b_Root_findRaises 117 = .ok (.getfield 53, 3) := by decide +kernel
theorem d_Root_findRaises_120 : decode b_Root_findRaises 120 = .ok (.getfield 268, 3) := by decide +kernel
theorem d_Root_findRaises_123 : decode b_Root_findRaises 123 = .ok (.bipush 8, 2) := by decide +kernel
theorem d_Root_findRaises_125 : decode b_Root_findRaises 125 = .ok (.aaload, 1) := by decide +kernel
theorem d_Root_findRaises_126 : decode b_Root_findRaises 126 = .ok (.iload_n 3, 1) := by decide +kernel
theorem d_Root_findRaises_127 : decode b_Root_findRaises 127 = .ok (.iaload, 1) := by decide +kernel
theorem d_Root_findRaises_128 : decode b_Root_findRaises 128 = .ok (.aload_n 0, 1) := by decide +kernel
theorem d_Root_findRaises_129 : decode b_Root_findRaises 129 = .ok (.getfield 24, 3) := by decide +kernel
theorem d_Root_findRaises_132 : decode b_Root_findRaises 132 = .ok (.getfield 146, 3) := by decide +kernel
theorem d_Root_findRaises_135 : decode b_Root_findRaises 135 = .ok (.getfield 187, 3) := by decide +kernel
theorem d_Root_findRaises_138 : decode b_Root_findRaises 138 = .ok (.iload_n 3, 1) := by decide +kernel
theorem d_Root_findRaises_139 : decode b_Root_findRaises 139 = .ok (.iaload, 1) := by decide +kernel
theorem d_Root_findRaises_140 : decode b_Root_findRaises 140 = .ok (.isub, 1) := by decide +kernel
theorem d_Root_findRaises_141 : decode b_Root_findRaises 141 = .ok (.iconst 0, 1) := by decide +kernel
theorem d_Root_findRaises_142 : decode b_Root_findRaises 142 = .ok (.invokestatic 262, 3) := by decide +kernel
theorem d_Root_findRaises_145 : decode b_Root_findRaises 145 = .ok (.istore 5, 2) := by decide +kernel
theorem d_Root_findRaises_147 : decode b_Root_findRaises 147 = .ok (.aload_n 0, 1) := by decide +kernel
theorem d_Root_findRaises_148 : decode b_Root_findRaises 148 = .ok (.getfield 71, 3) := by decide +kernel
theorem d_Root_findRaises_151 : decode b_Root_findRaises 151 = .ok (.iload_n 3, 1) := by decide +kernel
theorem d_Root_findRaises_152 : decode b_Root_findRaises 152 = .ok (.iload 4, 2) := by decide +kernel
theorem d_Root_findRaises_154 : decode b_Root_findRaises 154 = .ok (.ifCond .eq 8, 3) := by decide +kernel
theorem d_Root_findRaises_157 : decode b_Root_findRaises 157 = .ok (.iload 5, 2) := by decide +kernel
theorem d_Root_findRaises_159 : decode b_Root_findRaises 159 = .ok (.goto 4, 3) := by decide +kernel
theorem d_Root_findRaises_162 : decode b_Root_findRaises 162 = .ok (.iconst 0, 1) := by decide +kernel
theorem d_Root_findRaises_163 : decode b_Root_findRaises 163 = .ok (.iastore, 1) := by decide +kernel
theorem d_Root_findRaises_164 : decode b_Root_findRaises 164 = .ok (.iload_n 2, 1) := by decide +kernel
theorem d_Root_findRaises_165 : decode b_Root_findRaises 165 = .ok (.aload_n 0, 1) := by decide +kernel
theorem d_Root_findRaises_166 : decode b_Root_findRaises 166 = .ok (.getfield 71, 3) := by decide +kernel
theorem d_Root_findRaises_169 : decode b_Root_findRaises 169 = .ok (.iload_n 3, 1) := by decide +kernel
theorem d_Root_findRaises_170 : decode b_Root_findRaises 170 = .ok (.iaload, 1) := by decide +kernel
theorem d_Root_findRaises_171 : decode b_Root_findRaises 171 = .ok (.iadd, 1) := by decide +kernel
theorem d_Root_findRaises_172 : decode b_Root_findRaises 172 = .ok (.istore_n 2, 1) := by decide +kernel
theorem d_Root_findRaises_173 : decode b_Root_findRaises 173 = .ok (.iinc 3 1, 3) := by decide +kernel
theorem d_Root_findRaises_176 : decode b_Root_findRaises 176 = .ok (.goto (-108), 3) := by decide +kernel
theorem d_Root_findRaises_179 : decode b_Root_findRaises 179 = .ok (.iload_n 2, 1) := by decide +kernel
theorem d_Root_findRaises_180 : decode b_Root_findRaises 180 = .ok (.ireturn, 1) := by decide +kernel
abbrev b_Root_raise : ByteArray := prog_1_method_38_code
abbrev y_Root_raise : MethodName := ⟨"RiverTuesdays", "raise", "(II)I"⟩
theorem ok_Root_raise : okV y_Root_raise b_Root_raise 5 (some .int) 2 8 := ⟨mGW (List.mem_of_getElem? (i := 861) (by decide +kernel)) rfl, mGW (List.mem_of_getElem? (i := 862) (by decide +kernel)) rfl, mGW (List.mem_of_getElem? (i := 74) (by decide +kernel)) rfl, mGW (List.mem_of_getElem? (i := 863) (by decide +kernel)) rfl, ⟨by decide, by decide, by decide +kernel⟩, rfl⟩
theorem d_Root_raise_0 : decode b_Root_raise 0 = .ok (.iload_n 2, 1) := by decide +kernel
theorem d_Root_raise_1 : decode b_Root_raise 1 = .ok (.invokestatic 80, 3) := by decide +kernel
theorem d_Root_raise_4 : decode b_Root_raise 4 = .ok (.ifCond .ne 5, 3) := by decide +kernel
theorem d_Root_raise_7 : decode b_Root_raise 7 = .ok (.iconst (-1), 1) := by decide +kernel
theorem d_Root_raise_8 : decode b_Root_raise 8 = .ok (.ireturn, 1) := by decide +kernel
theorem d_Root_raise_9 : decode b_Root_raise 9 = .ok (.aload_n 0, 1) := by decide +kernel
theorem d_Root_raise_10 : decode b_Root_raise 10 = .ok (.iload_n 1, 1) := by decide +kernel
theorem d_Root_raise_11 : decode b_Root_raise 11 = .ok (.invokevirtual 225, 3) := by decide +kernel
theorem d_Root_raise_14 : decode b_Root_raise 14 = .ok (.istore_n 3, 1) := by decide +kernel
theorem d_Root_raise_15 : decode b_Root_raise 15 = .ok (.iload_n 3, 1) := by decide +kernel
theorem d_Root_raise_16 : decode b_Root_raise 16 = .ok (.ifCond .eq 5, 3) := by decide +kernel
theorem d_Root_raise_19 : decode b_Root_raise 19 = .ok (.iload_n 3, 1) := by decide +kernel
theorem d_Root_raise_20 : decode b_Root_raise 20 = .ok (.ireturn, 1) := by decide +kernel
theorem d_Root_raise_21 : decode b_Root_raise 21 = .ok (.aload_n 0, 1) := by decide +kernel
theorem d_Root_raise_22 : decode b_Root_raise 22 = .ok (.iload_n 1, 1) := by decide +kernel
theorem d_Root_raise_23 : decode b_Root_raise 23 = .ok (.invokevirtual 332, 3) := by decide +kernel
theorem d_Root_raise_26 : decode b_Root_raise 26 = .ok (.istore 4, 2) := by decide +kernel
theorem d_Root_raise_28 : decode b_Root_raise 28 = .ok (.iload 4, 2) := by decide +kernel
theorem d_Root_raise_30 : decode b_Root_raise 30 = .ok (.iconst 4, 1) := by decide +kernel
theorem d_Root_raise_31 : decode b_Root_raise 31 = .ok (.if_icmp .le 6, 3) := by decide +kernel
theorem d_Root_raise_34 : decode b_Root_raise 34 = .ok (.bipush (-9), 2) := by decide +kernel
theorem d_Root_raise_36 : decode b_Root_raise 36 = .ok (.ireturn, 1) := by decide +kernel
theorem d_Root_raise_37 : decode b_Root_raise 37 = .ok (.aload_n 0, 1) := by decide +kernel
theorem d_Root_raise_38 : decode b_Root_raise 38 = .ok (.getfield 11, 3) := by decide +kernel
theorem d_Root_raise_41 : decode b_Root_raise 41 = .ok (.iload_n 2, 1) := by decide +kernel
theorem d_Root_raise_42 : decode b_Root_raise 42 = .ok (.aaload, 1) := by decide +kernel
theorem d_Root_raise_43 : decode b_Root_raise 43 = .ok (.aload_n 0, 1) := by decide +kernel
theorem d_Root_raise_44 : decode b_Root_raise 44 = .ok (.getfield 71, 3) := by decide +kernel
theorem d_Root_raise_47 : decode b_Root_raise 47 = .ok (.aload_n 0, 1) := by decide +kernel
theorem d_Root_raise_48 : decode b_Root_raise 48 = .ok (.getfield 24, 3) := by decide +kernel
theorem d_Root_raise_51 : decode b_Root_raise 51 = .ok (.getfield 146, 3) := by decide +kernel
theorem d_Root_raise_54 : decode b_Root_raise 54 = .ok (.getfield 149, 3) := by decide +kernel
theorem d_Root_raise_57 : decode b_Root_raise 57 = .ok (.invokevirtual 272, 3) := by decide +kernel
theorem d_Root_raise_60 : decode b_Root_raise 60 = .ok (.iload 4, 2) := by decide +kernel
theorem d_Root_raise_62 : decode b_Root_raise 62 = .ok (.ireturn, 1) := by decide +kernel
abbrev b_Root_harmWithRaised : ByteArray := prog_1_method_75_code
abbrev y_Root_harmWithRaised : MethodName := ⟨"RiverTuesdays", "harmWithRaised", "(II)I"⟩
theorem ok_Root_harmWithRaised : okV y_Root_harmWithRaised b_Root_harmWithRaised 3 (some .int) 2 8 := ⟨mGW (List.mem_of_getElem? (i := 875) (by decide +kernel)) rfl, mGW (List.mem_of_getElem? (i := 21) (by decide +kernel)) rfl, mGW (List.mem_of_getElem? (i := 74) (by decide +kernel)) rfl, mGW (List.mem_of_getElem? (i := 876) (by decide +kernel)) rfl, ⟨by decide, by decide, by decide +kernel⟩, rfl⟩
theorem d_Root_harmWithRaised_0 : decode b_Root_harmWithRaised 0 = .ok (.aload_n 0, 1) := by decide +kernel
theorem d_Root_harmWithRaised_1 : decode b_Root_harmWithRaised 1 = .ok (.getfield 39, 3) := by decide +kernel
theorem d_Root_harmWithRaised_4 : decode b_Root_harmWithRaised 4 = .ok (.aload_n 0, 1) := by decide +kernel
theorem d_Root_harmWithRaised_5 : decode b_Root_harmWithRaised 5 = .ok (.getfield 24, 3) := by decide +kernel
theorem d_Root_harmWithRaised_8 : decode b_Root_harmWithRaised 8 = .ok (.getfield 146, 3) := by decide +kernel
theorem d_Root_harmWithRaised_11 : decode b_Root_harmWithRaised 11 = .ok (.invokevirtual 443, 3) := by decide +kernel
theorem d_Root_harmWithRaised_14 : decode b_Root_harmWithRaised 14 = .ok (.aload_n 0, 1) := by decide +kernel
theorem d_Root_harmWithRaised_15 : decode b_Root_harmWithRaised 15 = .ok (.getfield 39, 3) := by decide +kernel
theorem d_Root_harmWithRaised_18 : decode b_Root_harmWithRaised 18 = .ok (.getfield 187, 3) := by decide +kernel
theorem d_Root_harmWithRaised_21 : decode b_Root_harmWithRaised 21 = .ok (.iload_n 1, 1) := by decide +kernel
theorem d_Root_harmWithRaised_22 : decode b_Root_harmWithRaised 22 = .ok (.dup2, 1) := by decide +kernel
theorem d_Root_harmWithRaised_23 : decode b_Root_harmWithRaised 23 = .ok (.iaload, 1) := by decide +kernel
theorem d_Root_harmWithRaised_24 : decode b_Root_harmWithRaised 24 = .ok (.iconst 1, 1) := by decide +kernel
theorem d_Root_harmWithRaised_25 : decode b_Root_harmWithRaised 25 = .ok (.iadd, 1) := by decide +kernel
theorem d_Root_harmWithRaised_26 : decode b_Root_harmWithRaised 26 = .ok (.iastore, 1) := by decide +kernel
theorem d_Root_harmWithRaised_27 : decode b_Root_harmWithRaised 27 = .ok (.aload_n 0, 1) := by decide +kernel
theorem d_Root_harmWithRaised_28 : decode b_Root_harmWithRaised 28 = .ok (.getfield 53, 3) := by decide +kernel
theorem d_Root_harmWithRaised_31 : decode b_Root_harmWithRaised 31 = .ok (.aload_n 0, 1) := by decide +kernel
theorem d_Root_harmWithRaised_32 : decode b_Root_harmWithRaised 32 = .ok (.getfield 24, 3) := by decide +kernel
theorem d_Root_harmWithRaised_35 : decode b_Root_harmWithRaised 35 = .ok (.getfield 168, 3) := by decide +kernel
theorem d_Root_harmWithRaised_38 : decode b_Root_harmWithRaised 38 = .ok (.invokevirtual 291, 3) := by decide +kernel
theorem d_Root_harmWithRaised_41 : decode b_Root_harmWithRaised 41 = .ok (.aload_n 0, 1) := by decide +kernel
theorem d_Root_harmWithRaised_42 : decode b_Root_harmWithRaised 42 = .ok (.getfield 53, 3) := by decide +kernel
theorem d_Root_harmWithRaised_45 : decode b_Root_harmWithRaised 45 = .ok (.aload_n 0, 1) := by decide +kernel
theorem d_Root_harmWithRaised_46 : decode b_Root_harmWithRaised 46 = .ok (.getfield 39, 3) := by decide +kernel
theorem d_Root_harmWithRaised_49 : decode b_Root_harmWithRaised 49 = .ok (.iload_n 2, 1) := by decide +kernel
theorem d_Root_harmWithRaised_50 : decode b_Root_harmWithRaised 50 = .ok (.invokevirtual 297, 3) := by decide +kernel
theorem d_Root_harmWithRaised_53 : decode b_Root_harmWithRaised 53 = .ok (.aload_n 0, 1) := by decide +kernel
theorem d_Root_harmWithRaised_54 : decode b_Root_harmWithRaised 54 = .ok (.getfield 53, 3) := by decide +kernel
theorem d_Root_harmWithRaised_57 : decode b_Root_harmWithRaised 57 = .ok (.invokevirtual 234, 3) := by decide +kernel
theorem d_Root_harmWithRaised_60 : decode b_Root_harmWithRaised 60 = .ok (.ireturn, 1) := by decide +kernel
abbrev b_Root_whose : ByteArray := prog_1_method_39_code
abbrev y_Root_whose : MethodName := ⟨"RiverTuesdays", "whose", "(I)I"⟩
theorem ok_Root_whose : okV y_Root_whose b_Root_whose 7 (some .int) 1 8 := ⟨mGW (List.mem_of_getElem? (i := 870) (by decide +kernel)) rfl, mGW (List.mem_of_getElem? (i := 871) (by decide +kernel)) rfl, mGW (List.mem_of_getElem? (i := 74) (by decide +kernel)) rfl, mGW (List.mem_of_getElem? (i := 872) (by decide +kernel)) rfl, ⟨by decide, by decide, by decide +kernel⟩, rfl⟩
theorem d_Root_whose_0 : decode b_Root_whose 0 = .ok (.aload_n 0, 1) := by decide +kernel
theorem d_Root_whose_1 : decode b_Root_whose 1 = .ok (.iload_n 1, 1) := by decide +kernel
theorem d_Root_whose_2 : decode b_Root_whose 2 = .ok (.invokevirtual 225, 3) := by decide +kernel
theorem d_Root_whose_5 : decode b_Root_whose 5 = .ok (.istore_n 2, 1) := by decide +kernel
theorem d_Root_whose_6 : decode b_Root_whose 6 = .ok (.iload_n 2, 1) := by decide +kernel
theorem d_Root_whose_7 : decode b_Root_whose 7 = .ok (.ifCond .eq 5, 3) := by decide +kernel
theorem d_Root_whose_10 : decode b_Root_whose 10 = .ok (.iload_n 2, 1) := by decide +kernel
theorem d_Root_whose_11 : decode b_Root_whose 11 = .ok (.ireturn, 1) := by decide +kernel
theorem d_Root_whose_12 : decode b_Root_whose 12 = .ok (.iconst 0, 1) := by decide +kernel
theorem d_Root_whose_13 : decode b_Root_whose 13 = .ok (.istore_n 3, 1) := by decide +kernel
theorem d_Root_whose_14 : decode b_Root_whose 14 = .ok (.aload_n 0, 1) := by decide +kernel
theorem d_Root_whose_15 : decode b_Root_whose 15 = .ok (.iconst 0, 1) := by decide +kernel
theorem d_Root_whose_16 : decode b_Root_whose 16 = .ok (.iload_n 1, 1) := by decide +kernel
theorem d_Root_whose_17 : decode b_Root_whose 17 = .ok (.invokevirtual 335, 3) := by decide +kernel
theorem d_Root_whose_20 : decode b_Root_whose 20 = .ok (.istore 4, 2) := by decide +kernel
theorem d_Root_whose_22 : decode b_Root_whose 22 = .ok (.iconst 1, 1) := by decide +kernel
theorem d_Root_whose_23 : decode b_Root_whose 23 = .ok (.istore 5, 2) := by decide +kernel
theorem d_Root_whose_25 : decode b_Root_whose 25 = .ok (.iload 5, 2) := by decide +kernel
theorem d_Root_whose_27 : decode b_Root_whose 27 = .ok (.aload_n 0, 1) := by decide +kernel
theorem d_Root_whose_28 : decode b_Root_whose 28 = .ok (.getfield 24, 3) := by decide +kernel
theorem d_Root_whose_31 : decode b_Root_whose 31 = .ok (.getfield 146, 3) := by decide +kernel
theorem d_Root_whose_34 : decode b_Root_whose 34 = .ok (.getfield 149, 3) := by decide +kernel
theorem d_Root_whose_37 : decode b_Root_whose 37 = .ok (.if_icmp .ge 32, 3) := by decide +kernel
theorem d_Root_whose_40 : decode b_Root_whose 40 = .ok (.aload_n 0, 1) := by decide +kernel
theorem d_Root_whose_41 : decode b_Root_whose 41 = .ok (.iload 5, 2) := by decide +kernel
theorem d_Root_whose_43 : decode b_Root_whose 43 = .ok (.iload_n 1, 1) := by decide +kernel
theorem d_Root_whose_44 : decode b_Root_whose 44 = .ok (.invokevirtual 335, 3) := by decide +kernel
theorem d_Root_whose_47 : decode b_Root_whose 47 = .ok (.istore 6, 2) := by decide +kernel
theorem d_Root_whose_49 : decode b_Root_whose 49 = .ok (.iload 6, 2) := by decide +kernel
theorem d_Root_whose_51 : decode b_Root_whose 51 = .ok (.iload 4, 2) := by decide +kernel
theorem d_Root_whose_53 : decode b_Root_whose 53 = .ok (.if_icmp .ge 10, 3) := by decide +kernel
theorem d_Root_whose_56 : decode b_Root_whose 56 = .ok (.iload 5, 2) := by decide +kernel
theorem d_Root_whose_58 : decode b_Root_whose 58 = .ok (.istore_n 3, 1) := by decide +kernel
theorem d_Root_whose_59 : decode b_Root_whose 59 = .ok (.iload 6, 2) := by decide +kernel
theorem d_Root_whose_61 : decode b_Root_whose 61 = .ok (.istore 4, 2) := by decide +kernel
theorem d_Root_whose_63 : decode b_Root_whose 63 = .ok (.iinc 5 1, 3) := by decide +kernel
theorem d_Root_whose_66 : decode b_Root_whose 66 = .ok (.goto (-41), 3) := by decide +kernel
theorem d_Root_whose_69 : decode b_Root_whose 69 = .ok (.aload_n 0, 1) := by decide +kernel
theorem d_Root_whose_70 : decode b_Root_whose 70 = .ok (.iload 4, 2) := by decide +kernel
theorem d_Root_whose_72 : decode b_Root_whose 72 = .ok (.iload_n 3, 1) := by decide +kernel
theorem d_Root_whose_73 : decode b_Root_whose 73 = .ok (.invokevirtual 99, 3) := by decide +kernel
theorem d_Root_whose_76 : decode b_Root_whose 76 = .ok (.ireturn, 1) := by decide +kernel
abbrev b_Root_refusedJobs : ByteArray := prog_1_method_64_code
abbrev y_Root_refusedJobs : MethodName := ⟨"RiverTuesdays", "refusedJobs", "(II)I"⟩
theorem ok_Root_refusedJobs : okV y_Root_refusedJobs b_Root_refusedJobs 4 (some .int) 2 8 := ⟨mGW (List.mem_of_getElem? (i := 883) (by decide +kernel)) rfl, mGW (List.mem_of_getElem? (i := 22) (by decide +kernel)) rfl, mGW (List.mem_of_getElem? (i := 74) (by decide +kernel)) rfl, mGW (List.mem_of_getElem? (i := 884) (by decide +kernel)) rfl, ⟨by decide, by decide, by decide +kernel⟩, rfl⟩
theorem d_Root_refusedJobs_0 : decode b_Root_refusedJobs 0 = .ok (.iload_n 1, 1) := by decide +kernel
theorem d_Root_refusedJobs_1 : decode b_Root_refusedJobs 1 = .ok (.invokestatic 80, 3) := by decide +kernel
theorem d_Root_refusedJobs_4 : decode b_Root_refusedJobs 4 = .ok (.ifCond .eq 10, 3) := by decide +kernel
theorem d_Root_refusedJobs_7 : decode b_Root_refusedJobs 7 = .ok (.iload_n 2, 1) := by decide +kernel
theorem d_Root_refusedJobs_8 : decode b_Root_refusedJobs 8 = .ok (.invokestatic 80, 3) := by decide +kernel
theorem d_Root_refusedJobs_11 : decode b_Root_refusedJobs 11 = .ok (.ifCond .ne 5, 3) := by decide +kernel
theorem d_Root_refusedJobs_14 : decode b_Root_refusedJobs 14 = .ok (.iconst (-1), 1) := by decide +kernel
theorem d_Root_refusedJobs_15 : decode b_Root_refusedJobs 15 = .ok (.ireturn, 1) := by decide +kernel
theorem d_Root_refusedJobs_16 : decode b_Root_refusedJobs 16 = .ok (.aload_n 0, 1) := by decide +kernel
theorem d_Root_refusedJobs_17 : decode b_Root_refusedJobs 17 = .ok (.getfield 11, 3) := by decide +kernel
theorem d_Root_refusedJobs_20 : decode b_Root_refusedJobs 20 = .ok (.iload_n 1, 1) := by decide +kernel
theorem d_Root_refusedJobs_21 : decode b_Root_refusedJobs 21 = .ok (.aaload, 1) := by decide +kernel
theorem d_Root_refusedJobs_22 : decode b_Root_refusedJobs 22 = .ok (.invokevirtual 109, 3) := by decide +kernel
theorem d_Root_refusedJobs_25 : decode b_Root_refusedJobs 25 = .ok (.ifCond .eq 15, 3) := by decide +kernel
theorem d_Root_refusedJobs_28 : decode b_Root_refusedJobs 28 = .ok (.aload_n 0, 1) := by decide +kernel
theorem d_Root_refusedJobs_29 : decode b_Root_refusedJobs 29 = .ok (.getfield 11, 3) := by decide +kernel
theorem d_Root_refusedJobs_32 : decode b_Root_refusedJobs 32 = .ok (.iload_n 2, 1) := by decide +kernel
theorem d_Root_refusedJobs_33 : decode b_Root_refusedJobs 33 = .ok (.aaload, 1) := by decide +kernel
theorem d_Root_refusedJobs_34 : decode b_Root_refusedJobs 34 = .ok (.invokevirtual 109, 3) := by decide +kernel
theorem d_Root_refusedJobs_37 : decode b_Root_refusedJobs 37 = .ok (.ifCond .ne 9, 3) := by decide +kernel
theorem d_Root_refusedJobs_40 : decode b_Root_refusedJobs 40 = .ok (.aload_n 0, 1) := by decide +kernel
theorem d_Root_refusedJobs_41 : decode b_Root_refusedJobs 41 = .ok (.iconst 1, 1) := by decide +kernel
theorem d_Root_refusedJobs_42 : decode b_Root_refusedJobs 42 = .ok (.invokevirtual 84, 3) := by decide +kernel
theorem d_Root_refusedJobs_45 : decode b_Root_refusedJobs 45 = .ok (.ireturn, 1) := by decide +kernel
theorem d_Root_refusedJobs_46 : decode b_Root_refusedJobs 46 = .ok (.aload_n 0, 1) := by decide +kernel
theorem d_Root_refusedJobs_47 : decode b_Root_refusedJobs 47 = .ok (.getfield 11, 3) := by decide +kernel
theorem d_Root_refusedJobs_50 : decode b_Root_refusedJobs 50 = .ok (.iload_n 1, 1) := by decide +kernel
theorem d_Root_refusedJobs_51 : decode b_Root_refusedJobs 51 = .ok (.aaload, 1) := by decide +kernel
theorem d_Root_refusedJobs_52 : decode b_Root_refusedJobs 52 = .ok (.getfield 105, 3) := by decide +kernel
theorem d_Root_refusedJobs_55 : decode b_Root_refusedJobs 55 = .ok (.bipush 6, 2) := by decide +kernel
theorem d_Root_refusedJobs_57 : decode b_Root_refusedJobs 57 = .ok (.if_icmp .gt 24, 3) := by decide +kernel
theorem d_Root_refusedJobs_60 : decode b_Root_refusedJobs 60 = .ok (.aload_n 0, 1) := by decide +kernel
theorem d_Root_refusedJobs_61 : decode b_Root_refusedJobs 61 = .ok (.getfield 11, 3) := by decide +kernel
theorem d_Root_refusedJobs_64 : decode b_Root_refusedJobs 64 = .ok (.iload_n 1, 1) := by decide +kernel
theorem d_Root_refusedJobs_65 : decode b_Root_refusedJobs 65 = .ok (.aaload, 1) := by decide +kernel
theorem d_Root_refusedJobs_66 : decode b_Root_refusedJobs 66 = .ok (.getfield 105, 3) := by decide +kernel
theorem d_Root_refusedJobs_69 : decode b_Root_refusedJobs 69 = .ok (.aload_n 0, 1) := by decide +kernel
theorem d_Root_refusedJobs_70 : decode b_Root_refusedJobs 70 = .ok (.getfield 11, 3) := by decide +kernel
theorem d_Root_refusedJobs_73 : decode b_Root_refusedJobs 73 = .ok (.iload_n 2, 1) := by decide +kernel
theorem d_Root_refusedJobs_74 : decode b_Root_refusedJobs 74 = .ok (.aaload, 1) := by decide +kernel
theorem d_Root_refusedJobs_75 : decode b_Root_refusedJobs 75 = .ok (.getfield 105, 3) := by decide +kernel
theorem d_Root_refusedJobs_78 : decode b_Root_refusedJobs 78 = .ok (.if_icmp .eq 9, 3) := by decide +kernel
theorem d_Root_refusedJobs_81 : decode b_Root_refusedJobs 81 = .ok (.aload_n 0, 1) := by decide +kernel
theorem d_Root_refusedJobs_82 : decode b_Root_refusedJobs 82 = .ok (.iconst 5, 1) := by decide +kernel
theorem d_Root_refusedJobs_83 : decode b_Root_refusedJobs 83 = .ok (.invokevirtual 84, 3) := by decide +kernel
theorem d_Root_refusedJobs_86 : decode b_Root_refusedJobs 86 = .ok (.ireturn, 1) := by decide +kernel
theorem d_Root_refusedJobs_87 : decode b_Root_refusedJobs 87 = .ok (.aload_n 0, 1) := by decide +kernel
theorem d_Root_refusedJobs_88 : decode b_Root_refusedJobs 88 = .ok (.getfield 11, 3) := by decide +kernel
theorem d_Root_refusedJobs_91 : decode b_Root_refusedJobs 91 = .ok (.iload_n 1, 1) := by decide +kernel
theorem d_Root_refusedJobs_92 : decode b_Root_refusedJobs 92 = .ok (.aaload, 1) := by decide +kernel
theorem d_Root_refusedJobs_93 : decode b_Root_refusedJobs 93 = .ok (.iconst 1, 1) := by decide +kernel
theorem d_Root_refusedJobs_94 : decode b_Root_refusedJobs 94 = .ok (.bipush 24, 2) := by decide +kernel
theorem d_Root_refusedJobs_96 : decode b_Root_refusedJobs 96 = .ok (.invokevirtual 354, 3) := by decide +kernel
theorem d_Root_refusedJobs_99 : decode b_Root_refusedJobs 99 = .ok (.ifCond .eq 22, 3) := by decide +kernel
theorem d_Root_refusedJobs_102 : decode b_Root_refusedJobs 102 = .ok (.aload_n 0, 1) := by decide +kernel
theorem d_Root_refusedJobs_103 : decode b_Root_refusedJobs 103 = .ok (.getfield 11, 3) := by decide +kernel
theorem d_Root_refusedJobs_106 : decode b_Root_refusedJobs 106 = .ok (.iload_n 2, 1) := by decide +kernel
theorem d_Root_refusedJobs_107 : decode b_Root_refusedJobs 107 = .ok (.aaload, 1) := by decide +kernel
theorem d_Root_refusedJobs_108 : decode b_Root_refusedJobs 108 = .ok (.iconst 0, 1) := by decide +kernel
theorem d_Root_refusedJobs_109 : decode b_Root_refusedJobs 109 = .ok (.bipush 99, 2) := by decide +kernel
theorem d_Root_refusedJobs_111 : decode b_Root_refusedJobs 111 = .ok (.invokevirtual 354, 3) := by decide +kernel
theorem d_Root_refusedJobs_114 : decode b_Root_refusedJobs 114 = .ok (.ifCond .eq 7, 3) := by decide +kernel
theorem d_Root_refusedJobs_117 : decode b_Root_refusedJobs 117 = .ok (.iconst 1, 1) := by decide +kernel
theorem d_Root_refusedJobs_118 : decode b_Root_refusedJobs 118 = .ok (.goto 4, 3) := by decide +kernel
theorem d_Root_refusedJobs_121 : decode b_Root_refusedJobs 121 = .ok (.iconst 0, 1) := by decide +kernel
theorem d_Root_refusedJobs_122 : decode b_Root_refusedJobs 122 = .ok (.istore_n 3, 1) := by decide +kernel
theorem d_Root_refusedJobs_123 : decode b_Root_refusedJobs 123 = .ok (.iload_n 3, 1) := by decide +kernel
theorem d_Root_refusedJobs_124 : decode b_Root_refusedJobs 124 = .ok (.ifCond .eq 7, 3) := by decide +kernel
theorem d_Root_refusedJobs_127 : decode b_Root_refusedJobs 127 = .ok (.iconst 0, 1) := by decide +kernel
theorem d_Root_refusedJobs_128 : decode b_Root_refusedJobs 128 = .ok (.goto 8, 3) := by decide +kernel
theorem d_Root_refusedJobs_131 : decode b_Root_refusedJobs 131 = .ok (.aload_n 0, 1) := by decide +kernel
theorem d_Root_refusedJobs_132 : decode b_Root_refusedJobs 132 = .ok (.iconst 3, 1) := by decide +kernel
theorem d_Root_refusedJobs_133 : decode b_Root_refusedJobs 133 = .ok (.invokevirtual 84, 3) := by decide +kernel
theorem d_Root_refusedJobs_136 : decode b_Root_refusedJobs 136 = .ok (.ireturn, 1) := by decide +kernel
abbrev b_Root_work : ByteArray := prog_1_method_40_code
abbrev y_Root_work : MethodName := ⟨"RiverTuesdays", "work", "(III)I"⟩
theorem ok_Root_work : okV y_Root_work b_Root_work 6 (some .int) 3 8 := ⟨mGW (List.mem_of_getElem? (i := 878) (by decide +kernel)) rfl, mGW (List.mem_of_getElem? (i := 879) (by decide +kernel)) rfl, mGW (List.mem_of_getElem? (i := 74) (by decide +kernel)) rfl, mGW (List.mem_of_getElem? (i := 880) (by decide +kernel)) rfl, ⟨by decide, by decide, by decide +kernel⟩, rfl⟩
theorem d_Root_work_0 : decode b_Root_work 0 = .ok (.iload_n 3, 1) := by decide +kernel
theorem d_Root_work_1 : decode b_Root_work 1 = .ok (.invokestatic 80, 3) := by decide +kernel
theorem d_Root_work_4 : decode b_Root_work 4 = .ok (.ifCond .ne 5, 3) := by decide +kernel
theorem d_Root_work_7 : decode b_Root_work 7 = .ok (.iconst (-1), 1) := by decide +kernel
theorem d_Root_work_8 : decode b_Root_work 8 = .ok (.ireturn, 1) := by decide +kernel
theorem d_Root_work_9 : decode b_Root_work 9 = .ok (.aload_n 0, 1) := by decide +kernel
theorem d_Root_work_10 : decode b_Root_work 10 = .ok (.iload_n 1, 1) := by decide +kernel
theorem d_Root_work_11 : decode b_Root_work 11 = .ok (.iload_n 2, 1) := by decide +kernel
theorem d_Root_work_12 : decode b_Root_work 12 = .ok (.invokevirtual 338, 3) := by decide +kernel
theorem d_Root_work_15 : decode b_Root_work 15 = .ok (.istore 4, 2) := by decide +kernel
theorem d_Root_work_17 : decode b_Root_work 17 = .ok (.iload 4, 2) := by decide +kernel
theorem d_Root_work_19 : decode b_Root_work 19 = .ok (.ifCond .eq 6, 3) := by decide +kernel
theorem d_Root_work_22 : decode b_Root_work 22 = .ok (.iload 4, 2) := by decide +kernel
theorem d_Root_work_24 : decode b_Root_work 24 = .ok (.ireturn, 1) := by decide +kernel
theorem d_Root_work_25 : decode b_Root_work 25 = .ok (.aload_n 0, 1) := by decide +kernel
theorem d_Root_work_26 : decode b_Root_work 26 = .ok (.getfield 67, 3) := by decide +kernel
theorem d_Root_work_29 : decode b_Root_work 29 = .ok (.aload_n 0, 1) := by decide +kernel
theorem d_Root_work_30 : decode b_Root_work 30 = .ok (.getfield 11, 3) := by decide +kernel
theorem d_Root_work_33 : decode b_Root_work 33 = .ok (.iload_n 1, 1) := by decide +kernel
theorem d_Root_work_34 : decode b_Root_work 34 = .ok (.aaload, 1) := by decide +kernel
theorem d_Root_work_35 : decode b_Root_work 35 = .ok (.aload_n 0, 1) := by decide +kernel
theorem d_Root_work_36 : decode b_Root_work 36 = .ok (.getfield 11, 3) := by decide +kernel
theorem d_Root_work_39 : decode b_Root_work 39 = .ok (.iload_n 2, 1) := by decide +kernel
theorem d_Root_work_40 : decode b_Root_work 40 = .ok (.aaload, 1) := by decide +kernel
theorem d_Root_work_41 : decode b_Root_work 41 = .ok (.invokevirtual 341, 3) := by decide +kernel
theorem d_Root_work_44 : decode b_Root_work 44 = .ok (.aload_n 0, 1) := by decide +kernel
theorem d_Root_work_45 : decode b_Root_work 45 = .ok (.getfield 67, 3) := by decide +kernel
theorem d_Root_work_48 : decode b_Root_work 48 = .ok (.invokevirtual 344, 3) := by decide +kernel
theorem d_Root_work_51 : decode b_Root_work 51 = .ok (.istore 5, 2) := by decide +kernel
theorem d_Root_work_53 : decode b_Root_work 53 = .ok (.aload_n 0, 1) := by decide +kernel
theorem d_Root_work_54 : decode b_Root_work 54 = .ok (.getfield 11, 3) := by decide +kernel
theorem d_Root_work_57 : decode b_Root_work 57 = .ok (.iload_n 3, 1) := by decide +kernel
theorem d_Root_work_58 : decode b_Root_work 58 = .ok (.aaload, 1) := by decide +kernel
theorem d_Root_work_59 : decode b_Root_work 59 = .ok (.aload_n 0, 1) := by decide +kernel
theorem d_Root_work_60 : decode b_Root_work 60 = .ok (.getfield 67, 3) := by decide +kernel
theorem d_Root_work_63 : decode b_Root_work 63 = .ok (.getfield 347, 3) := by decide +kernel
theorem d_Root_work_66 : decode b_Root_work 66 = .ok (.aload_n 0, 1) := by decide +kernel
theorem d_Root_work_67 : decode b_Root_work 67 = .ok (.getfield 67, 3) := by decide +kernel
theorem d_Root_work_70 : decode b_Root_work 70 = .ok (.getfield 350, 3) := by decide +kernel
theorem d_Root_work_73 : decode b_Root_work 73 = .ok (.invokevirtual 272, 3) := by decide +kernel
theorem d_Root_work_76 : decode b_Root_work 76 = .ok (.iload 5, 2) := by decide +kernel
theorem d_Root_work_78 : decode b_Root_work 78 = .ok (.ireturn, 1) := by decide +kernel
abbrev b_Root_done : ByteArray := prog_1_method_41_code
abbrev y_Root_done : MethodName := ⟨"RiverTuesdays", "done", "(II)I"⟩
theorem ok_Root_done : okV y_Root_done b_Root_done 5 (some .int) 2 8 := ⟨mGW (List.mem_of_getElem? (i := 915) (by decide +kernel)) rfl, mGW (List.mem_of_getElem? (i := 916) (by decide +kernel)) rfl, mGW (List.mem_of_getElem? (i := 74) (by decide +kernel)) rfl, mGW (List.mem_of_getElem? (i := 917) (by decide +kernel)) rfl, ⟨by decide, by decide, by decide +kernel⟩, rfl⟩
theorem d_Root_done_0 : decode b_Root_done 0 = .ok (.aload_n 0, 1) := by decide +kernel
theorem d_Root_done_1 : decode b_Root_done 1 = .ok (.iload_n 1, 1) := by decide +kernel
theorem d_Root_done_2 : decode b_Root_done 2 = .ok (.iload_n 2, 1) := by decide +kernel
theorem d_Root_done_3 : decode b_Root_done 3 = .ok (.invokevirtual 338, 3) := by decide +kernel
theorem d_Root_done_6 : decode b_Root_done 6 = .ok (.istore_n 3, 1) := by decide +kernel
theorem d_Root_done_7 : decode b_Root_done 7 = .ok (.iload_n 3, 1) := by decide +kernel
theorem d_Root_done_8 : decode b_Root_done 8 = .ok (.ifCond .eq 5, 3) := by decide +kernel
theorem d_Root_done_11 : decode b_Root_done 11 = .ok (.iload_n 3, 1) := by decide +kernel
theorem d_Root_done_12 : decode b_Root_done 12 = .ok (.ireturn, 1) := by decide +kernel
theorem d_Root_done_13 : decode b_Root_done 13 = .ok (.aload_n 0, 1) := by decide +kernel
theorem d_Root_done_14 : decode b_Root_done 14 = .ok (.getfield 67, 3) := by decide +kernel
theorem d_Root_done_17 : decode b_Root_done 17 = .ok (.aload_n 0, 1) := by decide +kernel
theorem d_Root_done_18 : decode b_Root_done 18 = .ok (.getfield 11, 3) := by decide +kernel
theorem d_Root_done_21 : decode b_Root_done 21 = .ok (.iload_n 1, 1) := by decide +kernel
theorem d_Root_done_22 : decode b_Root_done 22 = .ok (.aaload, 1) := by decide +kernel
theorem d_Root_done_23 : decode b_Root_done 23 = .ok (.aload_n 0, 1) := by decide +kernel
theorem d_Root_done_24 : decode b_Root_done 24 = .ok (.getfield 11, 3) := by decide +kernel
theorem d_Root_done_27 : decode b_Root_done 27 = .ok (.iload_n 2, 1) := by decide +kernel
theorem d_Root_done_28 : decode b_Root_done 28 = .ok (.aaload, 1) := by decide +kernel
theorem d_Root_done_29 : decode b_Root_done 29 = .ok (.invokevirtual 341, 3) := by decide +kernel
theorem d_Root_done_32 : decode b_Root_done 32 = .ok (.aload_n 0, 1) := by decide +kernel
theorem d_Root_done_33 : decode b_Root_done 33 = .ok (.getfield 67, 3) := by decide +kernel
theorem d_Root_done_36 : decode b_Root_done 36 = .ok (.invokevirtual 351, 3) := by decide +kernel
theorem d_Root_done_39 : decode b_Root_done 39 = .ok (.istore 4, 2) := by decide +kernel
theorem d_Root_done_41 : decode b_Root_done 41 = .ok (.aload_n 0, 1) := by decide +kernel
theorem d_Root_done_42 : decode b_Root_done 42 = .ok (.iload 4, 2) := by decide +kernel
theorem d_Root_done_44 : decode b_Root_done 44 = .ok (.iload 4, 2) := by decide +kernel
theorem d_Root_done_46 : decode b_Root_done 46 = .ok (.invokestatic 240, 3) := by decide +kernel
theorem d_Root_done_49 : decode b_Root_done 49 = .ok (.invokevirtual 99, 3) := by decide +kernel
theorem d_Root_done_52 : decode b_Root_done 52 = .ok (.ireturn, 1) := by decide +kernel
abbrev b_Root_calendar : ByteArray := prog_1_method_42_code
abbrev y_Root_calendar : MethodName := ⟨"RiverTuesdays", "calendar", "(IIII)I"⟩
theorem ok_Root_calendar : okV y_Root_calendar b_Root_calendar 7 (some .int) 4 8 := ⟨mGW (List.mem_of_getElem? (i := 933) (by decide +kernel)) rfl, mGW (List.mem_of_getElem? (i := 934) (by decide +kernel)) rfl, mGW (List.mem_of_getElem? (i := 74) (by decide +kernel)) rfl, mGW (List.mem_of_getElem? (i := 935) (by decide +kernel)) rfl, ⟨by decide, by decide, by decide +kernel⟩, rfl⟩
theorem d_Root_calendar_0 : decode b_Root_calendar 0 = .ok (.iload_n 1, 1) := by decide +kernel
theorem d_Root_calendar_1 : decode b_Root_calendar 1 = .ok (.iconst 0, 1) := by decide +kernel
theorem d_Root_calendar_2 : decode b_Root_calendar 2 = .ok (.sipush 9999, 3) := by decide +kernel
theorem d_Root_calendar_5 : decode b_Root_calendar 5 = .ok (.invokestatic 155, 3) := by decide +kernel
theorem d_Root_calendar_8 : decode b_Root_calendar 8 = .ok (.ifCond .eq 32, 3) := by decide +kernel
theorem d_Root_calendar_11 : decode b_Root_calendar 11 = .ok (.iload_n 2, 1) := by decide +kernel
theorem d_Root_calendar_12 : decode b_Root_calendar 12 = .ok (.iconst 1, 1) := by decide +kernel
theorem d_Root_calendar_13 : decode b_Root_calendar 13 = .ok (.bipush 30, 2) := by decide +kernel
theorem d_Root_calendar_15 : decode b_Root_calendar 15 = .ok (.invokestatic 155, 3) := by decide +kernel
theorem d_Root_calendar_18 : decode b_Root_calendar 18 = .ok (.ifCond .eq 22, 3) := by decide +kernel
theorem d_Root_calendar_21 : decode b_Root_calendar 21 = .ok (.iload_n 3, 1) := by decide +kernel
theorem d_Root_calendar_22 : decode b_Root_calendar 22 = .ok (.invokestatic 80, 3) := by decide +kernel
theorem d_Root_calendar_25 : decode b_Root_calendar 25 = .ok (.ifCond .eq 15, 3) := by decide +kernel
theorem d_Root_calendar_28 : decode b_Root_calendar 28 = .ok (.iload 4, 2) := by decide +kernel
theorem d_Root_calendar_30 : decode b_Root_calendar 30 = .ok (.bipush (-9), 2) := by decide +kernel
theorem d_Root_calendar_32 : decode b_Root_calendar 32 = .ok (.bipush 9, 2) := by decide +kernel
theorem d_Root_calendar_34 : decode b_Root_calendar 34 = .ok (.invokestatic 155, 3) := by decide +kernel
theorem d_Root_calendar_37 : decode b_Root_calendar 37 = .ok (.ifCond .ne 5, 3) := by decide +kernel
theorem d_Root_calendar_40 : decode b_Root_calendar 40 = .ok (.iconst (-1), 1) := by decide +kernel
theorem d_Root_calendar_41 : decode b_Root_calendar 41 = .ok (.ireturn, 1) := by decide +kernel
theorem d_Root_calendar_42 : decode b_Root_calendar 42 = .ok (.aload_n 0, 1) := by decide +kernel
theorem d_Root_calendar_43 : decode b_Root_calendar 43 = .ok (.getfield 11, 3) := by decide +kernel
theorem d_Root_calendar_46 : decode b_Root_calendar 46 = .ok (.iload_n 3, 1) := by decide +kernel
theorem d_Root_calendar_47 : decode b_Root_calendar 47 = .ok (.aaload, 1) := by decide +kernel
theorem d_Root_calendar_48 : decode b_Root_calendar 48 = .ok (.invokevirtual 109, 3) := by decide +kernel
theorem d_Root_calendar_51 : decode b_Root_calendar 51 = .ok (.ifCond .ne 9, 3) := by decide +kernel
theorem d_Root_calendar_54 : decode b_Root_calendar 54 = .ok (.aload_n 0, 1) := by decide +kernel
theorem d_Root_calendar_55 : decode b_Root_calendar 55 = .ok (.iconst 1, 1) := by decide +kernel
theorem d_Root_calendar_56 : decode b_Root_calendar 56 = .ok (.invokevirtual 84, 3) := by decide +kernel
theorem d_Root_calendar_59 : decode b_Root_calendar 59 = .ok (.ireturn, 1) := by decide +kernel
theorem d_Root_calendar_60 : decode b_Root_calendar 60 = .ok (.aload_n 0, 1) := by decide +kernel
theorem d_Root_calendar_61 : decode b_Root_calendar 61 = .ok (.getfield 11, 3) := by decide +kernel
theorem d_Root_calendar_64 : decode b_Root_calendar 64 = .ok (.iload_n 3, 1) := by decide +kernel
theorem d_Root_calendar_65 : decode b_Root_calendar 65 = .ok (.aaload, 1) := by decide +kernel
theorem d_Root_calendar_66 : decode b_Root_calendar 66 = .ok (.iconst 0, 1) := by decide +kernel
theorem d_Root_calendar_67 : decode b_Root_calendar 67 = .ok (.iload_n 2, 1) := by decide +kernel
theorem d_Root_calendar_68 : decode b_Root_calendar 68 = .ok (.iconst 1, 1) := by decide +kernel
theorem d_Root_calendar_69 : decode b_Root_calendar 69 = .ok (.isub, 1) := by decide +kernel
theorem d_Root_calendar_70 : decode b_Root_calendar 70 = .ok (.invokevirtual 354, 3) := by decide +kernel
theorem d_Root_calendar_73 : decode b_Root_calendar 73 = .ok (.ifCond .ne 9, 3) := by decide +kernel
theorem d_Root_calendar_76 : decode b_Root_calendar 76 = .ok (.aload_n 0, 1) := by decide +kernel
theorem d_Root_calendar_77 : decode b_Root_calendar 77 = .ok (.iconst 3, 1) := by decide +kernel
theorem d_Root_calendar_78 : decode b_Root_calendar 78 = .ok (.invokevirtual 84, 3) := by decide +kernel
theorem d_Root_calendar_81 : decode b_Root_calendar 81 = .ok (.ireturn, 1) := by decide +kernel
theorem d_Root_calendar_82 : decode b_Root_calendar 82 = .ok (.iload_n 1, 1) := by decide +kernel
theorem d_Root_calendar_83 : decode b_Root_calendar 83 = .ok (.iload_n 2, 1) := by decide +kernel
theorem d_Root_calendar_84 : decode b_Root_calendar 84 = .ok (.idiv, 1) := by decide +kernel
theorem d_Root_calendar_85 : decode b_Root_calendar 85 = .ok (.iload 4, 2) := by decide +kernel
theorem d_Root_calendar_87 : decode b_Root_calendar 87 = .ok (.imul, 1) := by decide +kernel
theorem d_Root_calendar_88 : decode b_Root_calendar 88 = .ok (.iload_n 2, 1) := by decide +kernel
theorem d_Root_calendar_89 : decode b_Root_calendar 89 = .ok (.invokestatic 357, 3) := by decide +kernel
theorem d_Root_calendar_92 : decode b_Root_calendar 92 = .ok (.istore 5, 2) := by decide +kernel
theorem d_Root_calendar_94 : decode b_Root_calendar 94 = .ok (.iconst 0, 1) := by decide +kernel
theorem d_Root_calendar_95 : decode b_Root_calendar 95 = .ok (.istore 6, 2) := by decide +kernel
theorem d_Root_calendar_97 : decode b_Root_calendar 97 = .ok (.iload 6, 2) := by decide +kernel
theorem d_Root_calendar_99 : decode b_Root_calendar 99 = .ok (.aload_n 0, 1) := by decide +kernel
theorem d_Root_calendar_100 : decode b_Root_calendar 100 = .ok (.getfield 11, 3) := by decide +kernel
theorem d_Root_calendar_103 : decode b_Root_calendar 103 = .ok (.iload_n 3, 1) := by decide +kernel
theorem d_Root_calendar_104 : decode b_Root_calendar 104 = .ok (.aaload, 1) := by decide +kernel
theorem d_Root_calendar_105 : decode b_Root_calendar 105 = .ok (.getfield 105, 3) := by decide +kernel
theorem d_Root_calendar_108 : decode b_Root_calendar 108 = .ok (.if_icmp .ge 34, 3) := by decide +kernel
theorem d_Root_calendar_111 : decode b_Root_calendar 111 = .ok (.aload_n 0, 1) := by decide +kernel
theorem d_Root_calendar_112 : decode b_Root_calendar 112 = .ok (.getfield 11, 3) := by decide +kernel
theorem d_Root_calendar_115 : decode b_Root_calendar 115 = .ok (.iload_n 3, 1) := by decide +kernel
theorem d_Root_calendar_116 : decode b_Root_calendar 116 = .ok (.aaload, 1) := by decide +kernel
theorem d_Root_calendar_117 : decode b_Root_calendar 117 = .ok (.getfield 96, 3) := by decide +kernel
theorem d_Root_calendar_120 : decode b_Root_calendar 120 = .ok (.iload 6, 2) := by decide +kernel
theorem d_Root_calendar_122 : decode b_Root_calendar 122 = .ok (.iaload, 1) := by decide +kernel
theorem d_Root_calendar_123 : decode b_Root_calendar 123 = .ok (.iload 5, 2) := by decide +kernel
theorem d_Root_calendar_125 : decode b_Root_calendar 125 = .ok (.iadd, 1) := by decide +kernel
theorem d_Root_calendar_126 : decode b_Root_calendar 126 = .ok (.iload_n 2, 1) := by decide +kernel
theorem d_Root_calendar_127 : decode b_Root_calendar 127 = .ok (.irem, 1) := by decide +kernel
theorem d_Root_calendar_128 : decode b_Root_calendar 128 = .ok (.iload_n 1, 1) := by decide +kernel
theorem d_Root_calendar_129 : decode b_Root_calendar 129 = .ok (.iload_n 2, 1) := by decide +kernel
theorem d_Root_calendar_130 : decode b_Root_calendar 130 = .ok (.irem, 1) := by decide +kernel
theorem d_Root_calendar_131 : decode b_Root_calendar 131 = .ok (.if_icmp .ne 5, 3) := by decide +kernel
theorem d_Root_calendar_134 : decode b_Root_calendar 134 = .ok (.iconst 1, 1) := by decide +kernel
theorem d_Root_calendar_135 : decode b_Root_calendar 135 = .ok (.ireturn, 1) := by decide +kernel
theorem d_Root_calendar_136 : decode b_Root_calendar 136 = .ok (.iinc 6 1, 3) := by decide +kernel
theorem d_Root_calendar_139 : decode b_Root_calendar 139 = .ok (.goto (-42), 3) := by decide +kernel
theorem d_Root_calendar_142 : decode b_Root_calendar 142 = .ok (.iconst 0, 1) := by decide +kernel
theorem d_Root_calendar_143 : decode b_Root_calendar 143 = .ok (.ireturn, 1) := by decide +kernel
abbrev b_Root_countBits : ByteArray := prog_1_method_76_code
abbrev y_Root_countBits : MethodName := ⟨"RiverTuesdays", "countBits", "(I)V"⟩
theorem ok_Root_countBits : okV y_Root_countBits b_Root_countBits 3 none 1 8 := ⟨mGW (List.mem_of_getElem? (i := 954) (by decide +kernel)) rfl, mGW (List.mem_of_getElem? (i := 28) (by decide +kernel)) rfl, mGW (List.mem_of_getElem? (i := 74) (by decide +kernel)) rfl, mGW (List.mem_of_getElem? (i := 955) (by decide +kernel)) rfl, ⟨by decide, by decide, by decide +kernel⟩, rfl⟩
theorem d_Root_countBits_0 : decode b_Root_countBits 0 = .ok (.iconst 0, 1) := by decide +kernel
theorem d_Root_countBits_1 : decode b_Root_countBits 1 = .ok (.istore_n 2, 1) := by decide +kernel
theorem d_Root_countBits_2 : decode b_Root_countBits 2 = .ok (.iload_n 2, 1) := by decide +kernel
theorem d_Root_countBits_3 : decode b_Root_countBits 3 = .ok (.bipush 8, 2) := by decide +kernel
theorem d_Root_countBits_5 : decode b_Root_countBits 5 = .ok (.if_icmp .ge 27, 3) := by decide +kernel
theorem d_Root_countBits_8 : decode b_Root_countBits 8 = .ok (.iload_n 1, 1) := by decide +kernel
theorem d_Root_countBits_9 : decode b_Root_countBits 9 = .ok (.iload_n 2, 1) := by decide +kernel
theorem d_Root_countBits_10 : decode b_Root_countBits 10 = .ok (.invokestatic 248, 3) := by decide +kernel
theorem d_Root_countBits_13 : decode b_Root_countBits 13 = .ok (.ifCond .eq 13, 3) := by decide +kernel
theorem d_Root_countBits_16 : decode b_Root_countBits 16 = .ok (.aload_n 0, 1) := by decide +kernel
theorem d_Root_countBits_17 : decode b_Root_countBits 17 = .ok (.getfield 71, 3) := by decide +kernel
theorem d_Root_countBits_20 : decode b_Root_countBits 20 = .ok (.iload_n 2, 1) := by decide +kernel
theorem d_Root_countBits_21 : decode b_Root_countBits 21 = .ok (.dup2, 1) := by decide +kernel
theorem d_Root_countBits_22 : decode b_Root_countBits 22 = .ok (.iaload, 1) := by decide +kernel
theorem d_Root_countBits_23 : decode b_Root_countBits 23 = .ok (.iconst 1, 1) := by decide +kernel
theorem d_Root_countBits_24 : decode b_Root_countBits 24 = .ok (.iadd, 1) := by decide +kernel
theorem d_Root_countBits_25 : decode b_Root_countBits 25 = .ok (.iastore, 1) := by decide +kernel
theorem d_Root_countBits_26 : decode b_Root_countBits 26 = .ok (.iinc 2 1, 3) := by decide +kernel
theorem d_Root_countBits_29 : decode b_Root_countBits 29 = .ok (.goto (-27), 3) := by decide +kernel
theorem d_Root_countBits_32 : decode b_Root_countBits 32 = .ok (.return_, 1) := by decide +kernel
abbrev b_Root_mostOften : ByteArray := prog_1_method_77_code
abbrev y_Root_mostOften : MethodName := ⟨"RiverTuesdays", "mostOften", "()I"⟩
theorem ok_Root_mostOften : okV y_Root_mostOften b_Root_mostOften 4 (some .int) 0 8 := ⟨mGW (List.mem_of_getElem? (i := 958) (by decide +kernel)) rfl, mGW (List.mem_of_getElem? (i := 29) (by decide +kernel)) rfl, mGW (List.mem_of_getElem? (i := 74) (by decide +kernel)) rfl, mGW (List.mem_of_getElem? (i := 959) (by decide +kernel)) rfl, ⟨by decide, by decide, by decide +kernel⟩, rfl⟩
theorem d_Root_mostOften_0 : decode b_Root_mostOften 0 = .ok (.bipush (-9), 2) := by decide +kernel
theorem d_Root_mostOften_2 : decode b_Root_mostOften 2 = .ok (.istore_n 1, 1) := by decide +kernel
theorem d_Root_mostOften_3 : decode b_Root_mostOften 3 = .ok (.iconst 0, 1) := by decide +kernel
theorem d_Root_mostOften_4 : decode b_Root_mostOften 4 = .ok (.istore_n 2, 1) := by decide +kernel
theorem d_Root_mostOften_5 : decode b_Root_mostOften 5 = .ok (.iconst 0, 1) := by decide +kernel
theorem d_Root_mostOften_6 : decode b_Root_mostOften 6 = .ok (.istore_n 3, 1) := by decide +kernel
theorem d_Root_mostOften_7 : decode b_Root_mostOften 7 = .ok (.iload_n 3, 1) := by decide +kernel
theorem d_Root_mostOften_8 : decode b_Root_mostOften 8 = .ok (.bipush 8, 2) := by decide +kernel
theorem d_Root_mostOften_10 : decode b_Root_mostOften 10 = .ok (.if_icmp .ge 28, 3) := by decide +kernel
theorem d_Root_mostOften_13 : decode b_Root_mostOften 13 = .ok (.aload_n 0, 1) := by decide +kernel
theorem d_Root_mostOften_14 : decode b_Root_mostOften 14 = .ok (.getfield 71, 3) := by decide +kernel
theorem d_Root_mostOften_17 : decode b_Root_mostOften 17 = .ok (.iload_n 3, 1) := by decide +kernel
theorem d_Root_mostOften_18 : decode b_Root_mostOften 18 = .ok (.iaload, 1) := by decide +kernel
theorem d_Root_mostOften_19 : decode b_Root_mostOften 19 = .ok (.iload_n 2, 1) := by decide +kernel
theorem d_Root_mostOften_20 : decode b_Root_mostOften 20 = .ok (.if_icmp .le 12, 3) := by decide +kernel
theorem d_Root_mostOften_23 : decode b_Root_mostOften 23 = .ok (.iload_n 3, 1) := by decide +kernel
theorem d_Root_mostOften_24 : decode b_Root_mostOften 24 = .ok (.istore_n 1, 1) := by decide +kernel
theorem d_Root_mostOften_25 : decode b_Root_mostOften 25 = .ok (.aload_n 0, 1) := by decide +kernel
theorem d_Root_mostOften_26 : decode b_Root_mostOften 26 = .ok (.getfield 71, 3) := by decide +kernel
theorem d_Root_mostOften_29 : decode b_Root_mostOften 29 = .ok (.iload_n 3, 1) := by decide +kernel
theorem d_Root_mostOften_30 : decode b_Root_mostOften 30 = .ok (.iaload, 1) := by decide +kernel
theorem d_Root_mostOften_31 : decode b_Root_mostOften 31 = .ok (.istore_n 2, 1) := by decide +kernel
theorem d_Root_mostOften_32 : decode b_Root_mostOften 32 = .ok (.iinc 3 1, 3) := by decide +kernel
theorem d_Root_mostOften_35 : decode b_Root_mostOften 35 = .ok (.goto (-28), 3) := by decide +kernel
theorem d_Root_mostOften_38 : decode b_Root_mostOften 38 = .ok (.iload_n 1, 1) := by decide +kernel
theorem d_Root_mostOften_39 : decode b_Root_mostOften 39 = .ok (.ireturn, 1) := by decide +kernel
abbrev b_Root_years : ByteArray := prog_1_method_43_code
abbrev y_Root_years : MethodName := ⟨"RiverTuesdays", "years", "(II)I"⟩
theorem ok_Root_years : okV y_Root_years b_Root_years 7 (some .int) 2 8 := ⟨mGW (List.mem_of_getElem? (i := 940) (by decide +kernel)) rfl, mGW (List.mem_of_getElem? (i := 941) (by decide +kernel)) rfl, mGW (List.mem_of_getElem? (i := 74) (by decide +kernel)) rfl, mGW (List.mem_of_getElem? (i := 942) (by decide +kernel)) rfl, ⟨by decide, by decide, by decide +kernel⟩, rfl⟩
theorem d_Root_years_0 : decode b_Root_years 0 = .ok (.iload_n 1, 1) := by decide +kernel
theorem d_Root_years_1 : decode b_Root_years 1 = .ok (.iconst 1, 1) := by decide +kernel
theorem d_Root_years_2 : decode b_Root_years 2 = .ok (.bipush 40, 2) := by decide +kernel
theorem d_Root_years_4 : decode b_Root_years 4 = .ok (.invokestatic 155, 3) := by decide +kernel
theorem d_Root_years_7 : decode b_Root_years 7 = .ok (.ifCond .eq 14, 3) := by decide +kernel
theorem d_Root_years_10 : decode b_Root_years 10 = .ok (.iload_n 2, 1) := by decide +kernel
theorem d_Root_years_11 : decode b_Root_years 11 = .ok (.iconst 1, 1) := by decide +kernel
theorem d_Root_years_12 : decode b_Root_years 12 = .ok (.ldc_w 360, 3) := by decide +kernel
theorem d_Root_years_15 : decode b_Root_years 15 = .ok (.invokestatic 155, 3) := by decide +kernel
theorem d_Root_years_18 : decode b_Root_years 18 = .ok (.ifCond .ne 5, 3) := by decide +kernel
theorem d_Root_years_21 : decode b_Root_years 21 = .ok (.iconst (-1), 1) := by decide +kernel
theorem d_Root_years_22 : decode b_Root_years 22 = .ok (.ireturn, 1) := by decide +kernel
theorem d_Root_years_23 : decode b_Root_years 23 = .ok (.aload_n 0, 1) := by decide +kernel
theorem d_Root_years_24 : decode b_Root_years 24 = .ok (.invokevirtual 190, 3) := by decide +kernel
theorem d_Root_years_27 : decode b_Root_years 27 = .ok (.ifCond .ne 6, 3) := by decide +kernel
theorem d_Root_years_30 : decode b_Root_years 30 = .ok (.bipush (-4), 2) := by decide +kernel
theorem d_Root_years_32 : decode b_Root_years 32 = .ok (.ireturn, 1) := by decide +kernel
theorem d_Root_years_33 : decode b_Root_years 33 = .ok (.aload_n 0, 1) := by decide +kernel
theorem d_Root_years_34 : decode b_Root_years 34 = .ok (.getfield 71, 3) := by decide +kernel
theorem d_Root_years_37 : decode b_Root_years 37 = .ok (.iconst 0, 1) := by decide +kernel
theorem d_Root_years_38 : decode b_Root_years 38 = .ok (.invokestatic 361, 3) := by decide +kernel
theorem d_Root_years_41 : decode b_Root_years 41 = .ok (.aload_n 0, 1) := by decide +kernel
theorem d_Root_years_42 : decode b_Root_years 42 = .ok (.getfield 46, 3) := by decide +kernel
theorem d_Root_years_45 : decode b_Root_years 45 = .ok (.invokevirtual 366, 3) := by decide +kernel
theorem d_Root_years_48 : decode b_Root_years 48 = .ok (.iload_n 2, 1) := by decide +kernel
theorem d_Root_years_49 : decode b_Root_years 49 = .ok (.i2l, 1) := by decide +kernel
theorem d_Root_years_50 : decode b_Root_years 50 = .ok (.lstore_n 3, 1) := by decide +kernel
theorem d_Root_years_51 : decode b_Root_years 51 = .ok (.iconst 0, 1) := by decide +kernel
theorem d_Root_years_52 : decode b_Root_years 52 = .ok (.istore 5, 2) := by decide +kernel
theorem d_Root_years_54 : decode b_Root_years 54 = .ok (.iconst 0, 1) := by decide +kernel
theorem d_Root_years_55 : decode b_Root_years 55 = .ok (.istore 6, 2) := by decide +kernel
theorem d_Root_years_57 : decode b_Root_years 57 = .ok (.iload 6, 2) := by decide +kernel
theorem d_Root_years_59 : decode b_Root_years 59 = .ok (.iload_n 1, 1) := by decide +kernel
theorem d_Root_years_60 : decode b_Root_years 60 = .ok (.if_icmp .ge 100, 3) := by decide +kernel
theorem d_Root_years_63 : decode b_Root_years 63 = .ok (.lload_n 3, 1) := by decide +kernel
theorem d_Root_years_64 : decode b_Root_years 64 = .ok (.ldc2_w 368, 3) := by decide +kernel
theorem d_Root_years_67 : decode b_Root_years 67 = .ok (.lmul, 1) := by decide +kernel
theorem d_Root_years_68 : decode b_Root_years 68 = .ok (.ldc2_w 370, 3) := by decide +kernel
theorem d_Root_years_71 : decode b_Root_years 71 = .ok (.lrem, 1) := by decide +kernel
theorem d_Root_years_72 : decode b_Root_years 72 = .ok (.lstore_n 3, 1) := by decide +kernel
theorem d_Root_years_73 : decode b_Root_years 73 = .ok (.aload_n 0, 1) := by decide +kernel
theorem d_Root_years_74 : decode b_Root_years 74 = .ok (.getfield 46, 3) := by decide +kernel
theorem d_Root_years_77 : decode b_Root_years 77 = .ok (.invokevirtual 372, 3) := by decide +kernel
theorem d_Root_years_80 : decode b_Root_years 80 = .ok (.aload_n 0, 1) := by decide +kernel
theorem d_Root_years_81 : decode b_Root_years 81 = .ok (.getfield 53, 3) := by decide +kernel
theorem d_Root_years_84 : decode b_Root_years 84 = .ok (.aload_n 0, 1) := by decide +kernel
theorem d_Root_years_85 : decode b_Root_years 85 = .ok (.getfield 46, 3) := by decide +kernel
theorem d_Root_years_88 : decode b_Root_years 88 = .ok (.invokevirtual 291, 3) := by decide +kernel
theorem d_Root_years_91 : decode b_Root_years 91 = .ok (.aload_n 0, 1) := by decide +kernel
theorem d_Root_years_92 : decode b_Root_years 92 = .ok (.getfield 53, 3) := by decide +kernel
theorem d_Root_years_95 : decode b_Root_years 95 = .ok (.aload_n 0, 1) := by decide +kernel
theorem d_Root_years_96 : decode b_Root_years 96 = .ok (.getfield 24, 3) := by decide +kernel
theorem d_Root_years_99 : decode b_Root_years 99 = .ok (.getfield 146, 3) := by decide +kernel
theorem d_Root_years_102 : decode b_Root_years 102 = .ok (.lload_n 3, 1) := by decide +kernel
theorem d_Root_years_103 : decode b_Root_years 103 = .ok (.ldc2_w 375, 3) := by decide +kernel
theorem d_Root_years_106 : decode b_Root_years 106 = .ok (.lrem, 1) := by decide +kernel
theorem d_Root_years_107 : decode b_Root_years 107 = .ok (.l2i, 1) := by decide +kernel
theorem d_Root_years_108 : decode b_Root_years 108 = .ok (.invokevirtual 297, 3) := by decide +kernel
theorem d_Root_years_111 : decode b_Root_years 111 = .ok (.iload 5, 2) := by decide +kernel
theorem d_Root_years_113 : decode b_Root_years 113 = .ok (.aload_n 0, 1) := by decide +kernel
theorem d_Root_years_114 : decode b_Root_years 114 = .ok (.getfield 53, 3) := by decide +kernel
theorem d_Root_years_117 : decode b_Root_years 117 = .ok (.invokevirtual 234, 3) := by decide +kernel
theorem d_Root_years_120 : decode b_Root_years 120 = .ok (.iadd, 1) := by decide +kernel
theorem d_Root_years_121 : decode b_Root_years 121 = .ok (.istore 5, 2) := by decide +kernel
theorem d_Root_years_123 : decode b_Root_years 123 = .ok (.aload_n 0, 1) := by decide +kernel
theorem d_Root_years_124 : decode b_Root_years 124 = .ok (.aload_n 0, 1) := by decide +kernel
theorem d_Root_years_125 : decode b_Root_years 125 = .ok (.getfield 53, 3) := by decide +kernel
theorem d_Root_years_128 : decode b_Root_years 128 = .ok (.getfield 237, 3) := by decide +kernel
theorem d_Root_years_131 : decode b_Root_years 131 = .ok (.bipush 8, 2) := by decide +kernel
theorem d_Root_years_133 : decode b_Root_years 133 = .ok (.iaload, 1) := by decide +kernel
theorem d_Root_years_134 : decode b_Root_years 134 = .ok (.invokevirtual 377, 3) := by decide +kernel
theorem d_Root_years_137 : decode b_Root_years 137 = .ok (.aload_n 0, 1) := by decide +kernel
theorem d_Root_years_138 : decode b_Root_years 138 = .ok (.getfield 46, 3) := by decide +kernel
theorem d_Root_years_141 : decode b_Root_years 141 = .ok (.aload_n 0, 1) := by decide +kernel
theorem d_Root_years_142 : decode b_Root_years 142 = .ok (.getfield 53, 3) := by decide +kernel
theorem d_Root_years_145 : decode b_Root_years 145 = .ok (.getfield 281, 3) := by decide +kernel
theorem d_Root_years_148 : decode b_Root_years 148 = .ok (.bipush 8, 2) := by decide +kernel
theorem d_Root_years_150 : decode b_Root_years 150 = .ok (.aaload, 1) := by decide +kernel
theorem d_Root_years_151 : decode b_Root_years 151 = .ok (.invokevirtual 380, 3) := by decide +kernel
theorem d_Root_years_154 : decode b_Root_years 154 = .ok (.iinc 6 1, 3) := by decide +kernel
theorem d_Root_years_157 : decode b_Root_years 157 = .ok (.goto (-100), 3) := by decide +kernel
theorem d_Root_years_160 : decode b_Root_years 160 = .ok (.aload_n 0, 1) := by decide +kernel
theorem d_Root_years_161 : decode b_Root_years 161 = .ok (.aload_n 0, 1) := by decide +kernel
theorem d_Root_years_162 : decode b_Root_years 162 = .ok (.invokevirtual 382, 3) := by decide +kernel
theorem d_Root_years_165 : decode b_Root_years 165 = .ok (.iload 5, 2) := by decide +kernel
theorem d_Root_years_167 : decode b_Root_years 167 = .ok (.invokevirtual 99, 3) := by decide +kernel
theorem d_Root_years_170 : decode b_Root_years 170 = .ok (.ireturn, 1) := by decide +kernel
abbrev b_Root_asked : ByteArray := prog_1_method_44_code
abbrev y_Root_asked : MethodName := ⟨"RiverTuesdays", "asked", "()I"⟩
theorem ok_Root_asked : okV y_Root_asked b_Root_asked 1 (some .int) 0 8 := ⟨mGW (List.mem_of_getElem? (i := 961) (by decide +kernel)) rfl, mGW (List.mem_of_getElem? (i := 962) (by decide +kernel)) rfl, mGW (List.mem_of_getElem? (i := 74) (by decide +kernel)) rfl, mGW (List.mem_of_getElem? (i := 963) (by decide +kernel)) rfl, ⟨by decide, by decide, by decide +kernel⟩, rfl⟩
theorem d_Root_asked_0 : decode b_Root_asked 0 = .ok (.aload_n 0, 1) := by decide +kernel
theorem d_Root_asked_1 : decode b_Root_asked 1 = .ok (.getfield 385, 3) := by decide +kernel
theorem d_Root_asked_4 : decode b_Root_asked 4 = .ok (.ireturn, 1) := by decide +kernel
abbrev b_Root_standingDivisor : ByteArray := prog_1_method_78_code
abbrev y_Root_standingDivisor : MethodName := ⟨"RiverTuesdays", "standingDivisor", "()I"⟩
theorem ok_Root_standingDivisor : okV y_Root_standingDivisor b_Root_standingDivisor 5 (some .int) 0 8 := ⟨mGW (List.mem_of_getElem? (i := 974) (by decide +kernel)) rfl, mGW (List.mem_of_getElem? (i := 30) (by decide +kernel)) rfl, mGW (List.mem_of_getElem? (i := 74) (by decide +kernel)) rfl, mGW (List.mem_of_getElem? (i := 975) (by decide +kernel)) rfl, ⟨by decide, by decide, by decide +kernel⟩, rfl⟩
theorem d_Root_standingDivisor_0 : decode b_Root_standingDivisor 0 = .ok (.aload_n 0, 1) := by decide +kernel
theorem d_Root_standingDivisor_1 : decode b_Root_standingDivisor 1 = .ok (.getfield 24, 3) := by decide +kernel
theorem d_Root_standingDivisor_4 : decode b_Root_standingDivisor 4 = .ok (.getfield 168, 3) := by decide +kernel
theorem d_Root_standingDivisor_7 : decode b_Root_standingDivisor 7 = .ok (.getfield 218, 3) := by decide +kernel
theorem d_Root_standingDivisor_10 : decode b_Root_standingDivisor 10 = .ok (.istore_n 1, 1) := by decide +kernel
theorem d_Root_standingDivisor_11 : decode b_Root_standingDivisor 11 = .ok (.aload_n 0, 1) := by decide +kernel
theorem d_Root_standingDivisor_12 : decode b_Root_standingDivisor 12 = .ok (.getfield 24, 3) := by decide +kernel
theorem d_Root_standingDivisor_15 : decode b_Root_standingDivisor 15 = .ok (.getfield 168, 3) := by decide +kernel
theorem d_Root_standingDivisor_18 : decode b_Root_standingDivisor 18 = .ok (.invokevirtual 388, 3) := by decide +kernel
theorem d_Root_standingDivisor_21 : decode b_Root_standingDivisor 21 = .ok (.istore_n 2, 1) := by decide +kernel
theorem d_Root_standingDivisor_22 : decode b_Root_standingDivisor 22 = .ok (.iconst 0, 1) := by decide +kernel
theorem d_Root_standingDivisor_23 : decode b_Root_standingDivisor 23 = .ok (.istore_n 3, 1) := by decide +kernel
theorem d_Root_standingDivisor_24 : decode b_Root_standingDivisor 24 = .ok (.iload_n 3, 1) := by decide +kernel
theorem d_Root_standingDivisor_25 : decode b_Root_standingDivisor 25 = .ok (.bipush 64, 2) := by decide +kernel
theorem d_Root_standingDivisor_27 : decode b_Root_standingDivisor 27 = .ok (.if_icmp .ge 23, 3) := by decide +kernel
theorem d_Root_standingDivisor_30 : decode b_Root_standingDivisor 30 = .ok (.iload_n 2, 1) := by decide +kernel
theorem d_Root_standingDivisor_31 : decode b_Root_standingDivisor 31 = .ok (.ifCond .eq 19, 3) := by decide +kernel
theorem d_Root_standingDivisor_34 : decode b_Root_standingDivisor 34 = .ok (.iload_n 1, 1) := by decide +kernel
theorem d_Root_standingDivisor_35 : decode b_Root_standingDivisor 35 = .ok (.iload_n 2, 1) := by decide +kernel
theorem d_Root_standingDivisor_36 : decode b_Root_standingDivisor 36 = .ok (.irem, 1) := by decide +kernel
theorem d_Root_standingDivisor_37 : decode b_Root_standingDivisor 37 = .ok (.istore 4, 2) := by decide +kernel
theorem d_Root_standingDivisor_39 : decode b_Root_standingDivisor 39 = .ok (.iload_n 2, 1) := by decide +kernel
theorem d_Root_standingDivisor_40 : decode b_Root_standingDivisor 40 = .ok (.istore_n 1, 1) := by decide +kernel
theorem d_Root_standingDivisor_41 : decode b_Root_standingDivisor 41 = .ok (.iload 4, 2) := by decide +kernel
theorem d_Root_standingDivisor_43 : decode b_Root_standingDivisor 43 = .ok (.istore_n 2, 1) := by decide +kernel
theorem d_Root_standingDivisor_44 : decode b_Root_standingDivisor 44 = .ok (.iinc 3 1, 3) := by decide +kernel
theorem d_Root_standingDivisor_47 : decode b_Root_standingDivisor 47 = .ok (.goto (-23), 3) := by decide +kernel
theorem d_Root_standingDivisor_50 : decode b_Root_standingDivisor 50 = .ok (.iload_n 1, 1) := by decide +kernel
theorem d_Root_standingDivisor_51 : decode b_Root_standingDivisor 51 = .ok (.iconst 1, 1) := by decide +kernel
theorem d_Root_standingDivisor_52 : decode b_Root_standingDivisor 52 = .ok (.invokestatic 262, 3) := by decide +kernel
theorem d_Root_standingDivisor_55 : decode b_Root_standingDivisor 55 = .ok (.ireturn, 1) := by decide +kernel
def b_Root_mirrored_27 (k4 : Int32 → Int32 → Int32 → Dt → Option (Int32 × Dt)) (v0 : Int32) (v1 : Int32) (v2 : Int32) (D : Dt) : Option (Int32 × Dt) :=
  k4 v0 v1 (v2 + 1) D
set_option maxHeartbeats 4000000 in
theorem tb_Root_mirrored_27 {Γ : GmT} {G : Dt → Nat → List (Nat × Value) → List Value → Prop} {rr : Int32} {DD : Dt} (C : Cx Γ "RiverTuesdays" b_Root_mirrored 3 2 (some .int) (some (.int rr)) DD G) {k4 : Int32 → Int32 → Int32 → Dt → Option (Int32 × Dt)} (hk4 : ∀ (v0 : Int32) (v1 : Int32) (v2 : Int32) (D : Dt), k4 v0 v1 v2 D = some (rr, DD) → G D 4 [(0, .int v0), (1, .int v1), (2, .int v2)] []) {v0 : Int32} {v1 : Int32} {v2 : Int32} {D : Dt} (hf : b_Root_mirrored_27 k4 v0 v1 v2 D = some (rr, DD)) : G D 27 [(0, .int v0), (1, .int v1), (2, .int v2)] [] := by
  unfold b_Root_mirrored_27 at hf
  refine r_iinc (pc := 27) C (v := v2 + 1) (lv' := [(2, .int (v2 + 1)), (0, .int v0), (1, .int v1)]) 2 d_Root_mirrored_27 rfl rfl (Nat.le_of_ble_eq_true rfl) rfl ?_
  refine r_goto (pc := 30) C (tgt := 4) d_Root_mirrored_30 (by decide) ?_
  exact r_lv (pc := 4) C [1, 2, 0] rfl (hk4 v0 v1 (v2 + 1) D hf)
def s_Root_mirrored_4 (k4 : Int32 → Int32 → Int32 → Dt → Option (Int32 × Dt)) (v0 : Int32) (v1 : Int32) (v2 : Int32) (D : Dt) : Option (Int32 × Dt) :=
  (if 8 ≤ v2 then some (v1, D) else bnd (f_Root_hasBit v0 v2 D) (fun x1 D2 => (if x1 = 0 then b_Root_mirrored_27 k4 v0 v1 v2 D2 else nm (v1 ||| (1 <<< ((7 - v2) &&& 31))) (fun x3 => b_Root_mirrored_27 k4 v0 x3 v2 D2))))
def lp_Root_mirrored_4 (n : Nat) : Int32 → Int32 → Int32 → Dt → Option (Int32 × Dt) := itr (fun _ _ _ _ => none) (s_Root_mirrored_4) n
set_option maxHeartbeats 4000000 in
theorem ts_Root_mirrored_4 {Γ : GmT} {G : Dt → Nat → List (Nat × Value) → List Value → Prop} {rr : Int32} {DD : Dt} (C : Cx Γ "RiverTuesdays" b_Root_mirrored 3 2 (some .int) (some (.int rr)) DD G) {k4 : Int32 → Int32 → Int32 → Dt → Option (Int32 × Dt)} (hk4 : ∀ (v0 : Int32) (v1 : Int32) (v2 : Int32) (D : Dt), k4 v0 v1 v2 D = some (rr, DD) → G D 4 [(0, .int v0), (1, .int v1), (2, .int v2)] []) {v0 : Int32} {v1 : Int32} {v2 : Int32} {D : Dt} (hf : s_Root_mirrored_4 k4 v0 v1 v2 D = some (rr, DD)) : G D 4 [(0, .int v0), (1, .int v1), (2, .int v2)] [] := by
  unfold s_Root_mirrored_4 at hf
  refine r_iload_n (pc := 4) C 2 d_Root_mirrored_4 rfl rfl ?_
  refine r_bipush (pc := 5) C (v := 8) d_Root_mirrored_5 (by decide) ?_
  refine r_icmp_ge (pc := 7) C (tgt := 33) d_Root_mirrored_7 (by decide) hf (fun c7 hf => ?_) (fun c7 hf => ?_)
  · refine r_iload_n (pc := 33) C 1 d_Root_mirrored_33 rfl rfl ?_
    exact r_iret (pc := 34) C d_Root_mirrored_34 hf
  · refine r_iload_n (pc := 10) C 0 d_Root_mirrored_10 rfl rfl ?_
    refine r_iload_n (pc := 11) C 2 d_Root_mirrored_11 rfl rfl ?_
    refine r_callSi (pc := 12) (As := [.int v0, .int v2]) (rest := []) C ok_Root_hasBit Lm_Root_248 ⟨by decide, by decide⟩ rfl rfl (Nat.le_of_ble_eq_true rfl) d_Root_mirrored_12 hf (fun x D1 hc => c_Root_hasBit Γ hc) (fun x1 D2 hf => ?_)
    refine r_if_eq (pc := 15) C (tgt := 27) d_Root_mirrored_15 (by decide) hf (fun c15 hf => ?_) (fun c15 hf => ?_)
    · exact r_lv (pc := 27) C [0, 1, 2] rfl (tb_Root_mirrored_27 C hk4 hf)
    · refine r_iload_n (pc := 18) C 1 d_Root_mirrored_18 rfl rfl ?_
      refine r_iconst (pc := 19) C (v := 1) d_Root_mirrored_19 (by decide) ?_
      refine r_bipush (pc := 20) C (v := 7) d_Root_mirrored_20 (by decide) ?_
      refine r_iload_n (pc := 22) C 2 d_Root_mirrored_22 rfl rfl ?_
      refine r_isub (pc := 23) C d_Root_mirrored_23 ?_
      refine r_ishl (pc := 24) C d_Root_mirrored_24 ?_
      refine r_ior (pc := 25) C d_Root_mirrored_25 ?_
      refine r_nmi (pc := 26) hf (fun x3 hf => ?_)
      refine r_istore_n (pc := 26) (lv' := [(1, .int x3), (0, .int v0), (2, .int v2)]) C d_Root_mirrored_26 rfl (Nat.le_of_ble_eq_true rfl) rfl ?_
      exact r_lv (pc := 27) C [1, 0, 2] rfl (tb_Root_mirrored_27 C hk4 hf)
theorem tl_Root_mirrored_4 {Γ : GmT} {G : Dt → Nat → List (Nat × Value) → List Value → Prop} {rr : Int32} {DD : Dt} (C : Cx Γ "RiverTuesdays" b_Root_mirrored 3 2 (some .int) (some (.int rr)) DD G) : ∀ (n : Nat) (v0 : Int32) (v1 : Int32) (v2 : Int32) (D : Dt), lp_Root_mirrored_4 n v0 v1 v2 D = some (rr, DD) → G D 4 [(0, .int v0), (1, .int v1), (2, .int v2)] [] := by
  intro n
  induction n with
  | zero =>
    intro v0 v1 v2 D hf
    exact absurd (show (none : Option (Int32 × Dt)) = some (rr, DD) from hf) (by simp)
  | succ n ih =>
    intro v0 v1 v2 D hf
    exact ts_Root_mirrored_4 C (k4 := lp_Root_mirrored_4 n) ih hf
def f_Root_mirrored (v0 : Int32) (D : Dt) : Option (Int32 × Dt) :=
  lp_Root_mirrored_4 FU v0 0 0 D
set_option maxHeartbeats 4000000 in
theorem te_Root_mirrored {Γ : GmT} {G : Dt → Nat → List (Nat × Value) → List Value → Prop} {rr : Int32} {DD : Dt} (C : Cx Γ "RiverTuesdays" b_Root_mirrored 3 2 (some .int) (some (.int rr)) DD G) {v0 : Int32} {D : Dt} (hf : f_Root_mirrored v0 D = some (rr, DD)) : G D 0 [(0, .int v0)] [] := by
  unfold f_Root_mirrored at hf
  refine r_iconst (pc := 0) C (v := 0) d_Root_mirrored_0 (by decide) ?_
  refine r_istore_n (pc := 1) (lv' := [(1, .int 0), (0, .int v0)]) C d_Root_mirrored_1 rfl (Nat.le_of_ble_eq_true rfl) rfl ?_
  refine r_iconst (pc := 2) C (v := 0) d_Root_mirrored_2 (by decide) ?_
  refine r_istore_n (pc := 3) (lv' := [(2, .int 0), (1, .int 0), (0, .int v0)]) C d_Root_mirrored_3 rfl (Nat.le_of_ble_eq_true rfl) rfl ?_
  exact r_lv (pc := 4) C [2, 1, 0] rfl (tl_Root_mirrored_4 C FU v0 0 0 D hf)
theorem c_Root_mirrored (Γ : GmT) {v0 : Int32} {D : Dt} {rr : Int32} {DD : Dt} (hf : f_Root_mirrored v0 D = some (rr, DD)) : Mt Γ y_Root_mirrored b_Root_mirrored 3 (some .int) 2 [.int v0] D (some (.int rr)) DD := Mt_of (by decide) (Nat.le_of_ble_eq_true rfl) (fun G C => te_Root_mirrored C hf)
def f_Root_planOfRank (v0 : Int64) (D : Dt) : Option (Int32 × Dt) :=
  some ((v0 &&& 255).toInt32, D)
set_option maxHeartbeats 4000000 in
theorem te_Root_planOfRank {Γ : GmT} {G : Dt → Nat → List (Nat × Value) → List Value → Prop} {rr : Int32} {DD : Dt} (C : Cx Γ "RiverTuesdays" b_Root_planOfRank 2 1 (some .int) (some (.int rr)) DD G) {v0 : Int64} {D : Dt} (hf : f_Root_planOfRank v0 D = some (rr, DD)) : G D 0 [(0, .long v0)] [] := by
  unfold f_Root_planOfRank at hf
  refine r_lload_n (pc := 0) C 0 d_Root_planOfRank_0 rfl rfl ?_
  refine r_ldc2 (pc := 1) C Lc_Root_433 d_Root_planOfRank_1 ?_
  refine r_land (pc := 4) C d_Root_planOfRank_4 ?_
  refine r_l2i (pc := 5) C d_Root_planOfRank_5 ?_
  exact r_iret (pc := 6) C d_Root_planOfRank_6 hf
theorem c_Root_planOfRank (Γ : GmT) {v0 : Int64} {D : Dt} {rr : Int32} {DD : Dt} (hf : f_Root_planOfRank v0 D = some (rr, DD)) : Mt Γ y_Root_planOfRank b_Root_planOfRank 2 (some .int) 1 [.long v0] D (some (.int rr)) DD := Mt_of (by decide) (Nat.le_of_ble_eq_true rfl) (fun G C => te_Root_planOfRank C hf)
def f_Root_rank (v0 : Int32) (v1 : Int32) (v2 : Int32) (D : Dt) : Option (Int64 × Dt) :=
  some (((((v0.toInt64) * 100000) + (v1.toInt64)) * 256) + (v2.toInt64), D)
set_option maxHeartbeats 4000000 in
theorem te_Root_rank {Γ : GmT} {G : Dt → Nat → List (Nat × Value) → List Value → Prop} {rr : Int64} {DD : Dt} (C : Cx Γ "RiverTuesdays" b_Root_rank 3 1 (some .long) (some (.long rr)) DD G) {v0 : Int32} {v1 : Int32} {v2 : Int32} {D : Dt} (hf : f_Root_rank v0 v1 v2 D = some (rr, DD)) : G D 0 [(0, .int v0), (1, .int v1), (2, .int v2)] [] := by
  unfold f_Root_rank at hf
  refine r_iload_n (pc := 0) C 0 d_Root_rank_0 rfl rfl ?_
  refine r_i2l (pc := 1) C d_Root_rank_1 ?_
  refine r_ldc2 (pc := 2) C Lc_Root_431 d_Root_rank_2 ?_
  refine r_lmul (pc := 5) C d_Root_rank_5 ?_
  refine r_iload_n (pc := 6) C 1 d_Root_rank_6 rfl rfl ?_
  refine r_i2l (pc := 7) C d_Root_rank_7 ?_
  refine r_ladd (pc := 8) C d_Root_rank_8 ?_
  refine r_ldc2 (pc := 9) C Lc_Root_375 d_Root_rank_9 ?_
  refine r_lmul (pc := 12) C d_Root_rank_12 ?_
  refine r_iload_n (pc := 13) C 2 d_Root_rank_13 rfl rfl ?_
  refine r_i2l (pc := 14) C d_Root_rank_14 ?_
  refine r_ladd (pc := 15) C d_Root_rank_15 ?_
  exact r_lret (pc := 16) C d_Root_rank_16 hf
theorem c_Root_rank (Γ : GmT) {v0 : Int32} {v1 : Int32} {v2 : Int32} {D : Dt} {rr : Int64} {DD : Dt} (hf : f_Root_rank v0 v1 v2 D = some (rr, DD)) : Mt Γ y_Root_rank b_Root_rank 3 (some .long) 1 [.int v0, .int v1, .int v2] D (some (.long rr)) DD := Mt_of (by decide) (Nat.le_of_ble_eq_true rfl) (fun G C => te_Root_rank C hf)
def b_Root_most_108 (k43 : Int32 → Int64 → Int32 → Dt → Option (Int32 × Dt)) (v1 : Int32) (v2 : Int64) (v4 : Int32) (D : Dt) : Option (Int32 × Dt) :=
  k43 v1 v2 (v4 + 1) D
set_option maxHeartbeats 4000000 in
theorem tb_Root_most_108 {Γ : GmT} {G : Dt → Nat → List (Nat × Value) → List Value → Prop} {rr : Int32} {DD : Dt} (C : Cx Γ "RiverTuesdays" b_Root_most 6 6 (some .int) (some (.int rr)) DD G) {k43 : Int32 → Int64 → Int32 → Dt → Option (Int32 × Dt)} (hk43 : ∀ (v1 : Int32) (v2 : Int64) (v4 : Int32) (D : Dt), k43 v1 v2 v4 D = some (rr, DD) → G D 43 [(0, .ref (Γ.2.1 0)), (1, .int v1), (2, .long v2), (4, .int v4)] []) {v1 : Int32} {v2 : Int64} {v4 : Int32} {D : Dt} (hf : b_Root_most_108 k43 v1 v2 v4 D = some (rr, DD)) : G D 108 [(0, .ref (Γ.2.1 0)), (1, .int v1), (2, .long v2), (4, .int v4)] [] := by
  unfold b_Root_most_108 at hf
  refine r_iinc (pc := 108) C (v := v4 + 1) (lv' := [(4, .int (v4 + 1)), (0, .ref (Γ.2.1 0)), (1, .int v1), (2, .long v2)]) 3 d_Root_most_108 rfl rfl (Nat.le_of_ble_eq_true rfl) rfl ?_
  refine r_goto (pc := 111) C (tgt := 43) d_Root_most_111 (by decide) ?_
  exact r_lv (pc := 43) C [1, 2, 3, 0] rfl (hk43 v1 v2 (v4 + 1) D hf)
def s_Root_most_43 (k43 : Int32 → Int64 → Int32 → Dt → Option (Int32 × Dt)) (v1 : Int32) (v2 : Int64) (v4 : Int32) (D : Dt) : Option (Int32 × Dt) :=
  (if 256 ≤ v4 then bnd (f_Root_planOfRank v2 D) (fun x7 D8 => bnd (f_Tuesday_lead (3 + 1) x7 D8) (fun x9 D10 => bnd (f_Tuesday_grindings D10) (fun x11 D12 => bnd (f_Root_tell x11 x7 D12) (fun x13 D14 => some (x13, D14))))) else bnd (f_Root_mirrored v4 D) (fun x15 D16 => bnd (f_J_bitCount x15 D16) (fun x17 D18 => (if x17 = v1 then bnd (f_Tuesday_lead (3 + 1) x15 D18) (fun x19 D20 => bnd (f_Tuesday_grindings D20) (fun x21 D22 => bnd (f_Tuesday_harmDone D22) (fun x23 D24 => bnd (f_Root_rank (-x21) x23 x15 D24) (fun x25 D26 => b_Root_most_108 k43 v1 (lmin v2 x25) v4 D26)))) else b_Root_most_108 k43 v1 v2 v4 D18))))
def lp_Root_most_43 (n : Nat) : Int32 → Int64 → Int32 → Dt → Option (Int32 × Dt) := itr (fun _ _ _ _ => none) (s_Root_most_43) n
set_option maxHeartbeats 4000000 in
theorem ts_Root_most_43 {Γ : GmT} {G : Dt → Nat → List (Nat × Value) → List Value → Prop} {rr : Int32} {DD : Dt} (C : Cx Γ "RiverTuesdays" b_Root_most 6 6 (some .int) (some (.int rr)) DD G) {k43 : Int32 → Int64 → Int32 → Dt → Option (Int32 × Dt)} (hk43 : ∀ (v1 : Int32) (v2 : Int64) (v4 : Int32) (D : Dt), k43 v1 v2 v4 D = some (rr, DD) → G D 43 [(0, .ref (Γ.2.1 0)), (1, .int v1), (2, .long v2), (4, .int v4)] []) {v1 : Int32} {v2 : Int64} {v4 : Int32} {D : Dt} (hf : s_Root_most_43 k43 v1 v2 v4 D = some (rr, DD)) : G D 43 [(0, .ref (Γ.2.1 0)), (1, .int v1), (2, .long v2), (4, .int v4)] [] := by
  unfold s_Root_most_43 at hf
  refine r_iload (pc := 43) C 3 d_Root_most_43 rfl ?_
  refine r_sipush (pc := 45) C (v := 256) d_Root_most_45 (by decide) ?_
  refine r_icmp_ge (pc := 48) C (tgt := 114) d_Root_most_48 (by decide) hf (fun c48 hf => ?_) (fun c48 hf => ?_)
  · refine r_lload_n (pc := 114) C 2 d_Root_most_114 rfl rfl ?_
    refine r_callSi (pc := 115) (As := [.long v2]) (rest := []) C ok_Root_planOfRank Lm_Root_308 ⟨by decide, by decide⟩ rfl rfl (Nat.le_of_ble_eq_true rfl) d_Root_most_115 hf (fun x D1 hc => c_Root_planOfRank Γ hc) (fun x7 D8 hf => ?_)
    refine r_istore (pc := 118) (lv' := [(4, .int x7), (0, .ref (Γ.2.1 0)), (1, .int v1), (2, .long v2)]) C d_Root_most_118 (Nat.le_of_ble_eq_true rfl) rfl ?_
    refine r_aload_n (pc := 120) C 1 d_Root_most_120 rfl rfl ?_
    refine g_Root_today (pc := 121) C k_id0 Lf_Root_53 d_Root_most_121 ?_
    refine r_aload_n (pc := 124) C 1 d_Root_most_124 rfl rfl ?_
    refine g_Root_present (pc := 125) C k_id0 Lf_Root_24 d_Root_most_125 ?_
    refine g_Street_bed (pc := 128) C kq_Root_present Lf_Root_146 d_Root_most_128 ?_
    refine r_iload (pc := 131) C 0 d_Root_most_131 rfl ?_
    refine r_callVv (pc := 133) (As := [.ref (Γ.2.1 (3 + 1)), .int x7]) (rest := []) C ok_Tuesday_lead Lm_Root_297 kq_Root_today (by decide) ⟨by decide, by decide⟩ rfl rfl (Nat.le_of_ble_eq_true rfl) d_Root_most_133 hf (fun x D1 hc => c_Tuesday_lead Γ (kq_Street_bed kq_Root_present) hc) (fun x9 D10 hf => ?_)
    refine r_aload_n (pc := 136) C 1 d_Root_most_136 rfl rfl ?_
    refine r_aload_n (pc := 137) C 1 d_Root_most_137 rfl rfl ?_
    refine g_Root_today (pc := 138) C k_id0 Lf_Root_53 d_Root_most_138 ?_
    refine r_callVi (pc := 141) (As := []) (rest := [.ref (Γ.2.1 0)]) C ok_Tuesday_grindings Lm_Root_231 kq_Root_today (by decide) ⟨by decide, by decide⟩ rfl rfl (Nat.le_of_ble_eq_true rfl) d_Root_most_141 hf (fun x D1 hc => c_Tuesday_grindings Γ hc) (fun x11 D12 hf => ?_)
    refine r_iload (pc := 144) C 0 d_Root_most_144 rfl ?_
    refine r_callVi (pc := 146) (As := [.int x11, .int x7]) (rest := []) C ok_Root_tell Lm_Root_99 k_id0 (by decide) ⟨by decide, by decide⟩ rfl rfl (Nat.le_of_ble_eq_true rfl) d_Root_most_146 hf (fun x D1 hc => c_Root_tell Γ hc) (fun x13 D14 hf => ?_)
    exact r_iret (pc := 149) C d_Root_most_149 hf
  · refine r_iload (pc := 51) C 3 d_Root_most_51 rfl ?_
    refine r_callSi (pc := 53) (As := [.int v4]) (rest := []) C ok_Root_mirrored Lm_Root_294 ⟨by decide, by decide⟩ rfl rfl (Nat.le_of_ble_eq_true rfl) d_Root_most_53 hf (fun x D1 hc => c_Root_mirrored Γ hc) (fun x15 D16 hf => ?_)
    refine r_istore (pc := 56) (lv' := [(5, .int x15), (0, .ref (Γ.2.1 0)), (1, .int v1), (2, .long v2), (4, .int v4)]) C d_Root_most_56 (Nat.le_of_ble_eq_true rfl) rfl ?_
    refine r_iload (pc := 58) C 0 d_Root_most_58 rfl ?_
    refine r_callSi (pc := 60) (As := [.int x15]) (rest := []) C ok_J_bitCount Lm_Root_240 ⟨by decide, by decide⟩ rfl rfl (Nat.le_of_ble_eq_true rfl) d_Root_most_60 hf (fun x D1 hc => c_J_bitCount Γ hc) (fun x17 D18 hf => ?_)
    refine r_iload_n (pc := 63) C 2 d_Root_most_63 rfl rfl ?_
    refine r_icmp_ne (pc := 64) C (tgt := 108) d_Root_most_64 (by decide) hf (fun c64 hf => ?_) (fun c64 hf => ?_)
    · exact r_lv (pc := 108) C [1, 2, 3, 4] rfl (tb_Root_most_108 C hk43 hf)
    · refine r_aload_n (pc := 67) C 1 d_Root_most_67 rfl rfl ?_
      refine g_Root_today (pc := 68) C k_id0 Lf_Root_53 d_Root_most_68 ?_
      refine r_aload_n (pc := 71) C 1 d_Root_most_71 rfl rfl ?_
      refine g_Root_present (pc := 72) C k_id0 Lf_Root_24 d_Root_most_72 ?_
      refine g_Street_bed (pc := 75) C kq_Root_present Lf_Root_146 d_Root_most_75 ?_
      refine r_iload (pc := 78) C 0 d_Root_most_78 rfl ?_
      refine r_callVv (pc := 80) (As := [.ref (Γ.2.1 (3 + 1)), .int x15]) (rest := []) C ok_Tuesday_lead Lm_Root_297 kq_Root_today (by decide) ⟨by decide, by decide⟩ rfl rfl (Nat.le_of_ble_eq_true rfl) d_Root_most_80 hf (fun x D1 hc => c_Tuesday_lead Γ (kq_Street_bed kq_Root_present) hc) (fun x19 D20 hf => ?_)
      refine r_lload_n (pc := 83) C 3 d_Root_most_83 rfl rfl ?_
      refine r_aload_n (pc := 84) C 1 d_Root_most_84 rfl rfl ?_
      refine g_Root_today (pc := 85) C k_id0 Lf_Root_53 d_Root_most_85 ?_
      refine r_callVi (pc := 88) (As := []) (rest := [.long v2]) C ok_Tuesday_grindings Lm_Root_231 kq_Root_today (by decide) ⟨by decide, by decide⟩ rfl rfl (Nat.le_of_ble_eq_true rfl) d_Root_most_88 hf (fun x D1 hc => c_Tuesday_grindings Γ hc) (fun x21 D22 hf => ?_)
      refine r_ineg (pc := 91) C d_Root_most_91 ?_
      refine r_aload_n (pc := 92) C 1 d_Root_most_92 rfl rfl ?_
      refine g_Root_today (pc := 93) C k_id0 Lf_Root_53 d_Root_most_93 ?_
      refine r_callVi (pc := 96) (As := []) (rest := [.int (-x21), .long v2]) C ok_Tuesday_harmDone Lm_Root_234 kq_Root_today (by decide) ⟨by decide, by decide⟩ rfl rfl (Nat.le_of_ble_eq_true rfl) d_Root_most_96 hf (fun x D1 hc => c_Tuesday_harmDone Γ hc) (fun x23 D24 hf => ?_)
      refine r_iload (pc := 99) C 0 d_Root_most_99 rfl ?_
      refine r_callSl (pc := 101) (As := [.int (-x21), .int x23, .int x15]) (rest := [.long v2]) C ok_Root_rank Lm_Root_301 ⟨by decide, by decide⟩ rfl rfl (Nat.le_of_ble_eq_true rfl) d_Root_most_101 hf (fun x D1 hc => c_Root_rank Γ hc) (fun x25 D26 hf => ?_)
      refine r_mminl (pc := 104) C Lm_Root_305 (by decide) (Nat.le_of_ble_eq_true rfl) d_Root_most_104 ?_
      refine r_lstore_n (pc := 107) (lv' := [(2, .long (lmin v2 x25)), (5, .int x15), (0, .ref (Γ.2.1 0)), (1, .int v1), (4, .int v4)]) C d_Root_most_107 rfl (Nat.le_of_ble_eq_true rfl) rfl ?_
      exact r_lv (pc := 108) C [2, 3, 0, 4] rfl (tb_Root_most_108 C hk43 hf)
theorem tl_Root_most_43 {Γ : GmT} {G : Dt → Nat → List (Nat × Value) → List Value → Prop} {rr : Int32} {DD : Dt} (C : Cx Γ "RiverTuesdays" b_Root_most 6 6 (some .int) (some (.int rr)) DD G) : ∀ (n : Nat) (v1 : Int32) (v2 : Int64) (v4 : Int32) (D : Dt), lp_Root_most_43 n v1 v2 v4 D = some (rr, DD) → G D 43 [(0, .ref (Γ.2.1 0)), (1, .int v1), (2, .long v2), (4, .int v4)] [] := by
  intro n
  induction n with
  | zero =>
    intro v1 v2 v4 D hf
    exact absurd (show (none : Option (Int32 × Dt)) = some (rr, DD) from hf) (by simp)
  | succ n ih =>
    intro v1 v2 v4 D hf
    exact ts_Root_most_43 C (k43 := lp_Root_most_43 n) ih hf
def f_Root_most (v1 : Int32) (D : Dt) : Option (Int32 × Dt) :=
  bnd (f_Root_isWithin v1 0 8 D) (fun x1 D2 => (if x1 = 0 then some ((-1), D2) else bnd (f_Root_hasHouses D2) (fun x3 D4 => (if x3 = 0 then some ((-4), D4) else bnd (f_Tuesday_begin (3 + 7) D4) (fun x5 D6 => lp_Root_most_43 FU v1 1000000000000000 0 D6)))))
set_option maxHeartbeats 4000000 in
theorem te_Root_most {Γ : GmT} {G : Dt → Nat → List (Nat × Value) → List Value → Prop} {rr : Int32} {DD : Dt} (C : Cx Γ "RiverTuesdays" b_Root_most 6 6 (some .int) (some (.int rr)) DD G) {v1 : Int32} {D : Dt} (hf : f_Root_most v1 D = some (rr, DD)) : G D 0 [(0, .ref (Γ.2.1 0)), (1, .int v1)] [] := by
  unfold f_Root_most at hf
  refine r_iload_n (pc := 0) C 1 d_Root_most_0 rfl rfl ?_
  refine r_iconst (pc := 1) C (v := 0) d_Root_most_1 (by decide) ?_
  refine r_bipush (pc := 2) C (v := 8) d_Root_most_2 (by decide) ?_
  refine r_callSi (pc := 4) (As := [.int v1, .int 0, .int 8]) (rest := []) C ok_Root_isWithin Lm_Root_155 ⟨by decide, by decide⟩ rfl rfl (Nat.le_of_ble_eq_true rfl) d_Root_most_4 hf (fun x D1 hc => c_Root_isWithin Γ hc) (fun x1 D2 hf => ?_)
  refine r_if_ne (pc := 7) C (tgt := 12) d_Root_most_7 (by decide) hf (fun c7 hf => ?_) (fun c7 hf => ?_)
  · refine r_aload_n (pc := 12) C 0 d_Root_most_12 rfl rfl ?_
    refine r_callVi (pc := 13) (As := []) (rest := []) C ok_Root_hasHouses Lm_Root_190 k_id0 (by decide) ⟨by decide, by decide⟩ rfl rfl (Nat.le_of_ble_eq_true rfl) d_Root_most_13 hf (fun x D1 hc => c_Root_hasHouses Γ hc) (fun x3 D4 hf => ?_)
    refine r_if_ne (pc := 16) C (tgt := 22) d_Root_most_16 (by decide) hf (fun c16 hf => ?_) (fun c16 hf => ?_)
    · refine r_ldc2 (pc := 22) C Lc_Root_289 d_Root_most_22 ?_
      refine r_lstore_n (pc := 25) (lv' := [(2, .long 1000000000000000), (0, .ref (Γ.2.1 0)), (1, .int v1)]) C d_Root_most_25 rfl (Nat.le_of_ble_eq_true rfl) rfl ?_
      refine r_aload_n (pc := 26) C 1 d_Root_most_26 rfl rfl ?_
      refine g_Root_today (pc := 27) C k_id0 Lf_Root_53 d_Root_most_27 ?_
      refine r_aload_n (pc := 30) C 1 d_Root_most_30 rfl rfl ?_
      refine g_Root_present (pc := 31) C k_id0 Lf_Root_24 d_Root_most_31 ?_
      refine g_Street_now (pc := 34) C kq_Root_present Lf_Root_168 d_Root_most_34 ?_
      refine r_callVv (pc := 37) (As := [.ref (Γ.2.1 (3 + 7))]) (rest := []) C ok_Tuesday_begin Lm_Root_291 kq_Root_today (by decide) ⟨by decide, by decide⟩ rfl rfl (Nat.le_of_ble_eq_true rfl) d_Root_most_37 hf (fun x D1 hc => c_Tuesday_begin Γ (kq_Street_now kq_Root_present) hc) (fun x5 D6 hf => ?_)
      refine r_iconst (pc := 40) C (v := 0) d_Root_most_40 (by decide) ?_
      refine r_istore (pc := 41) (lv' := [(4, .int 0), (2, .long 1000000000000000), (0, .ref (Γ.2.1 0)), (1, .int v1)]) C d_Root_most_41 (Nat.le_of_ble_eq_true rfl) rfl ?_
      exact r_lv (pc := 43) C [2, 3, 1, 0] rfl (tl_Root_most_43 C FU v1 1000000000000000 0 D6 hf)
    · refine r_bipush (pc := 19) C (v := (-4)) d_Root_most_19 (by decide) ?_
      exact r_iret (pc := 21) C d_Root_most_21 hf
  · refine r_iconst (pc := 10) C (v := (-1)) d_Root_most_10 (by decide) ?_
    exact r_iret (pc := 11) C d_Root_most_11 hf
theorem c_Root_most (Γ : GmT) {v1 : Int32} {D : Dt} {rr : Int32} {DD : Dt} (hf : f_Root_most v1 D = some (rr, DD)) : Mt Γ y_Root_most b_Root_most 6 (some .int) 6 [.ref (Γ.2.1 0), .int v1] D (some (.int rr)) DD := Mt_of (by decide) (Nat.le_of_ble_eq_true rfl) (fun G C => te_Root_most C hf)
def b_Root_least_107 (k43 : Int32 → Int64 → Int32 → Dt → Option (Int32 × Dt)) (v1 : Int32) (v2 : Int64) (v4 : Int32) (D : Dt) : Option (Int32 × Dt) :=
  k43 v1 v2 (v4 + 1) D
set_option maxHeartbeats 4000000 in
theorem tb_Root_least_107 {Γ : GmT} {G : Dt → Nat → List (Nat × Value) → List Value → Prop} {rr : Int32} {DD : Dt} (C : Cx Γ "RiverTuesdays" b_Root_least 6 6 (some .int) (some (.int rr)) DD G) {k43 : Int32 → Int64 → Int32 → Dt → Option (Int32 × Dt)} (hk43 : ∀ (v1 : Int32) (v2 : Int64) (v4 : Int32) (D : Dt), k43 v1 v2 v4 D = some (rr, DD) → G D 43 [(0, .ref (Γ.2.1 0)), (1, .int v1), (2, .long v2), (4, .int v4)] []) {v1 : Int32} {v2 : Int64} {v4 : Int32} {D : Dt} (hf : b_Root_least_107 k43 v1 v2 v4 D = some (rr, DD)) : G D 107 [(0, .ref (Γ.2.1 0)), (1, .int v1), (2, .long v2), (4, .int v4)] [] := by
  unfold b_Root_least_107 at hf
  refine r_iinc (pc := 107) C (v := v4 + 1) (lv' := [(4, .int (v4 + 1)), (0, .ref (Γ.2.1 0)), (1, .int v1), (2, .long v2)]) 3 d_Root_least_107 rfl rfl (Nat.le_of_ble_eq_true rfl) rfl ?_
  refine r_goto (pc := 110) C (tgt := 43) d_Root_least_110 (by decide) ?_
  exact r_lv (pc := 43) C [1, 2, 3, 0] rfl (hk43 v1 v2 (v4 + 1) D hf)
def s_Root_least_43 (k43 : Int32 → Int64 → Int32 → Dt → Option (Int32 × Dt)) (v1 : Int32) (v2 : Int64) (v4 : Int32) (D : Dt) : Option (Int32 × Dt) :=
  (if 256 ≤ v4 then (if (lg_cmp v2 1000000000000000) = 0 then some ((-9), D) else bnd (f_Root_planOfRank v2 D) (fun x7 D8 => bnd (f_Tuesday_lead (3 + 1) x7 D8) (fun x9 D10 => bnd (f_Tuesday_harmDone D10) (fun x11 D12 => bnd (f_Root_tell x11 x7 D12) (fun x13 D14 => some (x13, D14)))))) else bnd (f_Root_mirrored v4 D) (fun x15 D16 => bnd (f_Tuesday_lead (3 + 1) x15 D16) (fun x17 D18 => bnd (f_Tuesday_grindings D18) (fun x19 D20 => (if x19 < v1 then b_Root_least_107 k43 v1 v2 v4 D20 else bnd (f_Tuesday_harmDone D20) (fun x21 D22 => bnd (f_J_bitCount x15 D22) (fun x23 D24 => bnd (f_Root_rank x21 x23 x15 D24) (fun x25 D26 => b_Root_least_107 k43 v1 (lmin v2 x25) v4 D26))))))))
def lp_Root_least_43 (n : Nat) : Int32 → Int64 → Int32 → Dt → Option (Int32 × Dt) := itr (fun _ _ _ _ => none) (s_Root_least_43) n
set_option maxHeartbeats 4000000 in
theorem ts_Root_least_43 {Γ : GmT} {G : Dt → Nat → List (Nat × Value) → List Value → Prop} {rr : Int32} {DD : Dt} (C : Cx Γ "RiverTuesdays" b_Root_least 6 6 (some .int) (some (.int rr)) DD G) {k43 : Int32 → Int64 → Int32 → Dt → Option (Int32 × Dt)} (hk43 : ∀ (v1 : Int32) (v2 : Int64) (v4 : Int32) (D : Dt), k43 v1 v2 v4 D = some (rr, DD) → G D 43 [(0, .ref (Γ.2.1 0)), (1, .int v1), (2, .long v2), (4, .int v4)] []) {v1 : Int32} {v2 : Int64} {v4 : Int32} {D : Dt} (hf : s_Root_least_43 k43 v1 v2 v4 D = some (rr, DD)) : G D 43 [(0, .ref (Γ.2.1 0)), (1, .int v1), (2, .long v2), (4, .int v4)] [] := by
  unfold s_Root_least_43 at hf
  refine r_iload (pc := 43) C 3 d_Root_least_43 rfl ?_
  refine r_sipush (pc := 45) C (v := 256) d_Root_least_45 (by decide) ?_
  refine r_icmp_ge (pc := 48) C (tgt := 113) d_Root_least_48 (by decide) hf (fun c48 hf => ?_) (fun c48 hf => ?_)
  · refine r_lload_n (pc := 113) C 2 d_Root_least_113 rfl rfl ?_
    refine r_ldc2 (pc := 114) C Lc_Root_289 d_Root_least_114 ?_
    refine r_lcmp (pc := 117) C d_Root_least_117 ?_
    refine r_if_ne (pc := 118) C (tgt := 124) d_Root_least_118 (by decide) hf (fun c118 hf => ?_) (fun c118 hf => ?_)
    · refine r_lload_n (pc := 124) C 2 d_Root_least_124 rfl rfl ?_
      refine r_callSi (pc := 125) (As := [.long v2]) (rest := []) C ok_Root_planOfRank Lm_Root_308 ⟨by decide, by decide⟩ rfl rfl (Nat.le_of_ble_eq_true rfl) d_Root_least_125 hf (fun x D1 hc => c_Root_planOfRank Γ hc) (fun x7 D8 hf => ?_)
      refine r_istore (pc := 128) (lv' := [(4, .int x7), (0, .ref (Γ.2.1 0)), (1, .int v1), (2, .long v2)]) C d_Root_least_128 (Nat.le_of_ble_eq_true rfl) rfl ?_
      refine r_aload_n (pc := 130) C 1 d_Root_least_130 rfl rfl ?_
      refine g_Root_today (pc := 131) C k_id0 Lf_Root_53 d_Root_least_131 ?_
      refine r_aload_n (pc := 134) C 1 d_Root_least_134 rfl rfl ?_
      refine g_Root_present (pc := 135) C k_id0 Lf_Root_24 d_Root_least_135 ?_
      refine g_Street_bed (pc := 138) C kq_Root_present Lf_Root_146 d_Root_least_138 ?_
      refine r_iload (pc := 141) C 0 d_Root_least_141 rfl ?_
      refine r_callVv (pc := 143) (As := [.ref (Γ.2.1 (3 + 1)), .int x7]) (rest := []) C ok_Tuesday_lead Lm_Root_297 kq_Root_today (by decide) ⟨by decide, by decide⟩ rfl rfl (Nat.le_of_ble_eq_true rfl) d_Root_least_143 hf (fun x D1 hc => c_Tuesday_lead Γ (kq_Street_bed kq_Root_present) hc) (fun x9 D10 hf => ?_)
      refine r_aload_n (pc := 146) C 1 d_Root_least_146 rfl rfl ?_
      refine r_aload_n (pc := 147) C 1 d_Root_least_147 rfl rfl ?_
      refine g_Root_today (pc := 148) C k_id0 Lf_Root_53 d_Root_least_148 ?_
      refine r_callVi (pc := 151) (As := []) (rest := [.ref (Γ.2.1 0)]) C ok_Tuesday_harmDone Lm_Root_234 kq_Root_today (by decide) ⟨by decide, by decide⟩ rfl rfl (Nat.le_of_ble_eq_true rfl) d_Root_least_151 hf (fun x D1 hc => c_Tuesday_harmDone Γ hc) (fun x11 D12 hf => ?_)
      refine r_iload (pc := 154) C 0 d_Root_least_154 rfl ?_
      refine r_callVi (pc := 156) (As := [.int x11, .int x7]) (rest := []) C ok_Root_tell Lm_Root_99 k_id0 (by decide) ⟨by decide, by decide⟩ rfl rfl (Nat.le_of_ble_eq_true rfl) d_Root_least_156 hf (fun x D1 hc => c_Root_tell Γ hc) (fun x13 D14 hf => ?_)
      exact r_iret (pc := 159) C d_Root_least_159 hf
    · refine r_bipush (pc := 121) C (v := (-9)) d_Root_least_121 (by decide) ?_
      exact r_iret (pc := 123) C d_Root_least_123 hf
  · refine r_iload (pc := 51) C 3 d_Root_least_51 rfl ?_
    refine r_callSi (pc := 53) (As := [.int v4]) (rest := []) C ok_Root_mirrored Lm_Root_294 ⟨by decide, by decide⟩ rfl rfl (Nat.le_of_ble_eq_true rfl) d_Root_least_53 hf (fun x D1 hc => c_Root_mirrored Γ hc) (fun x15 D16 hf => ?_)
    refine r_istore (pc := 56) (lv' := [(5, .int x15), (0, .ref (Γ.2.1 0)), (1, .int v1), (2, .long v2), (4, .int v4)]) C d_Root_least_56 (Nat.le_of_ble_eq_true rfl) rfl ?_
    refine r_aload_n (pc := 58) C 1 d_Root_least_58 rfl rfl ?_
    refine g_Root_today (pc := 59) C k_id0 Lf_Root_53 d_Root_least_59 ?_
    refine r_aload_n (pc := 62) C 1 d_Root_least_62 rfl rfl ?_
    refine g_Root_present (pc := 63) C k_id0 Lf_Root_24 d_Root_least_63 ?_
    refine g_Street_bed (pc := 66) C kq_Root_present Lf_Root_146 d_Root_least_66 ?_
    refine r_iload (pc := 69) C 0 d_Root_least_69 rfl ?_
    refine r_callVv (pc := 71) (As := [.ref (Γ.2.1 (3 + 1)), .int x15]) (rest := []) C ok_Tuesday_lead Lm_Root_297 kq_Root_today (by decide) ⟨by decide, by decide⟩ rfl rfl (Nat.le_of_ble_eq_true rfl) d_Root_least_71 hf (fun x D1 hc => c_Tuesday_lead Γ (kq_Street_bed kq_Root_present) hc) (fun x17 D18 hf => ?_)
    refine r_aload_n (pc := 74) C 1 d_Root_least_74 rfl rfl ?_
    refine g_Root_today (pc := 75) C k_id0 Lf_Root_53 d_Root_least_75 ?_
    refine r_callVi (pc := 78) (As := []) (rest := []) C ok_Tuesday_grindings Lm_Root_231 kq_Root_today (by decide) ⟨by decide, by decide⟩ rfl rfl (Nat.le_of_ble_eq_true rfl) d_Root_least_78 hf (fun x D1 hc => c_Tuesday_grindings Γ hc) (fun x19 D20 hf => ?_)
    refine r_iload_n (pc := 81) C 2 d_Root_least_81 rfl rfl ?_
    refine r_icmp_lt (pc := 82) C (tgt := 107) d_Root_least_82 (by decide) hf (fun c82 hf => ?_) (fun c82 hf => ?_)
    · exact r_lv (pc := 107) C [1, 2, 3, 4] rfl (tb_Root_least_107 C hk43 hf)
    · refine r_lload_n (pc := 85) C 3 d_Root_least_85 rfl rfl ?_
      refine r_aload_n (pc := 86) C 1 d_Root_least_86 rfl rfl ?_
      refine g_Root_today (pc := 87) C k_id0 Lf_Root_53 d_Root_least_87 ?_
      refine r_callVi (pc := 90) (As := []) (rest := [.long v2]) C ok_Tuesday_harmDone Lm_Root_234 kq_Root_today (by decide) ⟨by decide, by decide⟩ rfl rfl (Nat.le_of_ble_eq_true rfl) d_Root_least_90 hf (fun x D1 hc => c_Tuesday_harmDone Γ hc) (fun x21 D22 hf => ?_)
      refine r_iload (pc := 93) C 0 d_Root_least_93 rfl ?_
      refine r_callSi (pc := 95) (As := [.int x15]) (rest := [.int x21, .long v2]) C ok_J_bitCount Lm_Root_240 ⟨by decide, by decide⟩ rfl rfl (Nat.le_of_ble_eq_true rfl) d_Root_least_95 hf (fun x D1 hc => c_J_bitCount Γ hc) (fun x23 D24 hf => ?_)
      refine r_iload (pc := 98) C 0 d_Root_least_98 rfl ?_
      refine r_callSl (pc := 100) (As := [.int x21, .int x23, .int x15]) (rest := [.long v2]) C ok_Root_rank Lm_Root_301 ⟨by decide, by decide⟩ rfl rfl (Nat.le_of_ble_eq_true rfl) d_Root_least_100 hf (fun x D1 hc => c_Root_rank Γ hc) (fun x25 D26 hf => ?_)
      refine r_mminl (pc := 103) C Lm_Root_305 (by decide) (Nat.le_of_ble_eq_true rfl) d_Root_least_103 ?_
      refine r_lstore_n (pc := 106) (lv' := [(2, .long (lmin v2 x25)), (5, .int x15), (0, .ref (Γ.2.1 0)), (1, .int v1), (4, .int v4)]) C d_Root_least_106 rfl (Nat.le_of_ble_eq_true rfl) rfl ?_
      exact r_lv (pc := 107) C [2, 3, 0, 4] rfl (tb_Root_least_107 C hk43 hf)
theorem tl_Root_least_43 {Γ : GmT} {G : Dt → Nat → List (Nat × Value) → List Value → Prop} {rr : Int32} {DD : Dt} (C : Cx Γ "RiverTuesdays" b_Root_least 6 6 (some .int) (some (.int rr)) DD G) : ∀ (n : Nat) (v1 : Int32) (v2 : Int64) (v4 : Int32) (D : Dt), lp_Root_least_43 n v1 v2 v4 D = some (rr, DD) → G D 43 [(0, .ref (Γ.2.1 0)), (1, .int v1), (2, .long v2), (4, .int v4)] [] := by
  intro n
  induction n with
  | zero =>
    intro v1 v2 v4 D hf
    exact absurd (show (none : Option (Int32 × Dt)) = some (rr, DD) from hf) (by simp)
  | succ n ih =>
    intro v1 v2 v4 D hf
    exact ts_Root_least_43 C (k43 := lp_Root_least_43 n) ih hf
def f_Root_least (v1 : Int32) (D : Dt) : Option (Int32 × Dt) :=
  bnd (f_Root_isWithin v1 0 99 D) (fun x1 D2 => (if x1 = 0 then some ((-1), D2) else bnd (f_Root_hasHouses D2) (fun x3 D4 => (if x3 = 0 then some ((-4), D4) else bnd (f_Tuesday_begin (3 + 7) D4) (fun x5 D6 => lp_Root_least_43 FU v1 1000000000000000 0 D6)))))
set_option maxHeartbeats 4000000 in
theorem te_Root_least {Γ : GmT} {G : Dt → Nat → List (Nat × Value) → List Value → Prop} {rr : Int32} {DD : Dt} (C : Cx Γ "RiverTuesdays" b_Root_least 6 6 (some .int) (some (.int rr)) DD G) {v1 : Int32} {D : Dt} (hf : f_Root_least v1 D = some (rr, DD)) : G D 0 [(0, .ref (Γ.2.1 0)), (1, .int v1)] [] := by
  unfold f_Root_least at hf
  refine r_iload_n (pc := 0) C 1 d_Root_least_0 rfl rfl ?_
  refine r_iconst (pc := 1) C (v := 0) d_Root_least_1 (by decide) ?_
  refine r_bipush (pc := 2) C (v := 99) d_Root_least_2 (by decide) ?_
  refine r_callSi (pc := 4) (As := [.int v1, .int 0, .int 99]) (rest := []) C ok_Root_isWithin Lm_Root_155 ⟨by decide, by decide⟩ rfl rfl (Nat.le_of_ble_eq_true rfl) d_Root_least_4 hf (fun x D1 hc => c_Root_isWithin Γ hc) (fun x1 D2 hf => ?_)
  refine r_if_ne (pc := 7) C (tgt := 12) d_Root_least_7 (by decide) hf (fun c7 hf => ?_) (fun c7 hf => ?_)
  · refine r_aload_n (pc := 12) C 0 d_Root_least_12 rfl rfl ?_
    refine r_callVi (pc := 13) (As := []) (rest := []) C ok_Root_hasHouses Lm_Root_190 k_id0 (by decide) ⟨by decide, by decide⟩ rfl rfl (Nat.le_of_ble_eq_true rfl) d_Root_least_13 hf (fun x D1 hc => c_Root_hasHouses Γ hc) (fun x3 D4 hf => ?_)
    refine r_if_ne (pc := 16) C (tgt := 22) d_Root_least_16 (by decide) hf (fun c16 hf => ?_) (fun c16 hf => ?_)
    · refine r_ldc2 (pc := 22) C Lc_Root_289 d_Root_least_22 ?_
      refine r_lstore_n (pc := 25) (lv' := [(2, .long 1000000000000000), (0, .ref (Γ.2.1 0)), (1, .int v1)]) C d_Root_least_25 rfl (Nat.le_of_ble_eq_true rfl) rfl ?_
      refine r_aload_n (pc := 26) C 1 d_Root_least_26 rfl rfl ?_
      refine g_Root_today (pc := 27) C k_id0 Lf_Root_53 d_Root_least_27 ?_
      refine r_aload_n (pc := 30) C 1 d_Root_least_30 rfl rfl ?_
      refine g_Root_present (pc := 31) C k_id0 Lf_Root_24 d_Root_least_31 ?_
      refine g_Street_now (pc := 34) C kq_Root_present Lf_Root_168 d_Root_least_34 ?_
      refine r_callVv (pc := 37) (As := [.ref (Γ.2.1 (3 + 7))]) (rest := []) C ok_Tuesday_begin Lm_Root_291 kq_Root_today (by decide) ⟨by decide, by decide⟩ rfl rfl (Nat.le_of_ble_eq_true rfl) d_Root_least_37 hf (fun x D1 hc => c_Tuesday_begin Γ (kq_Street_now kq_Root_present) hc) (fun x5 D6 hf => ?_)
      refine r_iconst (pc := 40) C (v := 0) d_Root_least_40 (by decide) ?_
      refine r_istore (pc := 41) (lv' := [(4, .int 0), (2, .long 1000000000000000), (0, .ref (Γ.2.1 0)), (1, .int v1)]) C d_Root_least_41 (Nat.le_of_ble_eq_true rfl) rfl ?_
      exact r_lv (pc := 43) C [2, 3, 1, 0] rfl (tl_Root_least_43 C FU v1 1000000000000000 0 D6 hf)
    · refine r_bipush (pc := 19) C (v := (-4)) d_Root_least_19 (by decide) ?_
      exact r_iret (pc := 21) C d_Root_least_21 hf
  · refine r_iconst (pc := 10) C (v := (-1)) d_Root_least_10 (by decide) ?_
    exact r_iret (pc := 11) C d_Root_least_11 hf
theorem c_Root_least (Γ : GmT) {v1 : Int32} {D : Dt} {rr : Int32} {DD : Dt} (hf : f_Root_least v1 D = some (rr, DD)) : Mt Γ y_Root_least b_Root_least 6 (some .int) 6 [.ref (Γ.2.1 0), .int v1] D (some (.int rr)) DD := Mt_of (by decide) (Nat.le_of_ble_eq_true rfl) (fun G C => te_Root_least C hf)
def b_Root_dry_86 (k30 : Int64 → Int32 → Dt → Option (Int32 × Dt)) (v1 : Int64) (v3 : Int32) (D : Dt) : Option (Int32 × Dt) :=
  k30 v1 (v3 + 1) D
set_option maxHeartbeats 4000000 in
theorem tb_Root_dry_86 {Γ : GmT} {G : Dt → Nat → List (Nat × Value) → List Value → Prop} {rr : Int32} {DD : Dt} (C : Cx Γ "RiverTuesdays" b_Root_dry 5 6 (some .int) (some (.int rr)) DD G) {k30 : Int64 → Int32 → Dt → Option (Int32 × Dt)} (hk30 : ∀ (v1 : Int64) (v3 : Int32) (D : Dt), k30 v1 v3 D = some (rr, DD) → G D 30 [(0, .ref (Γ.2.1 0)), (1, .long v1), (3, .int v3)] []) {v1 : Int64} {v3 : Int32} {D : Dt} (hf : b_Root_dry_86 k30 v1 v3 D = some (rr, DD)) : G D 86 [(0, .ref (Γ.2.1 0)), (1, .long v1), (3, .int v3)] [] := by
  unfold b_Root_dry_86 at hf
  refine r_iinc (pc := 86) C (v := v3 + 1) (lv' := [(3, .int (v3 + 1)), (0, .ref (Γ.2.1 0)), (1, .long v1)]) 2 d_Root_dry_86 rfl rfl (Nat.le_of_ble_eq_true rfl) rfl ?_
  refine r_goto (pc := 89) C (tgt := 30) d_Root_dry_89 (by decide) ?_
  exact r_lv (pc := 30) C [1, 2, 0] rfl (hk30 v1 (v3 + 1) D hf)
def s_Root_dry_30 (k30 : Int64 → Int32 → Dt → Option (Int32 × Dt)) (v1 : Int64) (v3 : Int32) (D : Dt) : Option (Int32 × Dt) :=
  (if 256 ≤ v3 then (if (lg_cmp v1 1000000000000000) = 0 then some ((-9), D) else bnd (f_Root_planOfRank v1 D) (fun x5 D6 => bnd (f_J_bitCount x5 D6) (fun x7 D8 => bnd (f_Root_tell x5 x7 D8) (fun x9 D10 => some (x9, D10))))) else bnd (f_Root_mirrored v3 D) (fun x11 D12 => bnd (f_Tuesday_lead (3 + 1) x11 D12) (fun x13 D14 => bnd (f_Tuesday_harmDone D14) (fun x15 D16 => (if x15 = 0 then bnd (f_J_bitCount x11 D16) (fun x17 D18 => bnd (f_Root_rank (-x17) 0 x11 D18) (fun x19 D20 => b_Root_dry_86 k30 (lmin v1 x19) v3 D20)) else b_Root_dry_86 k30 v1 v3 D16)))))
def lp_Root_dry_30 (n : Nat) : Int64 → Int32 → Dt → Option (Int32 × Dt) := itr (fun _ _ _ => none) (s_Root_dry_30) n
set_option maxHeartbeats 4000000 in
theorem ts_Root_dry_30 {Γ : GmT} {G : Dt → Nat → List (Nat × Value) → List Value → Prop} {rr : Int32} {DD : Dt} (C : Cx Γ "RiverTuesdays" b_Root_dry 5 6 (some .int) (some (.int rr)) DD G) {k30 : Int64 → Int32 → Dt → Option (Int32 × Dt)} (hk30 : ∀ (v1 : Int64) (v3 : Int32) (D : Dt), k30 v1 v3 D = some (rr, DD) → G D 30 [(0, .ref (Γ.2.1 0)), (1, .long v1), (3, .int v3)] []) {v1 : Int64} {v3 : Int32} {D : Dt} (hf : s_Root_dry_30 k30 v1 v3 D = some (rr, DD)) : G D 30 [(0, .ref (Γ.2.1 0)), (1, .long v1), (3, .int v3)] [] := by
  unfold s_Root_dry_30 at hf
  refine r_iload_n (pc := 30) C 2 d_Root_dry_30 rfl rfl ?_
  refine r_sipush (pc := 31) C (v := 256) d_Root_dry_31 (by decide) ?_
  refine r_icmp_ge (pc := 34) C (tgt := 92) d_Root_dry_34 (by decide) hf (fun c34 hf => ?_) (fun c34 hf => ?_)
  · refine r_lload_n (pc := 92) C 1 d_Root_dry_92 rfl rfl ?_
    refine r_ldc2 (pc := 93) C Lc_Root_289 d_Root_dry_93 ?_
    refine r_lcmp (pc := 96) C d_Root_dry_96 ?_
    refine r_if_ne (pc := 97) C (tgt := 103) d_Root_dry_97 (by decide) hf (fun c97 hf => ?_) (fun c97 hf => ?_)
    · refine r_lload_n (pc := 103) C 1 d_Root_dry_103 rfl rfl ?_
      refine r_callSi (pc := 104) (As := [.long v1]) (rest := []) C ok_Root_planOfRank Lm_Root_308 ⟨by decide, by decide⟩ rfl rfl (Nat.le_of_ble_eq_true rfl) d_Root_dry_104 hf (fun x D1 hc => c_Root_planOfRank Γ hc) (fun x5 D6 hf => ?_)
      refine r_istore_n (pc := 107) (lv' := [(3, .int x5), (0, .ref (Γ.2.1 0)), (1, .long v1)]) C d_Root_dry_107 rfl (Nat.le_of_ble_eq_true rfl) rfl ?_
      refine r_aload_n (pc := 108) C 1 d_Root_dry_108 rfl rfl ?_
      refine r_iload_n (pc := 109) C 0 d_Root_dry_109 rfl rfl ?_
      refine r_iload_n (pc := 110) C 0 d_Root_dry_110 rfl rfl ?_
      refine r_callSi (pc := 111) (As := [.int x5]) (rest := [.int x5, .ref (Γ.2.1 0)]) C ok_J_bitCount Lm_Root_240 ⟨by decide, by decide⟩ rfl rfl (Nat.le_of_ble_eq_true rfl) d_Root_dry_111 hf (fun x D1 hc => c_J_bitCount Γ hc) (fun x7 D8 hf => ?_)
      refine r_callVi (pc := 114) (As := [.int x5, .int x7]) (rest := []) C ok_Root_tell Lm_Root_99 k_id0 (by decide) ⟨by decide, by decide⟩ rfl rfl (Nat.le_of_ble_eq_true rfl) d_Root_dry_114 hf (fun x D1 hc => c_Root_tell Γ hc) (fun x9 D10 hf => ?_)
      exact r_iret (pc := 117) C d_Root_dry_117 hf
    · refine r_bipush (pc := 100) C (v := (-9)) d_Root_dry_100 (by decide) ?_
      exact r_iret (pc := 102) C d_Root_dry_102 hf
  · refine r_iload_n (pc := 37) C 2 d_Root_dry_37 rfl rfl ?_
    refine r_callSi (pc := 38) (As := [.int v3]) (rest := []) C ok_Root_mirrored Lm_Root_294 ⟨by decide, by decide⟩ rfl rfl (Nat.le_of_ble_eq_true rfl) d_Root_dry_38 hf (fun x D1 hc => c_Root_mirrored Γ hc) (fun x11 D12 hf => ?_)
    refine r_istore (pc := 41) (lv' := [(4, .int x11), (0, .ref (Γ.2.1 0)), (1, .long v1), (3, .int v3)]) C d_Root_dry_41 (Nat.le_of_ble_eq_true rfl) rfl ?_
    refine r_aload_n (pc := 43) C 1 d_Root_dry_43 rfl rfl ?_
    refine g_Root_today (pc := 44) C k_id0 Lf_Root_53 d_Root_dry_44 ?_
    refine r_aload_n (pc := 47) C 1 d_Root_dry_47 rfl rfl ?_
    refine g_Root_present (pc := 48) C k_id0 Lf_Root_24 d_Root_dry_48 ?_
    refine g_Street_bed (pc := 51) C kq_Root_present Lf_Root_146 d_Root_dry_51 ?_
    refine r_iload (pc := 54) C 0 d_Root_dry_54 rfl ?_
    refine r_callVv (pc := 56) (As := [.ref (Γ.2.1 (3 + 1)), .int x11]) (rest := []) C ok_Tuesday_lead Lm_Root_297 kq_Root_today (by decide) ⟨by decide, by decide⟩ rfl rfl (Nat.le_of_ble_eq_true rfl) d_Root_dry_56 hf (fun x D1 hc => c_Tuesday_lead Γ (kq_Street_bed kq_Root_present) hc) (fun x13 D14 hf => ?_)
    refine r_aload_n (pc := 59) C 1 d_Root_dry_59 rfl rfl ?_
    refine g_Root_today (pc := 60) C k_id0 Lf_Root_53 d_Root_dry_60 ?_
    refine r_callVi (pc := 63) (As := []) (rest := []) C ok_Tuesday_harmDone Lm_Root_234 kq_Root_today (by decide) ⟨by decide, by decide⟩ rfl rfl (Nat.le_of_ble_eq_true rfl) d_Root_dry_63 hf (fun x D1 hc => c_Tuesday_harmDone Γ hc) (fun x15 D16 hf => ?_)
    refine r_if_ne (pc := 66) C (tgt := 86) d_Root_dry_66 (by decide) hf (fun c66 hf => ?_) (fun c66 hf => ?_)
    · exact r_lv (pc := 86) C [1, 2, 3] rfl (tb_Root_dry_86 C hk30 hf)
    · refine r_lload_n (pc := 69) C 2 d_Root_dry_69 rfl rfl ?_
      refine r_iload (pc := 70) C 0 d_Root_dry_70 rfl ?_
      refine r_callSi (pc := 72) (As := [.int x11]) (rest := [.long v1]) C ok_J_bitCount Lm_Root_240 ⟨by decide, by decide⟩ rfl rfl (Nat.le_of_ble_eq_true rfl) d_Root_dry_72 hf (fun x D1 hc => c_J_bitCount Γ hc) (fun x17 D18 hf => ?_)
      refine r_ineg (pc := 75) C d_Root_dry_75 ?_
      refine r_iconst (pc := 76) C (v := 0) d_Root_dry_76 (by decide) ?_
      refine r_iload (pc := 77) C 0 d_Root_dry_77 rfl ?_
      refine r_callSl (pc := 79) (As := [.int (-x17), .int 0, .int x11]) (rest := [.long v1]) C ok_Root_rank Lm_Root_301 ⟨by decide, by decide⟩ rfl rfl (Nat.le_of_ble_eq_true rfl) d_Root_dry_79 hf (fun x D1 hc => c_Root_rank Γ hc) (fun x19 D20 hf => ?_)
      refine r_mminl (pc := 82) C Lm_Root_305 (by decide) (Nat.le_of_ble_eq_true rfl) d_Root_dry_82 ?_
      refine r_lstore_n (pc := 85) (lv' := [(1, .long (lmin v1 x19)), (4, .int x11), (0, .ref (Γ.2.1 0)), (3, .int v3)]) C d_Root_dry_85 rfl (Nat.le_of_ble_eq_true rfl) rfl ?_
      exact r_lv (pc := 86) C [2, 0, 3] rfl (tb_Root_dry_86 C hk30 hf)
theorem tl_Root_dry_30 {Γ : GmT} {G : Dt → Nat → List (Nat × Value) → List Value → Prop} {rr : Int32} {DD : Dt} (C : Cx Γ "RiverTuesdays" b_Root_dry 5 6 (some .int) (some (.int rr)) DD G) : ∀ (n : Nat) (v1 : Int64) (v3 : Int32) (D : Dt), lp_Root_dry_30 n v1 v3 D = some (rr, DD) → G D 30 [(0, .ref (Γ.2.1 0)), (1, .long v1), (3, .int v3)] [] := by
  intro n
  induction n with
  | zero =>
    intro v1 v3 D hf
    exact absurd (show (none : Option (Int32 × Dt)) = some (rr, DD) from hf) (by simp)
  | succ n ih =>
    intro v1 v3 D hf
    exact ts_Root_dry_30 C (k30 := lp_Root_dry_30 n) ih hf
def f_Root_dry (D : Dt) : Option (Int32 × Dt) :=
  bnd (f_Root_hasHouses D) (fun x1 D2 => (if x1 = 0 then some ((-4), D2) else bnd (f_Tuesday_begin (3 + 7) D2) (fun x3 D4 => lp_Root_dry_30 FU 1000000000000000 0 D4)))
set_option maxHeartbeats 4000000 in
theorem te_Root_dry {Γ : GmT} {G : Dt → Nat → List (Nat × Value) → List Value → Prop} {rr : Int32} {DD : Dt} (C : Cx Γ "RiverTuesdays" b_Root_dry 5 6 (some .int) (some (.int rr)) DD G) {D : Dt} (hf : f_Root_dry D = some (rr, DD)) : G D 0 [(0, .ref (Γ.2.1 0))] [] := by
  unfold f_Root_dry at hf
  refine r_aload_n (pc := 0) C 0 d_Root_dry_0 rfl rfl ?_
  refine r_callVi (pc := 1) (As := []) (rest := []) C ok_Root_hasHouses Lm_Root_190 k_id0 (by decide) ⟨by decide, by decide⟩ rfl rfl (Nat.le_of_ble_eq_true rfl) d_Root_dry_1 hf (fun x D1 hc => c_Root_hasHouses Γ hc) (fun x1 D2 hf => ?_)
  refine r_if_ne (pc := 4) C (tgt := 10) d_Root_dry_4 (by decide) hf (fun c4 hf => ?_) (fun c4 hf => ?_)
  · refine r_ldc2 (pc := 10) C Lc_Root_289 d_Root_dry_10 ?_
    refine r_lstore_n (pc := 13) (lv' := [(1, .long 1000000000000000), (0, .ref (Γ.2.1 0))]) C d_Root_dry_13 rfl (Nat.le_of_ble_eq_true rfl) rfl ?_
    refine r_aload_n (pc := 14) C 1 d_Root_dry_14 rfl rfl ?_
    refine g_Root_today (pc := 15) C k_id0 Lf_Root_53 d_Root_dry_15 ?_
    refine r_aload_n (pc := 18) C 1 d_Root_dry_18 rfl rfl ?_
    refine g_Root_present (pc := 19) C k_id0 Lf_Root_24 d_Root_dry_19 ?_
    refine g_Street_now (pc := 22) C kq_Root_present Lf_Root_168 d_Root_dry_22 ?_
    refine r_callVv (pc := 25) (As := [.ref (Γ.2.1 (3 + 7))]) (rest := []) C ok_Tuesday_begin Lm_Root_291 kq_Root_today (by decide) ⟨by decide, by decide⟩ rfl rfl (Nat.le_of_ble_eq_true rfl) d_Root_dry_25 hf (fun x D1 hc => c_Tuesday_begin Γ (kq_Street_now kq_Root_present) hc) (fun x3 D4 hf => ?_)
    refine r_iconst (pc := 28) C (v := 0) d_Root_dry_28 (by decide) ?_
    refine r_istore_n (pc := 29) (lv' := [(3, .int 0), (1, .long 1000000000000000), (0, .ref (Γ.2.1 0))]) C d_Root_dry_29 rfl (Nat.le_of_ble_eq_true rfl) rfl ?_
    exact r_lv (pc := 30) C [2, 1, 0] rfl (tl_Root_dry_30 C FU 1000000000000000 0 D4 hf)
  · refine r_bipush (pc := 7) C (v := (-4)) d_Root_dry_7 (by decide) ?_
    exact r_iret (pc := 9) C d_Root_dry_9 hf
theorem c_Root_dry (Γ : GmT) {D : Dt} {rr : Int32} {DD : Dt} (hf : f_Root_dry D = some (rr, DD)) : Mt Γ y_Root_dry b_Root_dry 5 (some .int) 6 [.ref (Γ.2.1 0)] D (some (.int rr)) DD := Mt_of (by decide) (Nat.le_of_ble_eq_true rfl) (fun G C => te_Root_dry C hf)
def b_Root_isLike_50 (a1 : Nat) (k2 : Int32 → Dt → Option (Int32 × Dt)) (v2 : Int32) (D : Dt) : Option (Int32 × Dt) :=
  k2 (v2 + 1) D
set_option maxHeartbeats 4000000 in
theorem tb_Root_isLike_50 {Γ : GmT} {G : Dt → Nat → List (Nat × Value) → List Value → Prop} {rr : Int32} {DD : Dt} {a1 : Nat} (C : Cx Γ "RiverTuesdays" b_Root_isLike 3 1 (some .boolean) (some (.int rr)) DD G) (h1 : kd a1 = 3) {k2 : Int32 → Dt → Option (Int32 × Dt)} (hk2 : ∀ (v2 : Int32) (D : Dt), k2 v2 D = some (rr, DD) → G D 2 [(0, .ref (Γ.2.1 0)), (1, .ref (Γ.2.1 a1)), (2, .int v2)] []) {v2 : Int32} {D : Dt} (hf : b_Root_isLike_50 a1 k2 v2 D = some (rr, DD)) : G D 50 [(0, .ref (Γ.2.1 0)), (1, .ref (Γ.2.1 a1)), (2, .int v2)] [] := by
  unfold b_Root_isLike_50 at hf
  refine r_iinc (pc := 50) C (v := v2 + 1) (lv' := [(2, .int (v2 + 1)), (0, .ref (Γ.2.1 0)), (1, .ref (Γ.2.1 a1))]) 2 d_Root_isLike_50 rfl rfl (Nat.le_of_ble_eq_true rfl) rfl ?_
  refine r_goto (pc := 53) C (tgt := 2) d_Root_isLike_53 (by decide) ?_
  exact r_lv (pc := 2) C [1, 2, 0] rfl (hk2 (v2 + 1) D hf)
def s_Root_isLike_2 (a1 : Nat) (k2 : Int32 → Dt → Option (Int32 × Dt)) (v2 : Int32) (D : Dt) : Option (Int32 × Dt) :=
  (if (D (3 + 1) 5) ≤ v2 then some (1, D) else (if inb v2 60 = true then (if (D (a1 + 1) v2.toNatClampNeg) = (-9) then b_Root_isLike_50 a1 k2 v2 D else (if inb v2 60 = true then (if inb 8 9 = true then (if inb v2 8 = true then (if (D (a1 + 1) v2.toNatClampNeg) = (D (37 + 1 * (8 : Int32).toNatClampNeg) v2.toNatClampNeg) then b_Root_isLike_50 a1 k2 v2 D else some (0, D)) else none) else none) else none)) else none))
def lp_Root_isLike_2 (a1 : Nat) (n : Nat) : Int32 → Dt → Option (Int32 × Dt) := itr (fun _ _ => none) (s_Root_isLike_2 a1) n
set_option maxHeartbeats 4000000 in
theorem ts_Root_isLike_2 {Γ : GmT} {G : Dt → Nat → List (Nat × Value) → List Value → Prop} {rr : Int32} {DD : Dt} {a1 : Nat} (C : Cx Γ "RiverTuesdays" b_Root_isLike 3 1 (some .boolean) (some (.int rr)) DD G) (h1 : kd a1 = 3) {k2 : Int32 → Dt → Option (Int32 × Dt)} (hk2 : ∀ (v2 : Int32) (D : Dt), k2 v2 D = some (rr, DD) → G D 2 [(0, .ref (Γ.2.1 0)), (1, .ref (Γ.2.1 a1)), (2, .int v2)] []) {v2 : Int32} {D : Dt} (hf : s_Root_isLike_2 a1 k2 v2 D = some (rr, DD)) : G D 2 [(0, .ref (Γ.2.1 0)), (1, .ref (Γ.2.1 a1)), (2, .int v2)] [] := by
  unfold s_Root_isLike_2 at hf
  refine r_iload_n (pc := 2) C 2 d_Root_isLike_2 rfl rfl ?_
  refine r_aload_n (pc := 3) C 0 d_Root_isLike_3 rfl rfl ?_
  refine g_Root_present (pc := 4) C k_id0 Lf_Root_24 d_Root_isLike_4 ?_
  refine g_Street_bed (pc := 7) C kq_Root_present Lf_Root_146 d_Root_isLike_7 ?_
  refine g_Bed_houses (pc := 10) C (kq_Street_bed kq_Root_present) Lf_Root_149 d_Root_isLike_10 ?_
  refine r_icmp_ge (pc := 13) C (tgt := 56) d_Root_isLike_13 (by decide) hf (fun c13 hf => ?_) (fun c13 hf => ?_)
  · refine r_iconst (pc := 56) C (v := 1) d_Root_isLike_56 (by decide) ?_
    exact r_zret (pc := 57) C d_Root_isLike_57 rfl hf
  · refine r_aload_n (pc := 16) C 1 d_Root_isLike_16 rfl rfl ?_
    refine g_Row_places (pc := 17) C h1 Lf_Root_96 d_Root_isLike_17 ?_
    refine r_iload_n (pc := 20) C 2 d_Root_isLike_20 rfl rfl ?_
    refine r_iald (pc := 21) C (kq_Row_places h1) d_Root_isLike_21 hf (fun hf => ?_)
    refine r_bipush (pc := 22) C (v := (-9)) d_Root_isLike_22 (by decide) ?_
    refine r_icmp_eq (pc := 24) C (tgt := 50) d_Root_isLike_24 (by decide) hf (fun c24 hf => ?_) (fun c24 hf => ?_)
    · exact r_lv (pc := 50) C [0, 1, 2] rfl (tb_Root_isLike_50 C h1 hk2 hf)
    · refine r_aload_n (pc := 27) C 1 d_Root_isLike_27 rfl rfl ?_
      refine g_Row_places (pc := 28) C h1 Lf_Root_96 d_Root_isLike_28 ?_
      refine r_iload_n (pc := 31) C 2 d_Root_isLike_31 rfl rfl ?_
      refine r_iald (pc := 32) C (kq_Row_places h1) d_Root_isLike_32 hf (fun hf => ?_)
      refine r_aload_n (pc := 33) C 0 d_Root_isLike_33 rfl rfl ?_
      refine g_Root_today (pc := 34) C k_id0 Lf_Root_53 d_Root_isLike_34 ?_
      refine g_Tuesday_markAt (pc := 37) C kq_Root_today Lf_Root_268 d_Root_isLike_37 ?_
      refine r_bipush (pc := 40) C (v := 8) d_Root_isLike_40 (by decide) ?_
      refine r_aald17 (pc := 42) C kq_Tuesday_markAt d_Root_isLike_42 hf (fun hn42 hf => ?_)
      refine r_iload_n (pc := 43) C 2 d_Root_isLike_43 rfl rfl ?_
      refine r_iald (pc := 44) C (ke17 _ (inb_lt hn42)) d_Root_isLike_44 hf (fun hf => ?_)
      refine r_icmp_eq (pc := 45) C (tgt := 50) d_Root_isLike_45 (by decide) hf (fun c45 hf => ?_) (fun c45 hf => ?_)
      · exact r_lv (pc := 50) C [0, 1, 2] rfl (tb_Root_isLike_50 C h1 hk2 hf)
      · refine r_iconst (pc := 48) C (v := 0) d_Root_isLike_48 (by decide) ?_
        exact r_zret (pc := 49) C d_Root_isLike_49 rfl hf
theorem tl_Root_isLike_2 {Γ : GmT} {G : Dt → Nat → List (Nat × Value) → List Value → Prop} {rr : Int32} {DD : Dt} {a1 : Nat} (C : Cx Γ "RiverTuesdays" b_Root_isLike 3 1 (some .boolean) (some (.int rr)) DD G) (h1 : kd a1 = 3) : ∀ (n : Nat) (v2 : Int32) (D : Dt), lp_Root_isLike_2 a1 n v2 D = some (rr, DD) → G D 2 [(0, .ref (Γ.2.1 0)), (1, .ref (Γ.2.1 a1)), (2, .int v2)] [] := by
  intro n
  induction n with
  | zero =>
    intro v2 D hf
    exact absurd (show (none : Option (Int32 × Dt)) = some (rr, DD) from hf) (by simp)
  | succ n ih =>
    intro v2 D hf
    exact ts_Root_isLike_2 C h1 (k2 := lp_Root_isLike_2 a1 n) ih hf
def f_Root_isLike (a1 : Nat) (D : Dt) : Option (Int32 × Dt) :=
  lp_Root_isLike_2 a1 FU 0 D
set_option maxHeartbeats 4000000 in
theorem te_Root_isLike {Γ : GmT} {G : Dt → Nat → List (Nat × Value) → List Value → Prop} {rr : Int32} {DD : Dt} {a1 : Nat} (C : Cx Γ "RiverTuesdays" b_Root_isLike 3 1 (some .boolean) (some (.int rr)) DD G) (h1 : kd a1 = 3) {D : Dt} (hf : f_Root_isLike a1 D = some (rr, DD)) : G D 0 [(0, .ref (Γ.2.1 0)), (1, .ref (Γ.2.1 a1))] [] := by
  unfold f_Root_isLike at hf
  refine r_iconst (pc := 0) C (v := 0) d_Root_isLike_0 (by decide) ?_
  refine r_istore_n (pc := 1) (lv' := [(2, .int 0), (0, .ref (Γ.2.1 0)), (1, .ref (Γ.2.1 a1))]) C d_Root_isLike_1 rfl (Nat.le_of_ble_eq_true rfl) rfl ?_
  exact r_lv (pc := 2) C [1, 2, 0] rfl (tl_Root_isLike_2 C h1 FU 0 D hf)
theorem c_Root_isLike (Γ : GmT) {a1 : Nat} (h1 : kd a1 = 3) {D : Dt} {rr : Int32} {DD : Dt} (hf : f_Root_isLike a1 D = some (rr, DD)) : Mt Γ y_Root_isLike b_Root_isLike 3 (some .boolean) 1 [.ref (Γ.2.1 0), .ref (Γ.2.1 a1)] D (some (.int rr)) DD := Mt_of (by decide) (Nat.le_of_ble_eq_true rfl) (fun G C => te_Root_isLike C h1 hf)
def b_Root_gatherFits_77 (a1 : Nat) (k24 : Int32 → Dt → Option (Unit × Dt)) (v2 : Int32) (D : Dt) : Option (Unit × Dt) :=
  k24 (v2 + 1) D
set_option maxHeartbeats 4000000 in
theorem tb_Root_gatherFits_77 {Γ : GmT} {G : Dt → Nat → List (Nat × Value) → List Value → Prop} {rr : Unit} {DD : Dt} {a1 : Nat} (C : Cx Γ "RiverTuesdays" b_Root_gatherFits 4 6 none none DD G) (h1 : kd a1 = 3) {k24 : Int32 → Dt → Option (Unit × Dt)} (hk24 : ∀ (v2 : Int32) (D : Dt), k24 v2 D = some (rr, DD) → G D 24 [(0, .ref (Γ.2.1 0)), (1, .ref (Γ.2.1 a1)), (2, .int v2)] []) {v2 : Int32} {D : Dt} (hf : b_Root_gatherFits_77 a1 k24 v2 D = some (rr, DD)) : G D 77 [(0, .ref (Γ.2.1 0)), (1, .ref (Γ.2.1 a1)), (2, .int v2)] [] := by
  unfold b_Root_gatherFits_77 at hf
  refine r_iinc (pc := 77) C (v := v2 + 1) (lv' := [(2, .int (v2 + 1)), (0, .ref (Γ.2.1 0)), (1, .ref (Γ.2.1 a1))]) 2 d_Root_gatherFits_77 rfl rfl (Nat.le_of_ble_eq_true rfl) rfl ?_
  refine r_goto (pc := 80) C (tgt := 24) d_Root_gatherFits_80 (by decide) ?_
  exact r_lv (pc := 24) C [1, 2, 0] rfl (hk24 (v2 + 1) D hf)
def s_Root_gatherFits_24 (a1 : Nat) (k24 : Int32 → Dt → Option (Unit × Dt)) (v2 : Int32) (D : Dt) : Option (Unit × Dt) :=
  (if 256 ≤ v2 then some ((), D) else bnd (f_Root_mirrored v2 D) (fun x4 D5 => bnd (f_Tuesday_lead (3 + 1) x4 D5) (fun x6 D7 => bnd (f_Root_isLike a1 D7) (fun x8 D9 => (if x8 = 0 then b_Root_gatherFits_77 a1 k24 v2 D9 else (if inb 8 9 = true then bnd (f_Fits_add x4 (37 + 1 * (8 : Int32).toNatClampNeg) D9) (fun x10 D11 => b_Root_gatherFits_77 a1 k24 v2 D11) else none))))))
def lp_Root_gatherFits_24 (a1 : Nat) (n : Nat) : Int32 → Dt → Option (Unit × Dt) := itr (fun _ _ => none) (s_Root_gatherFits_24 a1) n
set_option maxHeartbeats 4000000 in
theorem ts_Root_gatherFits_24 {Γ : GmT} {G : Dt → Nat → List (Nat × Value) → List Value → Prop} {rr : Unit} {DD : Dt} {a1 : Nat} (C : Cx Γ "RiverTuesdays" b_Root_gatherFits 4 6 none none DD G) (h1 : kd a1 = 3) {k24 : Int32 → Dt → Option (Unit × Dt)} (hk24 : ∀ (v2 : Int32) (D : Dt), k24 v2 D = some (rr, DD) → G D 24 [(0, .ref (Γ.2.1 0)), (1, .ref (Γ.2.1 a1)), (2, .int v2)] []) {v2 : Int32} {D : Dt} (hf : s_Root_gatherFits_24 a1 k24 v2 D = some (rr, DD)) : G D 24 [(0, .ref (Γ.2.1 0)), (1, .ref (Γ.2.1 a1)), (2, .int v2)] [] := by
  unfold s_Root_gatherFits_24 at hf
  refine r_iload_n (pc := 24) C 2 d_Root_gatherFits_24 rfl rfl ?_
  refine r_sipush (pc := 25) C (v := 256) d_Root_gatherFits_25 (by decide) ?_
  refine r_icmp_ge (pc := 28) C (tgt := 83) d_Root_gatherFits_28 (by decide) hf (fun c28 hf => ?_) (fun c28 hf => ?_)
  · exact r_vret (pc := 83) C d_Root_gatherFits_83 hf
  · refine r_iload_n (pc := 31) C 2 d_Root_gatherFits_31 rfl rfl ?_
    refine r_callSi (pc := 32) (As := [.int v2]) (rest := []) C ok_Root_mirrored Lm_Root_294 ⟨by decide, by decide⟩ rfl rfl (Nat.le_of_ble_eq_true rfl) d_Root_gatherFits_32 hf (fun x D1 hc => c_Root_mirrored Γ hc) (fun x4 D5 hf => ?_)
    refine r_istore_n (pc := 35) (lv' := [(3, .int x4), (0, .ref (Γ.2.1 0)), (1, .ref (Γ.2.1 a1)), (2, .int v2)]) C d_Root_gatherFits_35 rfl (Nat.le_of_ble_eq_true rfl) rfl ?_
    refine r_aload_n (pc := 36) C 1 d_Root_gatherFits_36 rfl rfl ?_
    refine g_Root_today (pc := 37) C k_id0 Lf_Root_53 d_Root_gatherFits_37 ?_
    refine r_aload_n (pc := 40) C 1 d_Root_gatherFits_40 rfl rfl ?_
    refine g_Root_present (pc := 41) C k_id0 Lf_Root_24 d_Root_gatherFits_41 ?_
    refine g_Street_bed (pc := 44) C kq_Root_present Lf_Root_146 d_Root_gatherFits_44 ?_
    refine r_iload_n (pc := 47) C 0 d_Root_gatherFits_47 rfl rfl ?_
    refine r_callVv (pc := 48) (As := [.ref (Γ.2.1 (3 + 1)), .int x4]) (rest := []) C ok_Tuesday_lead Lm_Root_297 kq_Root_today (by decide) ⟨by decide, by decide⟩ rfl rfl (Nat.le_of_ble_eq_true rfl) d_Root_gatherFits_48 hf (fun x D1 hc => c_Tuesday_lead Γ (kq_Street_bed kq_Root_present) hc) (fun x6 D7 hf => ?_)
    refine r_aload_n (pc := 51) C 1 d_Root_gatherFits_51 rfl rfl ?_
    refine r_aload_n (pc := 52) C 2 d_Root_gatherFits_52 rfl rfl ?_
    refine r_callVi (pc := 53) (As := [.ref (Γ.2.1 a1)]) (rest := []) C ok_Root_isLike Lm_Root_435 k_id0 (by decide) ⟨by decide, by decide⟩ rfl rfl (Nat.le_of_ble_eq_true rfl) d_Root_gatherFits_53 hf (fun x D1 hc => c_Root_isLike Γ h1 hc) (fun x8 D9 hf => ?_)
    refine r_if_eq (pc := 56) C (tgt := 77) d_Root_gatherFits_56 (by decide) hf (fun c56 hf => ?_) (fun c56 hf => ?_)
    · exact r_lv (pc := 77) C [1, 2, 3] rfl (tb_Root_gatherFits_77 C h1 hk24 hf)
    · refine r_aload_n (pc := 59) C 1 d_Root_gatherFits_59 rfl rfl ?_
      refine g_Root_fits (pc := 60) C k_id0 Lf_Root_60 d_Root_gatherFits_60 ?_
      refine r_iload_n (pc := 63) C 0 d_Root_gatherFits_63 rfl rfl ?_
      refine r_aload_n (pc := 64) C 1 d_Root_gatherFits_64 rfl rfl ?_
      refine g_Root_today (pc := 65) C k_id0 Lf_Root_53 d_Root_gatherFits_65 ?_
      refine g_Tuesday_markAt (pc := 68) C kq_Root_today Lf_Root_268 d_Root_gatherFits_68 ?_
      refine r_bipush (pc := 71) C (v := 8) d_Root_gatherFits_71 (by decide) ?_
      refine r_aald17 (pc := 73) C kq_Tuesday_markAt d_Root_gatherFits_73 hf (fun hn73 hf => ?_)
      refine r_callVv (pc := 74) (As := [.int x4, .ref (Γ.2.1 (37 + 1 * (8 : Int32).toNatClampNeg))]) (rest := []) C ok_Fits_add Lm_Root_439 kq_Root_fits (by decide) ⟨by decide, by decide⟩ rfl rfl (Nat.le_of_ble_eq_true rfl) d_Root_gatherFits_74 hf (fun x D1 hc => c_Fits_add Γ ((ke17 _ (inb_lt hn73))).1 hc) (fun x10 D11 hf => ?_)
      exact r_lv (pc := 77) C [1, 2, 3] rfl (tb_Root_gatherFits_77 C h1 hk24 hf)
theorem tl_Root_gatherFits_24 {Γ : GmT} {G : Dt → Nat → List (Nat × Value) → List Value → Prop} {rr : Unit} {DD : Dt} {a1 : Nat} (C : Cx Γ "RiverTuesdays" b_Root_gatherFits 4 6 none none DD G) (h1 : kd a1 = 3) : ∀ (n : Nat) (v2 : Int32) (D : Dt), lp_Root_gatherFits_24 a1 n v2 D = some (rr, DD) → G D 24 [(0, .ref (Γ.2.1 0)), (1, .ref (Γ.2.1 a1)), (2, .int v2)] [] := by
  intro n
  induction n with
  | zero =>
    intro v2 D hf
    exact absurd (show (none : Option (Unit × Dt)) = some (rr, DD) from hf) (by simp)
  | succ n ih =>
    intro v2 D hf
    exact ts_Root_gatherFits_24 C h1 (k24 := lp_Root_gatherFits_24 a1 n) ih hf
def f_Root_gatherFits (a1 : Nat) (D : Dt) : Option (Unit × Dt) :=
  nm (wr D 100 3 0) (fun D1 => bnd (f_Tuesday_begin (3 + 7) D1) (fun x2 D3 => lp_Root_gatherFits_24 a1 FU 0 D3))
set_option maxHeartbeats 4000000 in
theorem te_Root_gatherFits {Γ : GmT} {G : Dt → Nat → List (Nat × Value) → List Value → Prop} {rr : Unit} {DD : Dt} {a1 : Nat} (C : Cx Γ "RiverTuesdays" b_Root_gatherFits 4 6 none none DD G) (h1 : kd a1 = 3) {D : Dt} (hf : f_Root_gatherFits a1 D = some (rr, DD)) : G D 0 [(0, .ref (Γ.2.1 0)), (1, .ref (Γ.2.1 a1))] [] := by
  unfold f_Root_gatherFits at hf
  refine r_aload_n (pc := 0) C 0 d_Root_gatherFits_0 rfl rfl ?_
  refine g_Root_fits (pc := 1) C k_id0 Lf_Root_60 d_Root_gatherFits_1 ?_
  refine r_iconst (pc := 4) C (v := 0) d_Root_gatherFits_4 (by decide) ?_
  refine p_Fits_size (pc := 5) C kq_Root_fits Lf_Root_322 d_Root_gatherFits_5 ?_
  refine r_nmD hf (fun D1 hf => ?_)
  refine r_aload_n (pc := 8) C 0 d_Root_gatherFits_8 rfl rfl ?_
  refine g_Root_today (pc := 9) C k_id0 Lf_Root_53 d_Root_gatherFits_9 ?_
  refine r_aload_n (pc := 12) C 0 d_Root_gatherFits_12 rfl rfl ?_
  refine g_Root_present (pc := 13) C k_id0 Lf_Root_24 d_Root_gatherFits_13 ?_
  refine g_Street_now (pc := 16) C kq_Root_present Lf_Root_168 d_Root_gatherFits_16 ?_
  refine r_callVv (pc := 19) (As := [.ref (Γ.2.1 (3 + 7))]) (rest := []) C ok_Tuesday_begin Lm_Root_291 kq_Root_today (by decide) ⟨by decide, by decide⟩ rfl rfl (Nat.le_of_ble_eq_true rfl) d_Root_gatherFits_19 hf (fun x D1 hc => c_Tuesday_begin Γ (kq_Street_now kq_Root_present) hc) (fun x2 D3 hf => ?_)
  refine r_iconst (pc := 22) C (v := 0) d_Root_gatherFits_22 (by decide) ?_
  refine r_istore_n (pc := 23) (lv' := [(2, .int 0), (0, .ref (Γ.2.1 0)), (1, .ref (Γ.2.1 a1))]) C d_Root_gatherFits_23 rfl (Nat.le_of_ble_eq_true rfl) rfl ?_
  exact r_lv (pc := 24) C [1, 2, 0] rfl (tl_Root_gatherFits_24 C h1 FU 0 D3 hf)
theorem c_Root_gatherFits (Γ : GmT) {a1 : Nat} (h1 : kd a1 = 3) {D : Dt} {rr : Unit} {DD : Dt} (hf : f_Root_gatherFits a1 D = some (rr, DD)) : Mt Γ y_Root_gatherFits b_Root_gatherFits 4 none 6 [.ref (Γ.2.1 0), .ref (Γ.2.1 a1)] D none DD := Mt_of (by decide) (Nat.le_of_ble_eq_true rfl) (fun G C => te_Root_gatherFits C h1 hf)
def b_Root_refusedMarks_115 (k67 : Int32 → Int32 → Dt → Option (Int32 × Dt)) (v1 : Int32) (v2 : Int32) (D : Dt) : Option (Int32 × Dt) :=
  k67 v1 (v2 + 1) D
set_option maxHeartbeats 4000000 in
theorem tb_Root_refusedMarks_115 {Γ : GmT} {G : Dt → Nat → List (Nat × Value) → List Value → Prop} {rr : Int32} {DD : Dt} (C : Cx Γ "RiverTuesdays" b_Root_refusedMarks 4 3 (some .int) (some (.int rr)) DD G) {k67 : Int32 → Int32 → Dt → Option (Int32 × Dt)} (hk67 : ∀ (v1 : Int32) (v2 : Int32) (D : Dt), k67 v1 v2 D = some (rr, DD) → G D 67 [(0, .ref (Γ.2.1 0)), (1, .int v1), (2, .int v2)] []) {v1 : Int32} {v2 : Int32} {D : Dt} (hf : b_Root_refusedMarks_115 k67 v1 v2 D = some (rr, DD)) : G D 115 [(0, .ref (Γ.2.1 0)), (1, .int v1), (2, .int v2)] [] := by
  unfold b_Root_refusedMarks_115 at hf
  refine r_iinc (pc := 115) C (v := v2 + 1) (lv' := [(2, .int (v2 + 1)), (0, .ref (Γ.2.1 0)), (1, .int v1)]) 2 d_Root_refusedMarks_115 rfl rfl (Nat.le_of_ble_eq_true rfl) rfl ?_
  refine r_goto (pc := 118) C (tgt := 67) d_Root_refusedMarks_118 (by decide) ?_
  exact r_lv (pc := 67) C [1, 2, 0] rfl (hk67 v1 (v2 + 1) D hf)
def s_Root_refusedMarks_67 (k67 : Int32 → Int32 → Dt → Option (Int32 × Dt)) (v1 : Int32) (v2 : Int32) (D : Dt) : Option (Int32 × Dt) :=
  (if inb v1 6 = true then (if (D (111 + 2 * v1.toNatClampNeg) 1) ≤ v2 then some (0, D) else (if inb v1 6 = true then (if inb v2 60 = true then nm (D ((111 + 2 * v1.toNatClampNeg) + 1) v2.toNatClampNeg) (fun x7 => (if x7 = (-9) then b_Root_refusedMarks_115 k67 v1 v2 D else bnd (f_Root_isWithin x7 0 999 D) (fun x8 D9 => (if x8 = 0 then bnd (f_Root_find 3 D9) (fun x10 D11 => some (x10, D11)) else b_Root_refusedMarks_115 k67 v1 v2 D9)))) else none) else none)) else none)
def lp_Root_refusedMarks_67 (n : Nat) : Int32 → Int32 → Dt → Option (Int32 × Dt) := itr (fun _ _ _ => none) (s_Root_refusedMarks_67) n
set_option maxHeartbeats 4000000 in
theorem ts_Root_refusedMarks_67 {Γ : GmT} {G : Dt → Nat → List (Nat × Value) → List Value → Prop} {rr : Int32} {DD : Dt} (C : Cx Γ "RiverTuesdays" b_Root_refusedMarks 4 3 (some .int) (some (.int rr)) DD G) {k67 : Int32 → Int32 → Dt → Option (Int32 × Dt)} (hk67 : ∀ (v1 : Int32) (v2 : Int32) (D : Dt), k67 v1 v2 D = some (rr, DD) → G D 67 [(0, .ref (Γ.2.1 0)), (1, .int v1), (2, .int v2)] []) {v1 : Int32} {v2 : Int32} {D : Dt} (hf : s_Root_refusedMarks_67 k67 v1 v2 D = some (rr, DD)) : G D 67 [(0, .ref (Γ.2.1 0)), (1, .int v1), (2, .int v2)] [] := by
  unfold s_Root_refusedMarks_67 at hf
  refine r_iload_n (pc := 67) C 2 d_Root_refusedMarks_67 rfl rfl ?_
  refine r_aload_n (pc := 68) C 0 d_Root_refusedMarks_68 rfl rfl ?_
  refine g_Root_rows (pc := 69) C k_id0 Lf_Root_11 d_Root_refusedMarks_69 ?_
  refine r_iload_n (pc := 72) C 1 d_Root_refusedMarks_72 rfl rfl ?_
  refine r_aald13 (pc := 73) C kq_Root_rows d_Root_refusedMarks_73 hf (fun hn73 hf => ?_)
  refine g_Row_size (pc := 74) C (ke13 _ (inb_lt hn73)) Lf_Root_105 d_Root_refusedMarks_74 ?_
  refine r_icmp_ge (pc := 77) C (tgt := 121) d_Root_refusedMarks_77 (by decide) hf (fun c77 hf => ?_) (fun c77 hf => ?_)
  · refine r_iconst (pc := 121) C (v := 0) d_Root_refusedMarks_121 (by decide) ?_
    exact r_iret (pc := 122) C d_Root_refusedMarks_122 hf
  · refine r_aload_n (pc := 80) C 0 d_Root_refusedMarks_80 rfl rfl ?_
    refine g_Root_rows (pc := 81) C k_id0 Lf_Root_11 d_Root_refusedMarks_81 ?_
    refine r_iload_n (pc := 84) C 1 d_Root_refusedMarks_84 rfl rfl ?_
    refine r_aald13 (pc := 85) C kq_Root_rows d_Root_refusedMarks_85 hf (fun hn85 hf => ?_)
    refine g_Row_places (pc := 86) C (ke13 _ (inb_lt hn85)) Lf_Root_96 d_Root_refusedMarks_86 ?_
    refine r_iload_n (pc := 89) C 2 d_Root_refusedMarks_89 rfl rfl ?_
    refine r_iald (pc := 90) C (kq_Row_places (ke13 _ (inb_lt hn85))) d_Root_refusedMarks_90 hf (fun hf => ?_)
    refine r_nmi (pc := 91) hf (fun x7 hf => ?_)
    refine r_istore_n (pc := 91) (lv' := [(3, .int x7), (0, .ref (Γ.2.1 0)), (1, .int v1), (2, .int v2)]) C d_Root_refusedMarks_91 rfl (Nat.le_of_ble_eq_true rfl) rfl ?_
    refine r_iload_n (pc := 92) C 0 d_Root_refusedMarks_92 rfl rfl ?_
    refine r_bipush (pc := 93) C (v := (-9)) d_Root_refusedMarks_93 (by decide) ?_
    refine r_icmp_eq (pc := 95) C (tgt := 115) d_Root_refusedMarks_95 (by decide) hf (fun c95 hf => ?_) (fun c95 hf => ?_)
    · exact r_lv (pc := 115) C [1, 2, 3] rfl (tb_Root_refusedMarks_115 C hk67 hf)
    · refine r_iload_n (pc := 98) C 0 d_Root_refusedMarks_98 rfl rfl ?_
      refine r_iconst (pc := 99) C (v := 0) d_Root_refusedMarks_99 (by decide) ?_
      refine r_sipush (pc := 100) C (v := 999) d_Root_refusedMarks_100 (by decide) ?_
      refine r_callSi (pc := 103) (As := [.int x7, .int 0, .int 999]) (rest := []) C ok_Root_isWithin Lm_Root_155 ⟨by decide, by decide⟩ rfl rfl (Nat.le_of_ble_eq_true rfl) d_Root_refusedMarks_103 hf (fun x D1 hc => c_Root_isWithin Γ hc) (fun x8 D9 hf => ?_)
      refine r_if_ne (pc := 106) C (tgt := 115) d_Root_refusedMarks_106 (by decide) hf (fun c106 hf => ?_) (fun c106 hf => ?_)
      · exact r_lv (pc := 115) C [1, 2, 3] rfl (tb_Root_refusedMarks_115 C hk67 hf)
      · refine r_aload_n (pc := 109) C 1 d_Root_refusedMarks_109 rfl rfl ?_
        refine r_iconst (pc := 110) C (v := 3) d_Root_refusedMarks_110 (by decide) ?_
        refine r_callVi (pc := 111) (As := [.int 3]) (rest := []) C ok_Root_find Lm_Root_84 k_id0 (by decide) ⟨by decide, by decide⟩ rfl rfl (Nat.le_of_ble_eq_true rfl) d_Root_refusedMarks_111 hf (fun x D1 hc => c_Root_find Γ hc) (fun x10 D11 hf => ?_)
        exact r_iret (pc := 114) C d_Root_refusedMarks_114 hf
theorem tl_Root_refusedMarks_67 {Γ : GmT} {G : Dt → Nat → List (Nat × Value) → List Value → Prop} {rr : Int32} {DD : Dt} (C : Cx Γ "RiverTuesdays" b_Root_refusedMarks 4 3 (some .int) (some (.int rr)) DD G) : ∀ (n : Nat) (v1 : Int32) (v2 : Int32) (D : Dt), lp_Root_refusedMarks_67 n v1 v2 D = some (rr, DD) → G D 67 [(0, .ref (Γ.2.1 0)), (1, .int v1), (2, .int v2)] [] := by
  intro n
  induction n with
  | zero =>
    intro v1 v2 D hf
    exact absurd (show (none : Option (Int32 × Dt)) = some (rr, DD) from hf) (by simp)
  | succ n ih =>
    intro v1 v2 D hf
    exact ts_Root_refusedMarks_67 C (k67 := lp_Root_refusedMarks_67 n) ih hf
def f_Root_refusedMarks (v1 : Int32) (D : Dt) : Option (Int32 × Dt) :=
  bnd (f_Root_isRow v1 D) (fun x1 D2 => (if x1 = 0 then some ((-1), D2) else bnd (f_Root_hasHouses D2) (fun x3 D4 => (if x3 = 0 then some ((-4), D4) else (if inb v1 6 = true then bnd (f_Row_isThere (111 + 2 * v1.toNatClampNeg) D4) (fun x5 D6 => (if x5 = 0 then bnd (f_Root_find 1 D6) (fun x14 D15 => some (x14, D15)) else (if inb v1 6 = true then (if (D6 (111 + 2 * v1.toNatClampNeg) 1) = (D6 (3 + 1) 5) then lp_Root_refusedMarks_67 FU v1 0 D6 else bnd (f_Root_find 5 D6) (fun x12 D13 => some (x12, D13))) else none))) else none)))))
set_option maxHeartbeats 4000000 in
theorem te_Root_refusedMarks {Γ : GmT} {G : Dt → Nat → List (Nat × Value) → List Value → Prop} {rr : Int32} {DD : Dt} (C : Cx Γ "RiverTuesdays" b_Root_refusedMarks 4 3 (some .int) (some (.int rr)) DD G) {v1 : Int32} {D : Dt} (hf : f_Root_refusedMarks v1 D = some (rr, DD)) : G D 0 [(0, .ref (Γ.2.1 0)), (1, .int v1)] [] := by
  unfold f_Root_refusedMarks at hf
  refine r_iload_n (pc := 0) C 1 d_Root_refusedMarks_0 rfl rfl ?_
  refine r_callSi (pc := 1) (As := [.int v1]) (rest := []) C ok_Root_isRow Lm_Root_80 ⟨by decide, by decide⟩ rfl rfl (Nat.le_of_ble_eq_true rfl) d_Root_refusedMarks_1 hf (fun x D1 hc => c_Root_isRow Γ hc) (fun x1 D2 hf => ?_)
  refine r_if_ne (pc := 4) C (tgt := 9) d_Root_refusedMarks_4 (by decide) hf (fun c4 hf => ?_) (fun c4 hf => ?_)
  · refine r_aload_n (pc := 9) C 0 d_Root_refusedMarks_9 rfl rfl ?_
    refine r_callVi (pc := 10) (As := []) (rest := []) C ok_Root_hasHouses Lm_Root_190 k_id0 (by decide) ⟨by decide, by decide⟩ rfl rfl (Nat.le_of_ble_eq_true rfl) d_Root_refusedMarks_10 hf (fun x D1 hc => c_Root_hasHouses Γ hc) (fun x3 D4 hf => ?_)
    refine r_if_ne (pc := 13) C (tgt := 19) d_Root_refusedMarks_13 (by decide) hf (fun c13 hf => ?_) (fun c13 hf => ?_)
    · refine r_aload_n (pc := 19) C 0 d_Root_refusedMarks_19 rfl rfl ?_
      refine g_Root_rows (pc := 20) C k_id0 Lf_Root_11 d_Root_refusedMarks_20 ?_
      refine r_iload_n (pc := 23) C 1 d_Root_refusedMarks_23 rfl rfl ?_
      refine r_aald13 (pc := 24) C kq_Root_rows d_Root_refusedMarks_24 hf (fun hn24 hf => ?_)
      refine r_callVi (pc := 25) (As := []) (rest := []) C ok_Row_isThere Lm_Root_109 (ke13 _ (inb_lt hn24)) (by decide) ⟨by decide, by decide⟩ rfl rfl (Nat.le_of_ble_eq_true rfl) d_Root_refusedMarks_25 hf (fun x D1 hc => c_Row_isThere Γ (ke13 _ (inb_lt hn24)) hc) (fun x5 D6 hf => ?_)
      refine r_if_ne (pc := 28) C (tgt := 37) d_Root_refusedMarks_28 (by decide) hf (fun c28 hf => ?_) (fun c28 hf => ?_)
      · refine r_aload_n (pc := 37) C 0 d_Root_refusedMarks_37 rfl rfl ?_
        refine g_Root_rows (pc := 38) C k_id0 Lf_Root_11 d_Root_refusedMarks_38 ?_
        refine r_iload_n (pc := 41) C 1 d_Root_refusedMarks_41 rfl rfl ?_
        refine r_aald13 (pc := 42) C kq_Root_rows d_Root_refusedMarks_42 hf (fun hn42 hf => ?_)
        refine g_Row_size (pc := 43) C (ke13 _ (inb_lt hn42)) Lf_Root_105 d_Root_refusedMarks_43 ?_
        refine r_aload_n (pc := 46) C 0 d_Root_refusedMarks_46 rfl rfl ?_
        refine g_Root_present (pc := 47) C k_id0 Lf_Root_24 d_Root_refusedMarks_47 ?_
        refine g_Street_bed (pc := 50) C kq_Root_present Lf_Root_146 d_Root_refusedMarks_50 ?_
        refine g_Bed_houses (pc := 53) C (kq_Street_bed kq_Root_present) Lf_Root_149 d_Root_refusedMarks_53 ?_
        refine r_icmp_eq (pc := 56) C (tgt := 65) d_Root_refusedMarks_56 (by decide) hf (fun c56 hf => ?_) (fun c56 hf => ?_)
        · refine r_iconst (pc := 65) C (v := 0) d_Root_refusedMarks_65 (by decide) ?_
          refine r_istore_n (pc := 66) (lv' := [(2, .int 0), (0, .ref (Γ.2.1 0)), (1, .int v1)]) C d_Root_refusedMarks_66 rfl (Nat.le_of_ble_eq_true rfl) rfl ?_
          exact r_lv (pc := 67) C [1, 2, 0] rfl (tl_Root_refusedMarks_67 C FU v1 0 D6 hf)
        · refine r_aload_n (pc := 59) C 0 d_Root_refusedMarks_59 rfl rfl ?_
          refine r_iconst (pc := 60) C (v := 5) d_Root_refusedMarks_60 (by decide) ?_
          refine r_callVi (pc := 61) (As := [.int 5]) (rest := []) C ok_Root_find Lm_Root_84 k_id0 (by decide) ⟨by decide, by decide⟩ rfl rfl (Nat.le_of_ble_eq_true rfl) d_Root_refusedMarks_61 hf (fun x D1 hc => c_Root_find Γ hc) (fun x12 D13 hf => ?_)
          exact r_iret (pc := 64) C d_Root_refusedMarks_64 hf
      · refine r_aload_n (pc := 31) C 0 d_Root_refusedMarks_31 rfl rfl ?_
        refine r_iconst (pc := 32) C (v := 1) d_Root_refusedMarks_32 (by decide) ?_
        refine r_callVi (pc := 33) (As := [.int 1]) (rest := []) C ok_Root_find Lm_Root_84 k_id0 (by decide) ⟨by decide, by decide⟩ rfl rfl (Nat.le_of_ble_eq_true rfl) d_Root_refusedMarks_33 hf (fun x D1 hc => c_Root_find Γ hc) (fun x14 D15 hf => ?_)
        exact r_iret (pc := 36) C d_Root_refusedMarks_36 hf
    · refine r_bipush (pc := 16) C (v := (-4)) d_Root_refusedMarks_16 (by decide) ?_
      exact r_iret (pc := 18) C d_Root_refusedMarks_18 hf
  · refine r_iconst (pc := 7) C (v := (-1)) d_Root_refusedMarks_7 (by decide) ?_
    exact r_iret (pc := 8) C d_Root_refusedMarks_8 hf
theorem c_Root_refusedMarks (Γ : GmT) {v1 : Int32} {D : Dt} {rr : Int32} {DD : Dt} (hf : f_Root_refusedMarks v1 D = some (rr, DD)) : Mt Γ y_Root_refusedMarks b_Root_refusedMarks 4 (some .int) 3 [.ref (Γ.2.1 0), .int v1] D (some (.int rr)) DD := Mt_of (by decide) (Nat.le_of_ble_eq_true rfl) (fun G C => te_Root_refusedMarks C hf)
def f_Root_led (v1 : Int32) (D : Dt) : Option (Int32 × Dt) :=
  bnd (f_Root_refusedMarks v1 D) (fun x1 D2 => (if x1 = 0 then (if inb v1 6 = true then bnd (f_Root_gatherFits (111 + 2 * v1.toNatClampNeg) D2) (fun x3 D4 => bnd (f_Fits_leastPlan D4) (fun x5 D6 => bnd (f_Root_tell x5 (D6 100 3) D6) (fun x7 D8 => some (x7, D8)))) else none) else some (x1, D2)))
set_option maxHeartbeats 4000000 in
theorem te_Root_led {Γ : GmT} {G : Dt → Nat → List (Nat × Value) → List Value → Prop} {rr : Int32} {DD : Dt} (C : Cx Γ "RiverTuesdays" b_Root_led 3 7 (some .int) (some (.int rr)) DD G) {v1 : Int32} {D : Dt} (hf : f_Root_led v1 D = some (rr, DD)) : G D 0 [(0, .ref (Γ.2.1 0)), (1, .int v1)] [] := by
  unfold f_Root_led at hf
  refine r_aload_n (pc := 0) C 0 d_Root_led_0 rfl rfl ?_
  refine r_iload_n (pc := 1) C 1 d_Root_led_1 rfl rfl ?_
  refine r_callVi (pc := 2) (As := [.int v1]) (rest := []) C ok_Root_refusedMarks Lm_Root_312 k_id0 (by decide) ⟨by decide, by decide⟩ rfl rfl (Nat.le_of_ble_eq_true rfl) d_Root_led_2 hf (fun x D1 hc => c_Root_refusedMarks Γ hc) (fun x1 D2 hf => ?_)
  refine r_istore_n (pc := 5) (lv' := [(2, .int x1), (0, .ref (Γ.2.1 0)), (1, .int v1)]) C d_Root_led_5 rfl (Nat.le_of_ble_eq_true rfl) rfl ?_
  refine r_iload_n (pc := 6) C 0 d_Root_led_6 rfl rfl ?_
  refine r_if_eq (pc := 7) C (tgt := 12) d_Root_led_7 (by decide) hf (fun c7 hf => ?_) (fun c7 hf => ?_)
  · refine r_aload_n (pc := 12) C 1 d_Root_led_12 rfl rfl ?_
    refine r_aload_n (pc := 13) C 1 d_Root_led_13 rfl rfl ?_
    refine g_Root_rows (pc := 14) C k_id0 Lf_Root_11 d_Root_led_14 ?_
    refine r_iload_n (pc := 17) C 2 d_Root_led_17 rfl rfl ?_
    refine r_aald13 (pc := 18) C kq_Root_rows d_Root_led_18 hf (fun hn18 hf => ?_)
    refine r_callVv (pc := 19) (As := [.ref (Γ.2.1 (111 + 2 * v1.toNatClampNeg))]) (rest := []) C ok_Root_gatherFits Lm_Root_315 k_id0 (by decide) ⟨by decide, by decide⟩ rfl rfl (Nat.le_of_ble_eq_true rfl) d_Root_led_19 hf (fun x D1 hc => c_Root_gatherFits Γ (ke13 _ (inb_lt hn18)) hc) (fun x3 D4 hf => ?_)
    refine r_aload_n (pc := 22) C 1 d_Root_led_22 rfl rfl ?_
    refine r_aload_n (pc := 23) C 1 d_Root_led_23 rfl rfl ?_
    refine g_Root_fits (pc := 24) C k_id0 Lf_Root_60 d_Root_led_24 ?_
    refine r_callVi (pc := 27) (As := []) (rest := [.ref (Γ.2.1 0)]) C ok_Fits_leastPlan Lm_Root_319 kq_Root_fits (by decide) ⟨by decide, by decide⟩ rfl rfl (Nat.le_of_ble_eq_true rfl) d_Root_led_27 hf (fun x D1 hc => c_Fits_leastPlan Γ hc) (fun x5 D6 hf => ?_)
    refine r_aload_n (pc := 30) C 1 d_Root_led_30 rfl rfl ?_
    refine g_Root_fits (pc := 31) C k_id0 Lf_Root_60 d_Root_led_31 ?_
    refine g_Fits_size (pc := 34) C kq_Root_fits Lf_Root_322 d_Root_led_34 ?_
    refine r_callVi (pc := 37) (As := [.int x5, .int (D6 100 3)]) (rest := []) C ok_Root_tell Lm_Root_99 k_id0 (by decide) ⟨by decide, by decide⟩ rfl rfl (Nat.le_of_ble_eq_true rfl) d_Root_led_37 hf (fun x D1 hc => c_Root_tell Γ hc) (fun x7 D8 hf => ?_)
    exact r_iret (pc := 40) C d_Root_led_40 hf
  · refine r_iload_n (pc := 10) C 0 d_Root_led_10 rfl rfl ?_
    exact r_iret (pc := 11) C d_Root_led_11 hf
theorem c_Root_led (Γ : GmT) {v1 : Int32} {D : Dt} {rr : Int32} {DD : Dt} (hf : f_Root_led v1 D = some (rr, DD)) : Mt Γ y_Root_led b_Root_led 3 (some .int) 7 [.ref (Γ.2.1 0), .int v1] D (some (.int rr)) DD := Mt_of (by decide) (Nat.le_of_ble_eq_true rfl) (fun G C => te_Root_led C hf)
def f_Root_sure (v1 : Int32) (D : Dt) : Option (Int32 × Dt) :=
  bnd (f_Root_refusedMarks v1 D) (fun x1 D2 => (if x1 = 0 then (if inb v1 6 = true then bnd (f_Root_gatherFits (111 + 2 * v1.toNatClampNeg) D2) (fun x3 D4 => (if (D4 100 3) = 0 then bnd (f_Root_find 4 D4) (fun x11 D12 => some (x11, D12)) else bnd (f_Fits_shutInAll D4) (fun x5 D6 => bnd (f_Fits_openInAll D6) (fun x7 D8 => bnd (f_Root_tell x5 x7 D8) (fun x9 D10 => some (x9, D10)))))) else none) else some (x1, D2)))
set_option maxHeartbeats 4000000 in
theorem te_Root_sure {Γ : GmT} {G : Dt → Nat → List (Nat × Value) → List Value → Prop} {rr : Int32} {DD : Dt} (C : Cx Γ "RiverTuesdays" b_Root_sure 3 7 (some .int) (some (.int rr)) DD G) {v1 : Int32} {D : Dt} (hf : f_Root_sure v1 D = some (rr, DD)) : G D 0 [(0, .ref (Γ.2.1 0)), (1, .int v1)] [] := by
  unfold f_Root_sure at hf
  refine r_aload_n (pc := 0) C 0 d_Root_sure_0 rfl rfl ?_
  refine r_iload_n (pc := 1) C 1 d_Root_sure_1 rfl rfl ?_
  refine r_callVi (pc := 2) (As := [.int v1]) (rest := []) C ok_Root_refusedMarks Lm_Root_312 k_id0 (by decide) ⟨by decide, by decide⟩ rfl rfl (Nat.le_of_ble_eq_true rfl) d_Root_sure_2 hf (fun x D1 hc => c_Root_refusedMarks Γ hc) (fun x1 D2 hf => ?_)
  refine r_istore_n (pc := 5) (lv' := [(2, .int x1), (0, .ref (Γ.2.1 0)), (1, .int v1)]) C d_Root_sure_5 rfl (Nat.le_of_ble_eq_true rfl) rfl ?_
  refine r_iload_n (pc := 6) C 0 d_Root_sure_6 rfl rfl ?_
  refine r_if_eq (pc := 7) C (tgt := 12) d_Root_sure_7 (by decide) hf (fun c7 hf => ?_) (fun c7 hf => ?_)
  · refine r_aload_n (pc := 12) C 1 d_Root_sure_12 rfl rfl ?_
    refine r_aload_n (pc := 13) C 1 d_Root_sure_13 rfl rfl ?_
    refine g_Root_rows (pc := 14) C k_id0 Lf_Root_11 d_Root_sure_14 ?_
    refine r_iload_n (pc := 17) C 2 d_Root_sure_17 rfl rfl ?_
    refine r_aald13 (pc := 18) C kq_Root_rows d_Root_sure_18 hf (fun hn18 hf => ?_)
    refine r_callVv (pc := 19) (As := [.ref (Γ.2.1 (111 + 2 * v1.toNatClampNeg))]) (rest := []) C ok_Root_gatherFits Lm_Root_315 k_id0 (by decide) ⟨by decide, by decide⟩ rfl rfl (Nat.le_of_ble_eq_true rfl) d_Root_sure_19 hf (fun x D1 hc => c_Root_gatherFits Γ (ke13 _ (inb_lt hn18)) hc) (fun x3 D4 hf => ?_)
    refine r_aload_n (pc := 22) C 1 d_Root_sure_22 rfl rfl ?_
    refine g_Root_fits (pc := 23) C k_id0 Lf_Root_60 d_Root_sure_23 ?_
    refine g_Fits_size (pc := 26) C kq_Root_fits Lf_Root_322 d_Root_sure_26 ?_
    refine r_if_ne (pc := 29) C (tgt := 38) d_Root_sure_29 (by decide) hf (fun c29 hf => ?_) (fun c29 hf => ?_)
    · refine r_aload_n (pc := 38) C 1 d_Root_sure_38 rfl rfl ?_
      refine r_aload_n (pc := 39) C 1 d_Root_sure_39 rfl rfl ?_
      refine g_Root_fits (pc := 40) C k_id0 Lf_Root_60 d_Root_sure_40 ?_
      refine r_callVi (pc := 43) (As := []) (rest := [.ref (Γ.2.1 0)]) C ok_Fits_shutInAll Lm_Root_323 kq_Root_fits (by decide) ⟨by decide, by decide⟩ rfl rfl (Nat.le_of_ble_eq_true rfl) d_Root_sure_43 hf (fun x D1 hc => c_Fits_shutInAll Γ hc) (fun x5 D6 hf => ?_)
      refine r_aload_n (pc := 46) C 1 d_Root_sure_46 rfl rfl ?_
      refine g_Root_fits (pc := 47) C k_id0 Lf_Root_60 d_Root_sure_47 ?_
      refine r_callVi (pc := 50) (As := []) (rest := [.int x5, .ref (Γ.2.1 0)]) C ok_Fits_openInAll Lm_Root_326 kq_Root_fits (by decide) ⟨by decide, by decide⟩ rfl rfl (Nat.le_of_ble_eq_true rfl) d_Root_sure_50 hf (fun x D1 hc => c_Fits_openInAll Γ hc) (fun x7 D8 hf => ?_)
      refine r_callVi (pc := 53) (As := [.int x5, .int x7]) (rest := []) C ok_Root_tell Lm_Root_99 k_id0 (by decide) ⟨by decide, by decide⟩ rfl rfl (Nat.le_of_ble_eq_true rfl) d_Root_sure_53 hf (fun x D1 hc => c_Root_tell Γ hc) (fun x9 D10 hf => ?_)
      exact r_iret (pc := 56) C d_Root_sure_56 hf
    · refine r_aload_n (pc := 32) C 1 d_Root_sure_32 rfl rfl ?_
      refine r_iconst (pc := 33) C (v := 4) d_Root_sure_33 (by decide) ?_
      refine r_callVi (pc := 34) (As := [.int 4]) (rest := []) C ok_Root_find Lm_Root_84 k_id0 (by decide) ⟨by decide, by decide⟩ rfl rfl (Nat.le_of_ble_eq_true rfl) d_Root_sure_34 hf (fun x D1 hc => c_Root_find Γ hc) (fun x11 D12 hf => ?_)
      exact r_iret (pc := 37) C d_Root_sure_37 hf
  · refine r_iload_n (pc := 10) C 0 d_Root_sure_10 rfl rfl ?_
    exact r_iret (pc := 11) C d_Root_sure_11 hf
theorem c_Root_sure (Γ : GmT) {v1 : Int32} {D : Dt} {rr : Int32} {DD : Dt} (hf : f_Root_sure v1 D = some (rr, DD)) : Mt Γ y_Root_sure b_Root_sure 3 (some .int) 7 [.ref (Γ.2.1 0), .int v1] D (some (.int rr)) DD := Mt_of (by decide) (Nat.le_of_ble_eq_true rfl) (fun G C => te_Root_sure C hf)
def b_Root_look_112 (k49 : Int32 → Int32 → Int32 → Int32 → Dt → Option (Int32 × Dt)) (v1 : Int32) (v3 : Int32) (v4 : Int32) (v5 : Int32) (D : Dt) : Option (Int32 × Dt) :=
  k49 v1 v3 v4 (v5 + 1) D
set_option maxHeartbeats 4000000 in
theorem tb_Root_look_112 {Γ : GmT} {G : Dt → Nat → List (Nat × Value) → List Value → Prop} {rr : Int32} {DD : Dt} (C : Cx Γ "RiverTuesdays" b_Root_look 7 7 (some .int) (some (.int rr)) DD G) {k49 : Int32 → Int32 → Int32 → Int32 → Dt → Option (Int32 × Dt)} (hk49 : ∀ (v1 : Int32) (v3 : Int32) (v4 : Int32) (v5 : Int32) (D : Dt), k49 v1 v3 v4 v5 D = some (rr, DD) → G D 49 [(0, .ref (Γ.2.1 0)), (1, .int v1), (3, .int v3), (4, .int v4), (5, .int v5)] []) {v1 : Int32} {v3 : Int32} {v4 : Int32} {v5 : Int32} {D : Dt} (hf : b_Root_look_112 k49 v1 v3 v4 v5 D = some (rr, DD)) : G D 112 [(0, .ref (Γ.2.1 0)), (1, .int v1), (3, .int v3), (4, .int v4), (5, .int v5)] [] := by
  unfold b_Root_look_112 at hf
  refine r_iinc (pc := 112) C (v := v5 + 1) (lv' := [(5, .int (v5 + 1)), (0, .ref (Γ.2.1 0)), (1, .int v1), (3, .int v3), (4, .int v4)]) 4 d_Root_look_112 rfl rfl (Nat.le_of_ble_eq_true rfl) rfl ?_
  refine r_goto (pc := 115) C (tgt := 49) d_Root_look_115 (by decide) ?_
  exact r_lv (pc := 49) C [1, 2, 3, 4, 0] rfl (hk49 v1 v3 v4 (v5 + 1) D hf)
def b_Root_look_96 (k49 : Int32 → Int32 → Int32 → Int32 → Dt → Option (Int32 × Dt)) (v1 : Int32) (v3 : Int32) (v4 : Int32) (v5 : Int32) (s0 : Int32) (D : Dt) : Option (Int32 × Dt) :=
  (if v4 ≤ s0 then b_Root_look_112 k49 v1 v3 v4 v5 D else b_Root_look_112 k49 v1 v5 s0 v5 D)
set_option maxHeartbeats 4000000 in
theorem tb_Root_look_96 {Γ : GmT} {G : Dt → Nat → List (Nat × Value) → List Value → Prop} {rr : Int32} {DD : Dt} (C : Cx Γ "RiverTuesdays" b_Root_look 7 7 (some .int) (some (.int rr)) DD G) {k49 : Int32 → Int32 → Int32 → Int32 → Dt → Option (Int32 × Dt)} (hk49 : ∀ (v1 : Int32) (v3 : Int32) (v4 : Int32) (v5 : Int32) (D : Dt), k49 v1 v3 v4 v5 D = some (rr, DD) → G D 49 [(0, .ref (Γ.2.1 0)), (1, .int v1), (3, .int v3), (4, .int v4), (5, .int v5)] []) {v1 : Int32} {v3 : Int32} {v4 : Int32} {v5 : Int32} {s0 : Int32} {D : Dt} (hf : b_Root_look_96 k49 v1 v3 v4 v5 s0 D = some (rr, DD)) : G D 96 [(0, .ref (Γ.2.1 0)), (1, .int v1), (3, .int v3), (4, .int v4), (5, .int v5)] [.int s0] := by
  unfold b_Root_look_96 at hf
  refine r_istore (pc := 96) (lv' := [(6, .int s0), (0, .ref (Γ.2.1 0)), (1, .int v1), (3, .int v3), (4, .int v4), (5, .int v5)]) C d_Root_look_96 (Nat.le_of_ble_eq_true rfl) rfl ?_
  refine r_iload (pc := 98) C 0 d_Root_look_98 rfl ?_
  refine r_iload (pc := 100) C 4 d_Root_look_100 rfl ?_
  refine r_icmp_ge (pc := 102) C (tgt := 112) d_Root_look_102 (by decide) hf (fun c102 hf => ?_) (fun c102 hf => ?_)
  · exact r_lv (pc := 112) C [1, 2, 3, 4, 5] rfl (tb_Root_look_112 C hk49 hf)
  · refine r_iload (pc := 105) C 5 d_Root_look_105 rfl ?_
    refine r_istore_n (pc := 107) (lv' := [(3, .int v5), (6, .int s0), (0, .ref (Γ.2.1 0)), (1, .int v1), (4, .int v4), (5, .int v5)]) C d_Root_look_107 rfl (Nat.le_of_ble_eq_true rfl) rfl ?_
    refine r_iload (pc := 108) C 1 d_Root_look_108 rfl ?_
    refine r_istore (pc := 110) (lv' := [(4, .int s0), (3, .int v5), (6, .int s0), (0, .ref (Γ.2.1 0)), (1, .int v1), (5, .int v5)]) C d_Root_look_110 (Nat.le_of_ble_eq_true rfl) rfl ?_
    exact r_lv (pc := 112) C [3, 4, 1, 0, 5] rfl (tb_Root_look_112 C hk49 hf)
def s_Root_look_49 (k49 : Int32 → Int32 → Int32 → Int32 → Dt → Option (Int32 × Dt)) (v1 : Int32) (v3 : Int32) (v4 : Int32) (v5 : Int32) (D : Dt) : Option (Int32 × Dt) :=
  (if (D (3 + 1) 5) ≤ v5 then (if v3 = (-9) then some ((-9), D) else bnd (f_Root_tell v4 v3 D) (fun x5 D6 => some (x5, D6))) else (if inb v1 6 = true then (if inb v5 60 = true then (if (D ((111 + 2 * v1.toNatClampNeg) + 1) v5.toNatClampNeg) = (-9) then bnd (f_Fits_mostAlike v5 D) (fun x7 D8 => b_Root_look_96 k49 v1 v3 v4 v5 x7 D8) else b_Root_look_96 k49 v1 v3 v4 v5 257 D) else none) else none))
def lp_Root_look_49 (n : Nat) : Int32 → Int32 → Int32 → Int32 → Dt → Option (Int32 × Dt) := itr (fun _ _ _ _ _ => none) (s_Root_look_49) n
set_option maxHeartbeats 4000000 in
theorem ts_Root_look_49 {Γ : GmT} {G : Dt → Nat → List (Nat × Value) → List Value → Prop} {rr : Int32} {DD : Dt} (C : Cx Γ "RiverTuesdays" b_Root_look 7 7 (some .int) (some (.int rr)) DD G) {k49 : Int32 → Int32 → Int32 → Int32 → Dt → Option (Int32 × Dt)} (hk49 : ∀ (v1 : Int32) (v3 : Int32) (v4 : Int32) (v5 : Int32) (D : Dt), k49 v1 v3 v4 v5 D = some (rr, DD) → G D 49 [(0, .ref (Γ.2.1 0)), (1, .int v1), (3, .int v3), (4, .int v4), (5, .int v5)] []) {v1 : Int32} {v3 : Int32} {v4 : Int32} {v5 : Int32} {D : Dt} (hf : s_Root_look_49 k49 v1 v3 v4 v5 D = some (rr, DD)) : G D 49 [(0, .ref (Γ.2.1 0)), (1, .int v1), (3, .int v3), (4, .int v4), (5, .int v5)] [] := by
  unfold s_Root_look_49 at hf
  refine r_iload (pc := 49) C 4 d_Root_look_49 rfl ?_
  refine r_aload_n (pc := 51) C 0 d_Root_look_51 rfl rfl ?_
  refine g_Root_present (pc := 52) C k_id0 Lf_Root_24 d_Root_look_52 ?_
  refine g_Street_bed (pc := 55) C kq_Root_present Lf_Root_146 d_Root_look_55 ?_
  refine g_Bed_houses (pc := 58) C (kq_Street_bed kq_Root_present) Lf_Root_149 d_Root_look_58 ?_
  refine r_icmp_ge (pc := 61) C (tgt := 118) d_Root_look_61 (by decide) hf (fun c61 hf => ?_) (fun c61 hf => ?_)
  · refine r_iload_n (pc := 118) C 2 d_Root_look_118 rfl rfl ?_
    refine r_bipush (pc := 119) C (v := (-9)) d_Root_look_119 (by decide) ?_
    refine r_icmp_ne (pc := 121) C (tgt := 129) d_Root_look_121 (by decide) hf (fun c121 hf => ?_) (fun c121 hf => ?_)
    · refine r_aload_n (pc := 129) C 0 d_Root_look_129 rfl rfl ?_
      refine r_iload (pc := 130) C 3 d_Root_look_130 rfl ?_
      refine r_iload_n (pc := 132) C 2 d_Root_look_132 rfl rfl ?_
      refine r_callVi (pc := 133) (As := [.int v4, .int v3]) (rest := []) C ok_Root_tell Lm_Root_99 k_id0 (by decide) ⟨by decide, by decide⟩ rfl rfl (Nat.le_of_ble_eq_true rfl) d_Root_look_133 hf (fun x D1 hc => c_Root_tell Γ hc) (fun x5 D6 hf => ?_)
      exact r_iret (pc := 136) C d_Root_look_136 hf
    · refine r_bipush (pc := 124) C (v := (-9)) d_Root_look_124 (by decide) ?_
      refine r_goto (pc := 126) C (tgt := 136) d_Root_look_126 (by decide) ?_
      exact r_iret (pc := 136) C d_Root_look_136 hf
  · refine r_aload_n (pc := 64) C 0 d_Root_look_64 rfl rfl ?_
    refine g_Root_rows (pc := 65) C k_id0 Lf_Root_11 d_Root_look_65 ?_
    refine r_iload_n (pc := 68) C 1 d_Root_look_68 rfl rfl ?_
    refine r_aald13 (pc := 69) C kq_Root_rows d_Root_look_69 hf (fun hn69 hf => ?_)
    refine g_Row_places (pc := 70) C (ke13 _ (inb_lt hn69)) Lf_Root_96 d_Root_look_70 ?_
    refine r_iload (pc := 73) C 4 d_Root_look_73 rfl ?_
    refine r_iald (pc := 75) C (kq_Row_places (ke13 _ (inb_lt hn69))) d_Root_look_75 hf (fun hf => ?_)
    refine r_bipush (pc := 76) C (v := (-9)) d_Root_look_76 (by decide) ?_
    refine r_icmp_ne (pc := 78) C (tgt := 93) d_Root_look_78 (by decide) hf (fun c78 hf => ?_) (fun c78 hf => ?_)
    · refine r_sipush (pc := 93) C (v := 257) d_Root_look_93 (by decide) ?_
      exact r_lv (pc := 96) C [0, 1, 2, 3, 4] rfl (tb_Root_look_96 C hk49 hf)
    · refine r_aload_n (pc := 81) C 0 d_Root_look_81 rfl rfl ?_
      refine g_Root_fits (pc := 82) C k_id0 Lf_Root_60 d_Root_look_82 ?_
      refine r_iload (pc := 85) C 4 d_Root_look_85 rfl ?_
      refine r_callVi (pc := 87) (As := [.int v5]) (rest := []) C ok_Fits_mostAlike Lm_Root_329 kq_Root_fits (by decide) ⟨by decide, by decide⟩ rfl rfl (Nat.le_of_ble_eq_true rfl) d_Root_look_87 hf (fun x D1 hc => c_Fits_mostAlike Γ hc) (fun x7 D8 hf => ?_)
      refine r_goto (pc := 90) C (tgt := 96) d_Root_look_90 (by decide) ?_
      exact r_lv (pc := 96) C [0, 1, 2, 3, 4] rfl (tb_Root_look_96 C hk49 hf)
theorem tl_Root_look_49 {Γ : GmT} {G : Dt → Nat → List (Nat × Value) → List Value → Prop} {rr : Int32} {DD : Dt} (C : Cx Γ "RiverTuesdays" b_Root_look 7 7 (some .int) (some (.int rr)) DD G) : ∀ (n : Nat) (v1 : Int32) (v3 : Int32) (v4 : Int32) (v5 : Int32) (D : Dt), lp_Root_look_49 n v1 v3 v4 v5 D = some (rr, DD) → G D 49 [(0, .ref (Γ.2.1 0)), (1, .int v1), (3, .int v3), (4, .int v4), (5, .int v5)] [] := by
  intro n
  induction n with
  | zero =>
    intro v1 v3 v4 v5 D hf
    exact absurd (show (none : Option (Int32 × Dt)) = some (rr, DD) from hf) (by simp)
  | succ n ih =>
    intro v1 v3 v4 v5 D hf
    exact ts_Root_look_49 C (k49 := lp_Root_look_49 n) ih hf
def f_Root_look (v1 : Int32) (D : Dt) : Option (Int32 × Dt) :=
  bnd (f_Root_refusedMarks v1 D) (fun x1 D2 => (if x1 = 0 then (if inb v1 6 = true then bnd (f_Root_gatherFits (111 + 2 * v1.toNatClampNeg) D2) (fun x3 D4 => (if (D4 100 3) = 0 then bnd (f_Root_find 4 D4) (fun x9 D10 => some (x9, D10)) else lp_Root_look_49 FU v1 (-9) 257 0 D4)) else none) else some (x1, D2)))
set_option maxHeartbeats 4000000 in
theorem te_Root_look {Γ : GmT} {G : Dt → Nat → List (Nat × Value) → List Value → Prop} {rr : Int32} {DD : Dt} (C : Cx Γ "RiverTuesdays" b_Root_look 7 7 (some .int) (some (.int rr)) DD G) {v1 : Int32} {D : Dt} (hf : f_Root_look v1 D = some (rr, DD)) : G D 0 [(0, .ref (Γ.2.1 0)), (1, .int v1)] [] := by
  unfold f_Root_look at hf
  refine r_aload_n (pc := 0) C 0 d_Root_look_0 rfl rfl ?_
  refine r_iload_n (pc := 1) C 1 d_Root_look_1 rfl rfl ?_
  refine r_callVi (pc := 2) (As := [.int v1]) (rest := []) C ok_Root_refusedMarks Lm_Root_312 k_id0 (by decide) ⟨by decide, by decide⟩ rfl rfl (Nat.le_of_ble_eq_true rfl) d_Root_look_2 hf (fun x D1 hc => c_Root_refusedMarks Γ hc) (fun x1 D2 hf => ?_)
  refine r_istore_n (pc := 5) (lv' := [(2, .int x1), (0, .ref (Γ.2.1 0)), (1, .int v1)]) C d_Root_look_5 rfl (Nat.le_of_ble_eq_true rfl) rfl ?_
  refine r_iload_n (pc := 6) C 0 d_Root_look_6 rfl rfl ?_
  refine r_if_eq (pc := 7) C (tgt := 12) d_Root_look_7 (by decide) hf (fun c7 hf => ?_) (fun c7 hf => ?_)
  · refine r_aload_n (pc := 12) C 1 d_Root_look_12 rfl rfl ?_
    refine r_aload_n (pc := 13) C 1 d_Root_look_13 rfl rfl ?_
    refine g_Root_rows (pc := 14) C k_id0 Lf_Root_11 d_Root_look_14 ?_
    refine r_iload_n (pc := 17) C 2 d_Root_look_17 rfl rfl ?_
    refine r_aald13 (pc := 18) C kq_Root_rows d_Root_look_18 hf (fun hn18 hf => ?_)
    refine r_callVv (pc := 19) (As := [.ref (Γ.2.1 (111 + 2 * v1.toNatClampNeg))]) (rest := []) C ok_Root_gatherFits Lm_Root_315 k_id0 (by decide) ⟨by decide, by decide⟩ rfl rfl (Nat.le_of_ble_eq_true rfl) d_Root_look_19 hf (fun x D1 hc => c_Root_gatherFits Γ (ke13 _ (inb_lt hn18)) hc) (fun x3 D4 hf => ?_)
    refine r_aload_n (pc := 22) C 1 d_Root_look_22 rfl rfl ?_
    refine g_Root_fits (pc := 23) C k_id0 Lf_Root_60 d_Root_look_23 ?_
    refine g_Fits_size (pc := 26) C kq_Root_fits Lf_Root_322 d_Root_look_26 ?_
    refine r_if_ne (pc := 29) C (tgt := 38) d_Root_look_29 (by decide) hf (fun c29 hf => ?_) (fun c29 hf => ?_)
    · refine r_bipush (pc := 38) C (v := (-9)) d_Root_look_38 (by decide) ?_
      refine r_istore_n (pc := 40) (lv' := [(3, .int ((-9))), (2, .int x1), (0, .ref (Γ.2.1 0)), (1, .int v1)]) C d_Root_look_40 rfl (Nat.le_of_ble_eq_true rfl) rfl ?_
      refine r_sipush (pc := 41) C (v := 257) d_Root_look_41 (by decide) ?_
      refine r_istore (pc := 44) (lv' := [(4, .int 257), (3, .int ((-9))), (2, .int x1), (0, .ref (Γ.2.1 0)), (1, .int v1)]) C d_Root_look_44 (Nat.le_of_ble_eq_true rfl) rfl ?_
      refine r_iconst (pc := 46) C (v := 0) d_Root_look_46 (by decide) ?_
      refine r_istore (pc := 47) (lv' := [(5, .int 0), (4, .int 257), (3, .int ((-9))), (2, .int x1), (0, .ref (Γ.2.1 0)), (1, .int v1)]) C d_Root_look_47 (Nat.le_of_ble_eq_true rfl) rfl ?_
      exact r_lv (pc := 49) C [4, 5, 2, 1, 0] rfl (tl_Root_look_49 C FU v1 (-9) 257 0 D4 hf)
    · refine r_aload_n (pc := 32) C 1 d_Root_look_32 rfl rfl ?_
      refine r_iconst (pc := 33) C (v := 4) d_Root_look_33 (by decide) ?_
      refine r_callVi (pc := 34) (As := [.int 4]) (rest := []) C ok_Root_find Lm_Root_84 k_id0 (by decide) ⟨by decide, by decide⟩ rfl rfl (Nat.le_of_ble_eq_true rfl) d_Root_look_34 hf (fun x D1 hc => c_Root_find Γ hc) (fun x9 D10 hf => ?_)
      exact r_iret (pc := 37) C d_Root_look_37 hf
  · refine r_iload_n (pc := 10) C 0 d_Root_look_10 rfl rfl ?_
    exact r_iret (pc := 11) C d_Root_look_11 hf
theorem c_Root_look (Γ : GmT) {v1 : Int32} {D : Dt} {rr : Int32} {DD : Dt} (hf : f_Root_look v1 D = some (rr, DD)) : Mt Γ y_Root_look b_Root_look 7 (some .int) 7 [.ref (Γ.2.1 0), .int v1] D (some (.int rr)) DD := Mt_of (by decide) (Nat.le_of_ble_eq_true rfl) (fun G C => te_Root_look C hf)
def b_Root_findRaises_163 (k68 : Int32 → Int32 → Dt → Option (Int32 × Dt)) (v2 : Int32) (v3 : Int32) (s0 : Int32) (s1 : Int32) (rs2 : Nat) (D : Dt) : Option (Int32 × Dt) :=
  (if inb s1 8 = true then nm (wr D rs2 s1.toNatClampNeg s0) (fun D9 => (if inb v3 8 = true then k68 (v2 + (D9 109 v3.toNatClampNeg)) (v3 + 1) D9 else none)) else none)
set_option maxHeartbeats 4000000 in
theorem tb_Root_findRaises_163 {Γ : GmT} {G : Dt → Nat → List (Nat × Value) → List Value → Prop} {rr : Int32} {DD : Dt} (C : Cx Γ "RiverTuesdays" b_Root_findRaises 6 6 (some .int) (some (.int rr)) DD G) {k68 : Int32 → Int32 → Dt → Option (Int32 × Dt)} (hk68 : ∀ (v2 : Int32) (v3 : Int32) (D : Dt), k68 v2 v3 D = some (rr, DD) → G D 68 [(0, .ref (Γ.2.1 0)), (2, .int v2), (3, .int v3)] []) {v2 : Int32} {v3 : Int32} {s0 : Int32} {s1 : Int32} {rs2 : Nat} (hrs2 : isA 11 rs2 8) {D : Dt} (hf : b_Root_findRaises_163 k68 v2 v3 s0 s1 rs2 D = some (rr, DD)) : G D 163 [(0, .ref (Γ.2.1 0)), (2, .int v2), (3, .int v3)] [.int s0, .int s1, .ref (Γ.2.1 rs2)] := by
  unfold b_Root_findRaises_163 at hf
  refine r_iast (pc := 163) C hrs2 d_Root_findRaises_163 hf (fun hf => ?_)
  refine r_nmD hf (fun D9 hf => ?_)
  refine r_iload_n (pc := 164) C 1 d_Root_findRaises_164 rfl rfl ?_
  refine r_aload_n (pc := 165) C 0 d_Root_findRaises_165 rfl rfl ?_
  refine g_Root_perHouse (pc := 166) C k_id0 Lf_Root_71 d_Root_findRaises_166 ?_
  refine r_iload_n (pc := 169) C 2 d_Root_findRaises_169 rfl rfl ?_
  refine r_iald (pc := 170) C kq_Root_perHouse d_Root_findRaises_170 hf (fun hf => ?_)
  refine r_iadd (pc := 171) C d_Root_findRaises_171 ?_
  refine r_istore_n (pc := 172) (lv' := [(2, .int (v2 + (D9 109 v3.toNatClampNeg))), (0, .ref (Γ.2.1 0)), (3, .int v3)]) C d_Root_findRaises_172 rfl (Nat.le_of_ble_eq_true rfl) rfl ?_
  refine r_iinc (pc := 173) C (v := v3 + 1) (lv' := [(3, .int (v3 + 1)), (2, .int (v2 + (D9 109 v3.toNatClampNeg))), (0, .ref (Γ.2.1 0))]) 2 d_Root_findRaises_173 rfl rfl (Nat.le_of_ble_eq_true rfl) rfl ?_
  refine r_goto (pc := 176) C (tgt := 68) d_Root_findRaises_176 (by decide) ?_
  exact r_lv (pc := 68) C [2, 1, 0] rfl (hk68 (v2 + (D9 109 v3.toNatClampNeg)) (v3 + 1) D9 hf)
def b_Root_findRaises_114 (k68 : Int32 → Int32 → Dt → Option (Int32 × Dt)) (v2 : Int32) (v3 : Int32) (s0 : Int32) (D : Dt) : Option (Int32 × Dt) :=
  (if inb 8 9 = true then (if inb v3 8 = true then (if inb v3 8 = true then nm (imax ((D (37 + 1 * (8 : Int32).toNatClampNeg) v3.toNatClampNeg) - (D ((3 + 1) + 3) v3.toNatClampNeg)) 0) (fun x8 => (if s0 = 0 then b_Root_findRaises_163 k68 v2 v3 0 v3 109 D else b_Root_findRaises_163 k68 v2 v3 x8 v3 109 D)) else none) else none) else none)
set_option maxHeartbeats 4000000 in
theorem tb_Root_findRaises_114 {Γ : GmT} {G : Dt → Nat → List (Nat × Value) → List Value → Prop} {rr : Int32} {DD : Dt} (C : Cx Γ "RiverTuesdays" b_Root_findRaises 6 6 (some .int) (some (.int rr)) DD G) {k68 : Int32 → Int32 → Dt → Option (Int32 × Dt)} (hk68 : ∀ (v2 : Int32) (v3 : Int32) (D : Dt), k68 v2 v3 D = some (rr, DD) → G D 68 [(0, .ref (Γ.2.1 0)), (2, .int v2), (3, .int v3)] []) {v2 : Int32} {v3 : Int32} {s0 : Int32} {D : Dt} (hf : b_Root_findRaises_114 k68 v2 v3 s0 D = some (rr, DD)) : G D 114 [(0, .ref (Γ.2.1 0)), (2, .int v2), (3, .int v3)] [.int s0] := by
  unfold b_Root_findRaises_114 at hf
  refine r_istore (pc := 114) (lv' := [(4, .int s0), (0, .ref (Γ.2.1 0)), (2, .int v2), (3, .int v3)]) C d_Root_findRaises_114 (Nat.le_of_ble_eq_true rfl) rfl ?_
  refine r_aload_n (pc := 116) C 1 d_Root_findRaises_116 rfl rfl ?_
  refine g_Root_today (pc := 117) C k_id0 Lf_Root_53 d_Root_findRaises_117 ?_
  refine g_Tuesday_markAt (pc := 120) C kq_Root_today Lf_Root_268 d_Root_findRaises_120 ?_
  refine r_bipush (pc := 123) C (v := 8) d_Root_findRaises_123 (by decide) ?_
  refine r_aald17 (pc := 125) C kq_Tuesday_markAt d_Root_findRaises_125 hf (fun hn125 hf => ?_)
  refine r_iload_n (pc := 126) C 3 d_Root_findRaises_126 rfl rfl ?_
  refine r_iald (pc := 127) C (ke17 _ (inb_lt hn125)) d_Root_findRaises_127 hf (fun hf => ?_)
  refine r_aload_n (pc := 128) C 1 d_Root_findRaises_128 rfl rfl ?_
  refine g_Root_present (pc := 129) C k_id0 Lf_Root_24 d_Root_findRaises_129 ?_
  refine g_Street_bed (pc := 132) C kq_Root_present Lf_Root_146 d_Root_findRaises_132 ?_
  refine g_Bed_height (pc := 135) C (kq_Street_bed kq_Root_present) Lf_Root_187 d_Root_findRaises_135 ?_
  refine r_iload_n (pc := 138) C 3 d_Root_findRaises_138 rfl rfl ?_
  refine r_iald (pc := 139) C (kq_Bed_height (kq_Street_bed kq_Root_present)) d_Root_findRaises_139 hf (fun hf => ?_)
  refine r_isub (pc := 140) C d_Root_findRaises_140 ?_
  refine r_iconst (pc := 141) C (v := 0) d_Root_findRaises_141 (by decide) ?_
  refine r_mmax (pc := 142) C Lm_Root_262 (by decide) (Nat.le_of_ble_eq_true rfl) d_Root_findRaises_142 ?_
  refine r_nmi (pc := 145) hf (fun x8 hf => ?_)
  refine r_istore (pc := 145) (lv' := [(5, .int x8), (4, .int s0), (0, .ref (Γ.2.1 0)), (2, .int v2), (3, .int v3)]) C d_Root_findRaises_145 (Nat.le_of_ble_eq_true rfl) rfl ?_
  refine r_aload_n (pc := 147) C 2 d_Root_findRaises_147 rfl rfl ?_
  refine g_Root_perHouse (pc := 148) C k_id0 Lf_Root_71 d_Root_findRaises_148 ?_
  refine r_iload_n (pc := 151) C 4 d_Root_findRaises_151 rfl rfl ?_
  refine r_iload (pc := 152) C 1 d_Root_findRaises_152 rfl ?_
  refine r_if_eq (pc := 154) C (tgt := 162) d_Root_findRaises_154 (by decide) hf (fun c154 hf => ?_) (fun c154 hf => ?_)
  · refine r_iconst (pc := 162) C (v := 0) d_Root_findRaises_162 (by decide) ?_
    exact r_lv (pc := 163) C [2, 3, 4] rfl (tb_Root_findRaises_163 C hk68 kq_Root_perHouse hf)
  · refine r_iload (pc := 157) C 0 d_Root_findRaises_157 rfl ?_
    refine r_goto (pc := 159) C (tgt := 163) d_Root_findRaises_159 (by decide) ?_
    exact r_lv (pc := 163) C [2, 3, 4] rfl (tb_Root_findRaises_163 C hk68 kq_Root_perHouse hf)
def s_Root_findRaises_68 (k68 : Int32 → Int32 → Dt → Option (Int32 × Dt)) (v2 : Int32) (v3 : Int32) (D : Dt) : Option (Int32 × Dt) :=
  (if (D (3 + 1) 5) ≤ v3 then some (v2, D) else (if inb v3 8 = true then (if inb v3 8 = true then (if (D ((3 + 1) + 4) v3.toNatClampNeg) ≤ (D ((3 + 7) + 2) v3.toNatClampNeg) then b_Root_findRaises_114 k68 v2 v3 0 D else b_Root_findRaises_114 k68 v2 v3 1 D) else none) else none))
def lp_Root_findRaises_68 (n : Nat) : Int32 → Int32 → Dt → Option (Int32 × Dt) := itr (fun _ _ _ => none) (s_Root_findRaises_68) n
set_option maxHeartbeats 4000000 in
theorem ts_Root_findRaises_68 {Γ : GmT} {G : Dt → Nat → List (Nat × Value) → List Value → Prop} {rr : Int32} {DD : Dt} (C : Cx Γ "RiverTuesdays" b_Root_findRaises 6 6 (some .int) (some (.int rr)) DD G) {k68 : Int32 → Int32 → Dt → Option (Int32 × Dt)} (hk68 : ∀ (v2 : Int32) (v3 : Int32) (D : Dt), k68 v2 v3 D = some (rr, DD) → G D 68 [(0, .ref (Γ.2.1 0)), (2, .int v2), (3, .int v3)] []) {v2 : Int32} {v3 : Int32} {D : Dt} (hf : s_Root_findRaises_68 k68 v2 v3 D = some (rr, DD)) : G D 68 [(0, .ref (Γ.2.1 0)), (2, .int v2), (3, .int v3)] [] := by
  unfold s_Root_findRaises_68 at hf
  refine r_iload_n (pc := 68) C 2 d_Root_findRaises_68 rfl rfl ?_
  refine r_aload_n (pc := 69) C 0 d_Root_findRaises_69 rfl rfl ?_
  refine g_Root_present (pc := 70) C k_id0 Lf_Root_24 d_Root_findRaises_70 ?_
  refine g_Street_bed (pc := 73) C kq_Root_present Lf_Root_146 d_Root_findRaises_73 ?_
  refine g_Bed_houses (pc := 76) C (kq_Street_bed kq_Root_present) Lf_Root_149 d_Root_findRaises_76 ?_
  refine r_icmp_ge (pc := 79) C (tgt := 179) d_Root_findRaises_79 (by decide) hf (fun c79 hf => ?_) (fun c79 hf => ?_)
  · refine r_iload_n (pc := 179) C 1 d_Root_findRaises_179 rfl rfl ?_
    exact r_iret (pc := 180) C d_Root_findRaises_180 hf
  · refine r_aload_n (pc := 82) C 0 d_Root_findRaises_82 rfl rfl ?_
    refine g_Root_present (pc := 83) C k_id0 Lf_Root_24 d_Root_findRaises_83 ?_
    refine g_Street_bed (pc := 86) C kq_Root_present Lf_Root_146 d_Root_findRaises_86 ?_
    refine g_Bed_cellar (pc := 89) C (kq_Street_bed kq_Root_present) Lf_Root_165 d_Root_findRaises_89 ?_
    refine r_iload_n (pc := 92) C 2 d_Root_findRaises_92 rfl rfl ?_
    refine r_iald (pc := 93) C (kq_Bed_cellar (kq_Street_bed kq_Root_present)) d_Root_findRaises_93 hf (fun hf => ?_)
    refine r_aload_n (pc := 94) C 0 d_Root_findRaises_94 rfl rfl ?_
    refine g_Root_present (pc := 95) C k_id0 Lf_Root_24 d_Root_findRaises_95 ?_
    refine g_Street_now (pc := 98) C kq_Root_present Lf_Root_168 d_Root_findRaises_98 ?_
    refine g_Waters_below (pc := 101) C (kq_Street_now kq_Root_present) Lf_Root_171 d_Root_findRaises_101 ?_
    refine r_iload_n (pc := 104) C 2 d_Root_findRaises_104 rfl rfl ?_
    refine r_iald (pc := 105) C (kq_Waters_below (kq_Street_now kq_Root_present)) d_Root_findRaises_105 hf (fun hf => ?_)
    refine r_icmp_le (pc := 106) C (tgt := 113) d_Root_findRaises_106 (by decide) hf (fun c106 hf => ?_) (fun c106 hf => ?_)
    · refine r_iconst (pc := 113) C (v := 0) d_Root_findRaises_113 (by decide) ?_
      exact r_lv (pc := 114) C [0, 1, 2] rfl (tb_Root_findRaises_114 C hk68 hf)
    · refine r_iconst (pc := 109) C (v := 1) d_Root_findRaises_109 (by decide) ?_
      refine r_goto (pc := 110) C (tgt := 114) d_Root_findRaises_110 (by decide) ?_
      exact r_lv (pc := 114) C [0, 1, 2] rfl (tb_Root_findRaises_114 C hk68 hf)
theorem tl_Root_findRaises_68 {Γ : GmT} {G : Dt → Nat → List (Nat × Value) → List Value → Prop} {rr : Int32} {DD : Dt} (C : Cx Γ "RiverTuesdays" b_Root_findRaises 6 6 (some .int) (some (.int rr)) DD G) : ∀ (n : Nat) (v2 : Int32) (v3 : Int32) (D : Dt), lp_Root_findRaises_68 n v2 v3 D = some (rr, DD) → G D 68 [(0, .ref (Γ.2.1 0)), (2, .int v2), (3, .int v3)] [] := by
  intro n
  induction n with
  | zero =>
    intro v2 v3 D hf
    exact absurd (show (none : Option (Int32 × Dt)) = some (rr, DD) from hf) (by simp)
  | succ n ih =>
    intro v2 v3 D hf
    exact ts_Root_findRaises_68 C (k68 := lp_Root_findRaises_68 n) ih hf
def f_Root_findRaises (v1 : Int32) (D : Dt) : Option (Int32 × Dt) :=
  bnd (f_Bed_takeFrom 20 (3 + 1) D) (fun x1 D2 => (if ¬ (0 : Int32) < 0 ∧ ¬ (0 : Int32) < 0 ∧ ¬ (8 : Int32) < 0 ∧ (0 : Int32).toNatClampNeg + (8 : Int32).toNatClampNeg ≤ 8 ∧ (0 : Int32).toNatClampNeg + (8 : Int32).toNatClampNeg ≤ 8 then nm (st D2 (20 + 4) (va_cpy (D2 ((3 + 7) + 2)) (D2 (20 + 4)) (0 : Int32).toNatClampNeg (0 : Int32).toNatClampNeg (8 : Int32).toNatClampNeg)) (fun D3 => bnd (f_Tuesday_begin (3 + 7) D3) (fun x4 D5 => bnd (f_Tuesday_lead 20 v1 D5) (fun x6 D7 => lp_Root_findRaises_68 FU 0 0 D7))) else none))
set_option maxHeartbeats 4000000 in
theorem te_Root_findRaises {Γ : GmT} {G : Dt → Nat → List (Nat × Value) → List Value → Prop} {rr : Int32} {DD : Dt} (C : Cx Γ "RiverTuesdays" b_Root_findRaises 6 6 (some .int) (some (.int rr)) DD G) {v1 : Int32} {D : Dt} (hf : f_Root_findRaises v1 D = some (rr, DD)) : G D 0 [(0, .ref (Γ.2.1 0)), (1, .int v1)] [] := by
  unfold f_Root_findRaises at hf
  refine r_aload_n (pc := 0) C 0 d_Root_findRaises_0 rfl rfl ?_
  refine g_Root_trialBed (pc := 1) C k_id0 Lf_Root_39 d_Root_findRaises_1 ?_
  refine r_aload_n (pc := 4) C 0 d_Root_findRaises_4 rfl rfl ?_
  refine g_Root_present (pc := 5) C k_id0 Lf_Root_24 d_Root_findRaises_5 ?_
  refine g_Street_bed (pc := 8) C kq_Root_present Lf_Root_146 d_Root_findRaises_8 ?_
  refine r_callVv (pc := 11) (As := [.ref (Γ.2.1 (3 + 1))]) (rest := []) C ok_Bed_takeFrom Lm_Root_443 kq_Root_trialBed (by decide) ⟨by decide, by decide⟩ rfl rfl (Nat.le_of_ble_eq_true rfl) d_Root_findRaises_11 hf (fun x D1 hc => c_Bed_takeFrom Γ kq_Root_trialBed (kq_Street_bed kq_Root_present) hc) (fun x1 D2 hf => ?_)
  refine r_aload_n (pc := 14) C 0 d_Root_findRaises_14 rfl rfl ?_
  refine g_Root_present (pc := 15) C k_id0 Lf_Root_24 d_Root_findRaises_15 ?_
  refine g_Street_now (pc := 18) C kq_Root_present Lf_Root_168 d_Root_findRaises_18 ?_
  refine g_Waters_below (pc := 21) C (kq_Street_now kq_Root_present) Lf_Root_171 d_Root_findRaises_21 ?_
  refine r_iconst (pc := 24) C (v := 0) d_Root_findRaises_24 (by decide) ?_
  refine r_aload_n (pc := 25) C 0 d_Root_findRaises_25 rfl rfl ?_
  refine g_Root_trialBed (pc := 26) C k_id0 Lf_Root_39 d_Root_findRaises_26 ?_
  refine g_Bed_cellar (pc := 29) C kq_Root_trialBed Lf_Root_165 d_Root_findRaises_29 ?_
  refine r_iconst (pc := 32) C (v := 0) d_Root_findRaises_32 (by decide) ?_
  refine r_bipush (pc := 33) C (v := 8) d_Root_findRaises_33 (by decide) ?_
  refine r_acopy (pc := 35) C (kq_Waters_below (kq_Street_now kq_Root_present)) (kq_Bed_cellar kq_Root_trialBed) Lm_Root_117 acw1 acw2 acw3 (by decide) (Nat.le_of_ble_eq_true rfl) d_Root_findRaises_35 hf (fun hf => ?_)
  refine r_nmD hf (fun D3 hf => ?_)
  refine r_aload_n (pc := 38) C 0 d_Root_findRaises_38 rfl rfl ?_
  refine g_Root_today (pc := 39) C k_id0 Lf_Root_53 d_Root_findRaises_39 ?_
  refine r_aload_n (pc := 42) C 0 d_Root_findRaises_42 rfl rfl ?_
  refine g_Root_present (pc := 43) C k_id0 Lf_Root_24 d_Root_findRaises_43 ?_
  refine g_Street_now (pc := 46) C kq_Root_present Lf_Root_168 d_Root_findRaises_46 ?_
  refine r_callVv (pc := 49) (As := [.ref (Γ.2.1 (3 + 7))]) (rest := []) C ok_Tuesday_begin Lm_Root_291 kq_Root_today (by decide) ⟨by decide, by decide⟩ rfl rfl (Nat.le_of_ble_eq_true rfl) d_Root_findRaises_49 hf (fun x D1 hc => c_Tuesday_begin Γ (kq_Street_now kq_Root_present) hc) (fun x4 D5 hf => ?_)
  refine r_aload_n (pc := 52) C 0 d_Root_findRaises_52 rfl rfl ?_
  refine g_Root_today (pc := 53) C k_id0 Lf_Root_53 d_Root_findRaises_53 ?_
  refine r_aload_n (pc := 56) C 0 d_Root_findRaises_56 rfl rfl ?_
  refine g_Root_trialBed (pc := 57) C k_id0 Lf_Root_39 d_Root_findRaises_57 ?_
  refine r_iload_n (pc := 60) C 1 d_Root_findRaises_60 rfl rfl ?_
  refine r_callVv (pc := 61) (As := [.ref (Γ.2.1 20), .int v1]) (rest := []) C ok_Tuesday_lead Lm_Root_297 kq_Root_today (by decide) ⟨by decide, by decide⟩ rfl rfl (Nat.le_of_ble_eq_true rfl) d_Root_findRaises_61 hf (fun x D1 hc => c_Tuesday_lead Γ kq_Root_trialBed hc) (fun x6 D7 hf => ?_)
  refine r_iconst (pc := 64) C (v := 0) d_Root_findRaises_64 (by decide) ?_
  refine r_istore_n (pc := 65) (lv' := [(2, .int 0), (0, .ref (Γ.2.1 0)), (1, .int v1)]) C d_Root_findRaises_65 rfl (Nat.le_of_ble_eq_true rfl) rfl ?_
  refine r_iconst (pc := 66) C (v := 0) d_Root_findRaises_66 (by decide) ?_
  refine r_istore_n (pc := 67) (lv' := [(3, .int 0), (2, .int 0), (0, .ref (Γ.2.1 0)), (1, .int v1)]) C d_Root_findRaises_67 rfl (Nat.le_of_ble_eq_true rfl) rfl ?_
  exact r_lv (pc := 68) C [2, 1, 0] rfl (tl_Root_findRaises_68 C FU 0 0 D7 hf)
theorem c_Root_findRaises (Γ : GmT) {v1 : Int32} {D : Dt} {rr : Int32} {DD : Dt} (hf : f_Root_findRaises v1 D = some (rr, DD)) : Mt Γ y_Root_findRaises b_Root_findRaises 6 (some .int) 6 [.ref (Γ.2.1 0), .int v1] D (some (.int rr)) DD := Mt_of (by decide) (Nat.le_of_ble_eq_true rfl) (fun G C => te_Root_findRaises C hf)
def f_Root_raise (v1 : Int32) (v2 : Int32) (D : Dt) : Option (Int32 × Dt) :=
  bnd (f_Root_isRow v2 D) (fun x1 D2 => (if x1 = 0 then some ((-1), D2) else bnd (f_Root_refusedPlan v1 D2) (fun x3 D4 => (if x3 = 0 then bnd (f_Root_findRaises v1 D4) (fun x5 D6 => (if x5 ≤ 4 then (if inb v2 6 = true then bnd (f_Row_takeFrom (111 + 2 * v2.toNatClampNeg) 109 (D6 (3 + 1) 5) D6) (fun x7 D8 => some (x5, D8)) else none) else some ((-9), D6))) else some (x3, D4)))))
set_option maxHeartbeats 4000000 in
theorem te_Root_raise {Γ : GmT} {G : Dt → Nat → List (Nat × Value) → List Value → Prop} {rr : Int32} {DD : Dt} (C : Cx Γ "RiverTuesdays" b_Root_raise 5 7 (some .int) (some (.int rr)) DD G) {v1 : Int32} {v2 : Int32} {D : Dt} (hf : f_Root_raise v1 v2 D = some (rr, DD)) : G D 0 [(0, .ref (Γ.2.1 0)), (1, .int v1), (2, .int v2)] [] := by
  unfold f_Root_raise at hf
  refine r_iload_n (pc := 0) C 2 d_Root_raise_0 rfl rfl ?_
  refine r_callSi (pc := 1) (As := [.int v2]) (rest := []) C ok_Root_isRow Lm_Root_80 ⟨by decide, by decide⟩ rfl rfl (Nat.le_of_ble_eq_true rfl) d_Root_raise_1 hf (fun x D1 hc => c_Root_isRow Γ hc) (fun x1 D2 hf => ?_)
  refine r_if_ne (pc := 4) C (tgt := 9) d_Root_raise_4 (by decide) hf (fun c4 hf => ?_) (fun c4 hf => ?_)
  · refine r_aload_n (pc := 9) C 0 d_Root_raise_9 rfl rfl ?_
    refine r_iload_n (pc := 10) C 1 d_Root_raise_10 rfl rfl ?_
    refine r_callVi (pc := 11) (As := [.int v1]) (rest := []) C ok_Root_refusedPlan Lm_Root_225 k_id0 (by decide) ⟨by decide, by decide⟩ rfl rfl (Nat.le_of_ble_eq_true rfl) d_Root_raise_11 hf (fun x D1 hc => c_Root_refusedPlan Γ hc) (fun x3 D4 hf => ?_)
    refine r_istore_n (pc := 14) (lv' := [(3, .int x3), (0, .ref (Γ.2.1 0)), (1, .int v1), (2, .int v2)]) C d_Root_raise_14 rfl (Nat.le_of_ble_eq_true rfl) rfl ?_
    refine r_iload_n (pc := 15) C 0 d_Root_raise_15 rfl rfl ?_
    refine r_if_eq (pc := 16) C (tgt := 21) d_Root_raise_16 (by decide) hf (fun c16 hf => ?_) (fun c16 hf => ?_)
    · refine r_aload_n (pc := 21) C 1 d_Root_raise_21 rfl rfl ?_
      refine r_iload_n (pc := 22) C 2 d_Root_raise_22 rfl rfl ?_
      refine r_callVi (pc := 23) (As := [.int v1]) (rest := []) C ok_Root_findRaises Lm_Root_332 k_id0 (by decide) ⟨by decide, by decide⟩ rfl rfl (Nat.le_of_ble_eq_true rfl) d_Root_raise_23 hf (fun x D1 hc => c_Root_findRaises Γ hc) (fun x5 D6 hf => ?_)
      refine r_istore (pc := 26) (lv' := [(4, .int x5), (3, .int x3), (0, .ref (Γ.2.1 0)), (1, .int v1), (2, .int v2)]) C d_Root_raise_26 (Nat.le_of_ble_eq_true rfl) rfl ?_
      refine r_iload (pc := 28) C 0 d_Root_raise_28 rfl ?_
      refine r_iconst (pc := 30) C (v := 4) d_Root_raise_30 (by decide) ?_
      refine r_icmp_le (pc := 31) C (tgt := 37) d_Root_raise_31 (by decide) hf (fun c31 hf => ?_) (fun c31 hf => ?_)
      · refine r_aload_n (pc := 37) C 2 d_Root_raise_37 rfl rfl ?_
        refine g_Root_rows (pc := 38) C k_id0 Lf_Root_11 d_Root_raise_38 ?_
        refine r_iload_n (pc := 41) C 4 d_Root_raise_41 rfl rfl ?_
        refine r_aald13 (pc := 42) C kq_Root_rows d_Root_raise_42 hf (fun hn42 hf => ?_)
        refine r_aload_n (pc := 43) C 2 d_Root_raise_43 rfl rfl ?_
        refine g_Root_perHouse (pc := 44) C k_id0 Lf_Root_71 d_Root_raise_44 ?_
        refine r_aload_n (pc := 47) C 2 d_Root_raise_47 rfl rfl ?_
        refine g_Root_present (pc := 48) C k_id0 Lf_Root_24 d_Root_raise_48 ?_
        refine g_Street_bed (pc := 51) C kq_Root_present Lf_Root_146 d_Root_raise_51 ?_
        refine g_Bed_houses (pc := 54) C (kq_Street_bed kq_Root_present) Lf_Root_149 d_Root_raise_54 ?_
        refine r_callVv (pc := 57) (As := [.ref (Γ.2.1 109), .int (D6 (3 + 1) 5)]) (rest := []) C ok_Row_takeFrom Lm_Root_272 (ke13 _ (inb_lt hn42)) (by decide) ⟨by decide, by decide⟩ rfl rfl (Nat.le_of_ble_eq_true rfl) d_Root_raise_57 hf (fun x D1 hc => c_Row_takeFrom Γ (ke13 _ (inb_lt hn42)) (kq_Root_perHouse).1 hc) (fun x7 D8 hf => ?_)
        refine r_iload (pc := 60) C 0 d_Root_raise_60 rfl ?_
        exact r_iret (pc := 62) C d_Root_raise_62 hf
      · refine r_bipush (pc := 34) C (v := (-9)) d_Root_raise_34 (by decide) ?_
        exact r_iret (pc := 36) C d_Root_raise_36 hf
    · refine r_iload_n (pc := 19) C 0 d_Root_raise_19 rfl rfl ?_
      exact r_iret (pc := 20) C d_Root_raise_20 hf
  · refine r_iconst (pc := 7) C (v := (-1)) d_Root_raise_7 (by decide) ?_
    exact r_iret (pc := 8) C d_Root_raise_8 hf
theorem c_Root_raise (Γ : GmT) {v1 : Int32} {v2 : Int32} {D : Dt} {rr : Int32} {DD : Dt} (hf : f_Root_raise v1 v2 D = some (rr, DD)) : Mt Γ y_Root_raise b_Root_raise 5 (some .int) 7 [.ref (Γ.2.1 0), .int v1, .int v2] D (some (.int rr)) DD := Mt_of (by decide) (Nat.le_of_ble_eq_true rfl) (fun G C => te_Root_raise C hf)
def f_Root_harmWithRaised (v1 : Int32) (v2 : Int32) (D : Dt) : Option (Int32 × Dt) :=
  bnd (f_Bed_takeFrom 20 (3 + 1) D) (fun x1 D2 => (if inb v1 8 = true then (if inb v1 8 = true then nm (wr D2 (20 + 3) v1.toNatClampNeg ((D2 (20 + 3) v1.toNatClampNeg) + 1)) (fun D3 => bnd (f_Tuesday_begin (3 + 7) D3) (fun x4 D5 => bnd (f_Tuesday_lead 20 v2 D5) (fun x6 D7 => bnd (f_Tuesday_harmDone D7) (fun x8 D9 => some (x8, D9))))) else none) else none))
set_option maxHeartbeats 4000000 in
theorem te_Root_harmWithRaised {Γ : GmT} {G : Dt → Nat → List (Nat × Value) → List Value → Prop} {rr : Int32} {DD : Dt} (C : Cx Γ "RiverTuesdays" b_Root_harmWithRaised 3 6 (some .int) (some (.int rr)) DD G) {v1 : Int32} {v2 : Int32} {D : Dt} (hf : f_Root_harmWithRaised v1 v2 D = some (rr, DD)) : G D 0 [(0, .ref (Γ.2.1 0)), (1, .int v1), (2, .int v2)] [] := by
  unfold f_Root_harmWithRaised at hf
  refine r_aload_n (pc := 0) C 0 d_Root_harmWithRaised_0 rfl rfl ?_
  refine g_Root_trialBed (pc := 1) C k_id0 Lf_Root_39 d_Root_harmWithRaised_1 ?_
  refine r_aload_n (pc := 4) C 0 d_Root_harmWithRaised_4 rfl rfl ?_
  refine g_Root_present (pc := 5) C k_id0 Lf_Root_24 d_Root_harmWithRaised_5 ?_
  refine g_Street_bed (pc := 8) C kq_Root_present Lf_Root_146 d_Root_harmWithRaised_8 ?_
  refine r_callVv (pc := 11) (As := [.ref (Γ.2.1 (3 + 1))]) (rest := []) C ok_Bed_takeFrom Lm_Root_443 kq_Root_trialBed (by decide) ⟨by decide, by decide⟩ rfl rfl (Nat.le_of_ble_eq_true rfl) d_Root_harmWithRaised_11 hf (fun x D1 hc => c_Bed_takeFrom Γ kq_Root_trialBed (kq_Street_bed kq_Root_present) hc) (fun x1 D2 hf => ?_)
  refine r_aload_n (pc := 14) C 0 d_Root_harmWithRaised_14 rfl rfl ?_
  refine g_Root_trialBed (pc := 15) C k_id0 Lf_Root_39 d_Root_harmWithRaised_15 ?_
  refine g_Bed_height (pc := 18) C kq_Root_trialBed Lf_Root_187 d_Root_harmWithRaised_18 ?_
  refine r_iload_n (pc := 21) C 1 d_Root_harmWithRaised_21 rfl rfl ?_
  refine r_dup2 (pc := 22) C d_Root_harmWithRaised_22 rfl rfl ?_
  refine r_iald (pc := 23) C (kq_Bed_height kq_Root_trialBed) d_Root_harmWithRaised_23 hf (fun hf => ?_)
  refine r_iconst (pc := 24) C (v := 1) d_Root_harmWithRaised_24 (by decide) ?_
  refine r_iadd (pc := 25) C d_Root_harmWithRaised_25 ?_
  refine r_iast (pc := 26) C (kq_Bed_height kq_Root_trialBed) d_Root_harmWithRaised_26 hf (fun hf => ?_)
  refine r_nmD hf (fun D3 hf => ?_)
  refine r_aload_n (pc := 27) C 0 d_Root_harmWithRaised_27 rfl rfl ?_
  refine g_Root_today (pc := 28) C k_id0 Lf_Root_53 d_Root_harmWithRaised_28 ?_
  refine r_aload_n (pc := 31) C 0 d_Root_harmWithRaised_31 rfl rfl ?_
  refine g_Root_present (pc := 32) C k_id0 Lf_Root_24 d_Root_harmWithRaised_32 ?_
  refine g_Street_now (pc := 35) C kq_Root_present Lf_Root_168 d_Root_harmWithRaised_35 ?_
  refine r_callVv (pc := 38) (As := [.ref (Γ.2.1 (3 + 7))]) (rest := []) C ok_Tuesday_begin Lm_Root_291 kq_Root_today (by decide) ⟨by decide, by decide⟩ rfl rfl (Nat.le_of_ble_eq_true rfl) d_Root_harmWithRaised_38 hf (fun x D1 hc => c_Tuesday_begin Γ (kq_Street_now kq_Root_present) hc) (fun x4 D5 hf => ?_)
  refine r_aload_n (pc := 41) C 0 d_Root_harmWithRaised_41 rfl rfl ?_
  refine g_Root_today (pc := 42) C k_id0 Lf_Root_53 d_Root_harmWithRaised_42 ?_
  refine r_aload_n (pc := 45) C 0 d_Root_harmWithRaised_45 rfl rfl ?_
  refine g_Root_trialBed (pc := 46) C k_id0 Lf_Root_39 d_Root_harmWithRaised_46 ?_
  refine r_iload_n (pc := 49) C 2 d_Root_harmWithRaised_49 rfl rfl ?_
  refine r_callVv (pc := 50) (As := [.ref (Γ.2.1 20), .int v2]) (rest := []) C ok_Tuesday_lead Lm_Root_297 kq_Root_today (by decide) ⟨by decide, by decide⟩ rfl rfl (Nat.le_of_ble_eq_true rfl) d_Root_harmWithRaised_50 hf (fun x D1 hc => c_Tuesday_lead Γ kq_Root_trialBed hc) (fun x6 D7 hf => ?_)
  refine r_aload_n (pc := 53) C 0 d_Root_harmWithRaised_53 rfl rfl ?_
  refine g_Root_today (pc := 54) C k_id0 Lf_Root_53 d_Root_harmWithRaised_54 ?_
  refine r_callVi (pc := 57) (As := []) (rest := []) C ok_Tuesday_harmDone Lm_Root_234 kq_Root_today (by decide) ⟨by decide, by decide⟩ rfl rfl (Nat.le_of_ble_eq_true rfl) d_Root_harmWithRaised_57 hf (fun x D1 hc => c_Tuesday_harmDone Γ hc) (fun x8 D9 hf => ?_)
  exact r_iret (pc := 60) C d_Root_harmWithRaised_60 hf
theorem c_Root_harmWithRaised (Γ : GmT) {v1 : Int32} {v2 : Int32} {D : Dt} {rr : Int32} {DD : Dt} (hf : f_Root_harmWithRaised v1 v2 D = some (rr, DD)) : Mt Γ y_Root_harmWithRaised b_Root_harmWithRaised 3 (some .int) 6 [.ref (Γ.2.1 0), .int v1, .int v2] D (some (.int rr)) DD := Mt_of (by decide) (Nat.le_of_ble_eq_true rfl) (fun G C => te_Root_harmWithRaised C hf)
def b_Root_whose_63 (k25 : Int32 → Int32 → Int32 → Int32 → Dt → Option (Int32 × Dt)) (v1 : Int32) (v3 : Int32) (v4 : Int32) (v5 : Int32) (D : Dt) : Option (Int32 × Dt) :=
  k25 v1 v3 v4 (v5 + 1) D
set_option maxHeartbeats 4000000 in
theorem tb_Root_whose_63 {Γ : GmT} {G : Dt → Nat → List (Nat × Value) → List Value → Prop} {rr : Int32} {DD : Dt} (C : Cx Γ "RiverTuesdays" b_Root_whose 7 7 (some .int) (some (.int rr)) DD G) {k25 : Int32 → Int32 → Int32 → Int32 → Dt → Option (Int32 × Dt)} (hk25 : ∀ (v1 : Int32) (v3 : Int32) (v4 : Int32) (v5 : Int32) (D : Dt), k25 v1 v3 v4 v5 D = some (rr, DD) → G D 25 [(0, .ref (Γ.2.1 0)), (1, .int v1), (3, .int v3), (4, .int v4), (5, .int v5)] []) {v1 : Int32} {v3 : Int32} {v4 : Int32} {v5 : Int32} {D : Dt} (hf : b_Root_whose_63 k25 v1 v3 v4 v5 D = some (rr, DD)) : G D 63 [(0, .ref (Γ.2.1 0)), (1, .int v1), (3, .int v3), (4, .int v4), (5, .int v5)] [] := by
  unfold b_Root_whose_63 at hf
  refine r_iinc (pc := 63) C (v := v5 + 1) (lv' := [(5, .int (v5 + 1)), (0, .ref (Γ.2.1 0)), (1, .int v1), (3, .int v3), (4, .int v4)]) 4 d_Root_whose_63 rfl rfl (Nat.le_of_ble_eq_true rfl) rfl ?_
  refine r_goto (pc := 66) C (tgt := 25) d_Root_whose_66 (by decide) ?_
  exact r_lv (pc := 25) C [1, 2, 3, 4, 0] rfl (hk25 v1 v3 v4 (v5 + 1) D hf)
def s_Root_whose_25 (k25 : Int32 → Int32 → Int32 → Int32 → Dt → Option (Int32 × Dt)) (v1 : Int32) (v3 : Int32) (v4 : Int32) (v5 : Int32) (D : Dt) : Option (Int32 × Dt) :=
  (if (D (3 + 1) 5) ≤ v5 then bnd (f_Root_tell v4 v3 D) (fun x5 D6 => some (x5, D6)) else bnd (f_Root_harmWithRaised v5 v1 D) (fun x7 D8 => (if v4 ≤ x7 then b_Root_whose_63 k25 v1 v3 v4 v5 D8 else b_Root_whose_63 k25 v1 v5 x7 v5 D8)))
def lp_Root_whose_25 (n : Nat) : Int32 → Int32 → Int32 → Int32 → Dt → Option (Int32 × Dt) := itr (fun _ _ _ _ _ => none) (s_Root_whose_25) n
set_option maxHeartbeats 4000000 in
theorem ts_Root_whose_25 {Γ : GmT} {G : Dt → Nat → List (Nat × Value) → List Value → Prop} {rr : Int32} {DD : Dt} (C : Cx Γ "RiverTuesdays" b_Root_whose 7 7 (some .int) (some (.int rr)) DD G) {k25 : Int32 → Int32 → Int32 → Int32 → Dt → Option (Int32 × Dt)} (hk25 : ∀ (v1 : Int32) (v3 : Int32) (v4 : Int32) (v5 : Int32) (D : Dt), k25 v1 v3 v4 v5 D = some (rr, DD) → G D 25 [(0, .ref (Γ.2.1 0)), (1, .int v1), (3, .int v3), (4, .int v4), (5, .int v5)] []) {v1 : Int32} {v3 : Int32} {v4 : Int32} {v5 : Int32} {D : Dt} (hf : s_Root_whose_25 k25 v1 v3 v4 v5 D = some (rr, DD)) : G D 25 [(0, .ref (Γ.2.1 0)), (1, .int v1), (3, .int v3), (4, .int v4), (5, .int v5)] [] := by
  unfold s_Root_whose_25 at hf
  refine r_iload (pc := 25) C 4 d_Root_whose_25 rfl ?_
  refine r_aload_n (pc := 27) C 0 d_Root_whose_27 rfl rfl ?_
  refine g_Root_present (pc := 28) C k_id0 Lf_Root_24 d_Root_whose_28 ?_
  refine g_Street_bed (pc := 31) C kq_Root_present Lf_Root_146 d_Root_whose_31 ?_
  refine g_Bed_houses (pc := 34) C (kq_Street_bed kq_Root_present) Lf_Root_149 d_Root_whose_34 ?_
  refine r_icmp_ge (pc := 37) C (tgt := 69) d_Root_whose_37 (by decide) hf (fun c37 hf => ?_) (fun c37 hf => ?_)
  · refine r_aload_n (pc := 69) C 0 d_Root_whose_69 rfl rfl ?_
    refine r_iload (pc := 70) C 3 d_Root_whose_70 rfl ?_
    refine r_iload_n (pc := 72) C 2 d_Root_whose_72 rfl rfl ?_
    refine r_callVi (pc := 73) (As := [.int v4, .int v3]) (rest := []) C ok_Root_tell Lm_Root_99 k_id0 (by decide) ⟨by decide, by decide⟩ rfl rfl (Nat.le_of_ble_eq_true rfl) d_Root_whose_73 hf (fun x D1 hc => c_Root_tell Γ hc) (fun x5 D6 hf => ?_)
    exact r_iret (pc := 76) C d_Root_whose_76 hf
  · refine r_aload_n (pc := 40) C 0 d_Root_whose_40 rfl rfl ?_
    refine r_iload (pc := 41) C 4 d_Root_whose_41 rfl ?_
    refine r_iload_n (pc := 43) C 1 d_Root_whose_43 rfl rfl ?_
    refine r_callVi (pc := 44) (As := [.int v5, .int v1]) (rest := []) C ok_Root_harmWithRaised Lm_Root_335 k_id0 (by decide) ⟨by decide, by decide⟩ rfl rfl (Nat.le_of_ble_eq_true rfl) d_Root_whose_44 hf (fun x D1 hc => c_Root_harmWithRaised Γ hc) (fun x7 D8 hf => ?_)
    refine r_istore (pc := 47) (lv' := [(6, .int x7), (0, .ref (Γ.2.1 0)), (1, .int v1), (3, .int v3), (4, .int v4), (5, .int v5)]) C d_Root_whose_47 (Nat.le_of_ble_eq_true rfl) rfl ?_
    refine r_iload (pc := 49) C 0 d_Root_whose_49 rfl ?_
    refine r_iload (pc := 51) C 4 d_Root_whose_51 rfl ?_
    refine r_icmp_ge (pc := 53) C (tgt := 63) d_Root_whose_53 (by decide) hf (fun c53 hf => ?_) (fun c53 hf => ?_)
    · exact r_lv (pc := 63) C [1, 2, 3, 4, 5] rfl (tb_Root_whose_63 C hk25 hf)
    · refine r_iload (pc := 56) C 5 d_Root_whose_56 rfl ?_
      refine r_istore_n (pc := 58) (lv' := [(3, .int v5), (6, .int x7), (0, .ref (Γ.2.1 0)), (1, .int v1), (4, .int v4), (5, .int v5)]) C d_Root_whose_58 rfl (Nat.le_of_ble_eq_true rfl) rfl ?_
      refine r_iload (pc := 59) C 1 d_Root_whose_59 rfl ?_
      refine r_istore (pc := 61) (lv' := [(4, .int x7), (3, .int v5), (6, .int x7), (0, .ref (Γ.2.1 0)), (1, .int v1), (5, .int v5)]) C d_Root_whose_61 (Nat.le_of_ble_eq_true rfl) rfl ?_
      exact r_lv (pc := 63) C [3, 4, 1, 0, 5] rfl (tb_Root_whose_63 C hk25 hf)
theorem tl_Root_whose_25 {Γ : GmT} {G : Dt → Nat → List (Nat × Value) → List Value → Prop} {rr : Int32} {DD : Dt} (C : Cx Γ "RiverTuesdays" b_Root_whose 7 7 (some .int) (some (.int rr)) DD G) : ∀ (n : Nat) (v1 : Int32) (v3 : Int32) (v4 : Int32) (v5 : Int32) (D : Dt), lp_Root_whose_25 n v1 v3 v4 v5 D = some (rr, DD) → G D 25 [(0, .ref (Γ.2.1 0)), (1, .int v1), (3, .int v3), (4, .int v4), (5, .int v5)] [] := by
  intro n
  induction n with
  | zero =>
    intro v1 v3 v4 v5 D hf
    exact absurd (show (none : Option (Int32 × Dt)) = some (rr, DD) from hf) (by simp)
  | succ n ih =>
    intro v1 v3 v4 v5 D hf
    exact ts_Root_whose_25 C (k25 := lp_Root_whose_25 n) ih hf
def f_Root_whose (v1 : Int32) (D : Dt) : Option (Int32 × Dt) :=
  bnd (f_Root_refusedPlan v1 D) (fun x1 D2 => (if x1 = 0 then bnd (f_Root_harmWithRaised 0 v1 D2) (fun x3 D4 => lp_Root_whose_25 FU v1 0 x3 1 D4) else some (x1, D2)))
set_option maxHeartbeats 4000000 in
theorem te_Root_whose {Γ : GmT} {G : Dt → Nat → List (Nat × Value) → List Value → Prop} {rr : Int32} {DD : Dt} (C : Cx Γ "RiverTuesdays" b_Root_whose 7 7 (some .int) (some (.int rr)) DD G) {v1 : Int32} {D : Dt} (hf : f_Root_whose v1 D = some (rr, DD)) : G D 0 [(0, .ref (Γ.2.1 0)), (1, .int v1)] [] := by
  unfold f_Root_whose at hf
  refine r_aload_n (pc := 0) C 0 d_Root_whose_0 rfl rfl ?_
  refine r_iload_n (pc := 1) C 1 d_Root_whose_1 rfl rfl ?_
  refine r_callVi (pc := 2) (As := [.int v1]) (rest := []) C ok_Root_refusedPlan Lm_Root_225 k_id0 (by decide) ⟨by decide, by decide⟩ rfl rfl (Nat.le_of_ble_eq_true rfl) d_Root_whose_2 hf (fun x D1 hc => c_Root_refusedPlan Γ hc) (fun x1 D2 hf => ?_)
  refine r_istore_n (pc := 5) (lv' := [(2, .int x1), (0, .ref (Γ.2.1 0)), (1, .int v1)]) C d_Root_whose_5 rfl (Nat.le_of_ble_eq_true rfl) rfl ?_
  refine r_iload_n (pc := 6) C 0 d_Root_whose_6 rfl rfl ?_
  refine r_if_eq (pc := 7) C (tgt := 12) d_Root_whose_7 (by decide) hf (fun c7 hf => ?_) (fun c7 hf => ?_)
  · refine r_iconst (pc := 12) C (v := 0) d_Root_whose_12 (by decide) ?_
    refine r_istore_n (pc := 13) (lv' := [(3, .int 0), (2, .int x1), (0, .ref (Γ.2.1 0)), (1, .int v1)]) C d_Root_whose_13 rfl (Nat.le_of_ble_eq_true rfl) rfl ?_
    refine r_aload_n (pc := 14) C 2 d_Root_whose_14 rfl rfl ?_
    refine r_iconst (pc := 15) C (v := 0) d_Root_whose_15 (by decide) ?_
    refine r_iload_n (pc := 16) C 3 d_Root_whose_16 rfl rfl ?_
    refine r_callVi (pc := 17) (As := [.int 0, .int v1]) (rest := []) C ok_Root_harmWithRaised Lm_Root_335 k_id0 (by decide) ⟨by decide, by decide⟩ rfl rfl (Nat.le_of_ble_eq_true rfl) d_Root_whose_17 hf (fun x D1 hc => c_Root_harmWithRaised Γ hc) (fun x3 D4 hf => ?_)
    refine r_istore (pc := 20) (lv' := [(4, .int x3), (3, .int 0), (2, .int x1), (0, .ref (Γ.2.1 0)), (1, .int v1)]) C d_Root_whose_20 (Nat.le_of_ble_eq_true rfl) rfl ?_
    refine r_iconst (pc := 22) C (v := 1) d_Root_whose_22 (by decide) ?_
    refine r_istore (pc := 23) (lv' := [(5, .int 1), (4, .int x3), (3, .int 0), (2, .int x1), (0, .ref (Γ.2.1 0)), (1, .int v1)]) C d_Root_whose_23 (Nat.le_of_ble_eq_true rfl) rfl ?_
    exact r_lv (pc := 25) C [4, 5, 2, 1, 0] rfl (tl_Root_whose_25 C FU v1 0 x3 1 D4 hf)
  · refine r_iload_n (pc := 10) C 0 d_Root_whose_10 rfl rfl ?_
    exact r_iret (pc := 11) C d_Root_whose_11 hf
theorem c_Root_whose (Γ : GmT) {v1 : Int32} {D : Dt} {rr : Int32} {DD : Dt} (hf : f_Root_whose v1 D = some (rr, DD)) : Mt Γ y_Root_whose b_Root_whose 7 (some .int) 7 [.ref (Γ.2.1 0), .int v1] D (some (.int rr)) DD := Mt_of (by decide) (Nat.le_of_ble_eq_true rfl) (fun G C => te_Root_whose C hf)
def b_Root_refusedJobs_40 (D : Dt) : Option (Int32 × Dt) :=
  bnd (f_Root_find 1 D) (fun x7 D8 => some (x7, D8))
set_option maxHeartbeats 4000000 in
theorem tb_Root_refusedJobs_40 {Γ : GmT} {G : Dt → Nat → List (Nat × Value) → List Value → Prop} {rr : Int32} {DD : Dt} (C : Cx Γ "RiverTuesdays" b_Root_refusedJobs 4 3 (some .int) (some (.int rr)) DD G) {D : Dt} (hf : b_Root_refusedJobs_40 D = some (rr, DD)) : G D 40 [(0, .ref (Γ.2.1 0))] [] := by
  unfold b_Root_refusedJobs_40 at hf
  refine r_aload_n (pc := 40) C 0 d_Root_refusedJobs_40 rfl rfl ?_
  refine r_iconst (pc := 41) C (v := 1) d_Root_refusedJobs_41 (by decide) ?_
  refine r_callVi (pc := 42) (As := [.int 1]) (rest := []) C ok_Root_find Lm_Root_84 k_id0 (by decide) ⟨by decide, by decide⟩ rfl rfl (Nat.le_of_ble_eq_true rfl) d_Root_refusedJobs_42 hf (fun x D1 hc => c_Root_find Γ hc) (fun x7 D8 hf => ?_)
  exact r_iret (pc := 45) C d_Root_refusedJobs_45 hf
def b_Root_refusedJobs_81 (D : Dt) : Option (Int32 × Dt) :=
  bnd (f_Root_find 5 D) (fun x11 D12 => some (x11, D12))
set_option maxHeartbeats 4000000 in
theorem tb_Root_refusedJobs_81 {Γ : GmT} {G : Dt → Nat → List (Nat × Value) → List Value → Prop} {rr : Int32} {DD : Dt} (C : Cx Γ "RiverTuesdays" b_Root_refusedJobs 4 3 (some .int) (some (.int rr)) DD G) {D : Dt} (hf : b_Root_refusedJobs_81 D = some (rr, DD)) : G D 81 [(0, .ref (Γ.2.1 0))] [] := by
  unfold b_Root_refusedJobs_81 at hf
  refine r_aload_n (pc := 81) C 0 d_Root_refusedJobs_81 rfl rfl ?_
  refine r_iconst (pc := 82) C (v := 5) d_Root_refusedJobs_82 (by decide) ?_
  refine r_callVi (pc := 83) (As := [.int 5]) (rest := []) C ok_Root_find Lm_Root_84 k_id0 (by decide) ⟨by decide, by decide⟩ rfl rfl (Nat.le_of_ble_eq_true rfl) d_Root_refusedJobs_83 hf (fun x D1 hc => c_Root_find Γ hc) (fun x11 D12 hf => ?_)
  exact r_iret (pc := 86) C d_Root_refusedJobs_86 hf
def b_Root_refusedJobs_122 (s0 : Int32) (D : Dt) : Option (Int32 × Dt) :=
  (if s0 = 0 then bnd (f_Root_find 3 D) (fun x15 D16 => some (x15, D16)) else some (0, D))
set_option maxHeartbeats 4000000 in
theorem tb_Root_refusedJobs_122 {Γ : GmT} {G : Dt → Nat → List (Nat × Value) → List Value → Prop} {rr : Int32} {DD : Dt} (C : Cx Γ "RiverTuesdays" b_Root_refusedJobs 4 3 (some .int) (some (.int rr)) DD G) {s0 : Int32} {D : Dt} (hf : b_Root_refusedJobs_122 s0 D = some (rr, DD)) : G D 122 [(0, .ref (Γ.2.1 0))] [.int s0] := by
  unfold b_Root_refusedJobs_122 at hf
  refine r_istore_n (pc := 122) (lv' := [(3, .int s0), (0, .ref (Γ.2.1 0))]) C d_Root_refusedJobs_122 rfl (Nat.le_of_ble_eq_true rfl) rfl ?_
  refine r_iload_n (pc := 123) C 0 d_Root_refusedJobs_123 rfl rfl ?_
  refine r_if_eq (pc := 124) C (tgt := 131) d_Root_refusedJobs_124 (by decide) hf (fun c124 hf => ?_) (fun c124 hf => ?_)
  · refine r_aload_n (pc := 131) C 1 d_Root_refusedJobs_131 rfl rfl ?_
    refine r_iconst (pc := 132) C (v := 3) d_Root_refusedJobs_132 (by decide) ?_
    refine r_callVi (pc := 133) (As := [.int 3]) (rest := []) C ok_Root_find Lm_Root_84 k_id0 (by decide) ⟨by decide, by decide⟩ rfl rfl (Nat.le_of_ble_eq_true rfl) d_Root_refusedJobs_133 hf (fun x D1 hc => c_Root_find Γ hc) (fun x15 D16 hf => ?_)
    exact r_iret (pc := 136) C d_Root_refusedJobs_136 hf
  · refine r_iconst (pc := 127) C (v := 0) d_Root_refusedJobs_127 (by decide) ?_
    refine r_goto (pc := 128) C (tgt := 136) d_Root_refusedJobs_128 (by decide) ?_
    exact r_iret (pc := 136) C d_Root_refusedJobs_136 hf
def b_Root_refusedJobs_121 (D : Dt) : Option (Int32 × Dt) :=
  b_Root_refusedJobs_122 0 D
set_option maxHeartbeats 4000000 in
theorem tb_Root_refusedJobs_121 {Γ : GmT} {G : Dt → Nat → List (Nat × Value) → List Value → Prop} {rr : Int32} {DD : Dt} (C : Cx Γ "RiverTuesdays" b_Root_refusedJobs 4 3 (some .int) (some (.int rr)) DD G) {D : Dt} (hf : b_Root_refusedJobs_121 D = some (rr, DD)) : G D 121 [(0, .ref (Γ.2.1 0))] [] := by
  unfold b_Root_refusedJobs_121 at hf
  refine r_iconst (pc := 121) C (v := 0) d_Root_refusedJobs_121 (by decide) ?_
  exact r_lv (pc := 122) C [0] rfl (tb_Root_refusedJobs_122 C hf)
def f_Root_refusedJobs (v1 : Int32) (v2 : Int32) (D : Dt) : Option (Int32 × Dt) :=
  bnd (f_Root_isRow v1 D) (fun x1 D2 => (if x1 = 0 then some ((-1), D2) else bnd (f_Root_isRow v2 D2) (fun x3 D4 => (if x3 = 0 then some ((-1), D4) else (if inb v1 6 = true then bnd (f_Row_isThere (111 + 2 * v1.toNatClampNeg) D4) (fun x5 D6 => (if x5 = 0 then b_Root_refusedJobs_40 D6 else (if inb v2 6 = true then bnd (f_Row_isThere (111 + 2 * v2.toNatClampNeg) D6) (fun x9 D10 => (if x9 = 0 then b_Root_refusedJobs_40 D10 else (if inb v1 6 = true then (if 6 < (D10 (111 + 2 * v1.toNatClampNeg) 1) then b_Root_refusedJobs_81 D10 else (if inb v1 6 = true then (if inb v2 6 = true then (if (D10 (111 + 2 * v1.toNatClampNeg) 1) = (D10 (111 + 2 * v2.toNatClampNeg) 1) then (if inb v1 6 = true then bnd (f_Row_isAllWithin (111 + 2 * v1.toNatClampNeg) 1 24 D10) (fun x13 D14 => (if x13 = 0 then b_Root_refusedJobs_121 D14 else (if inb v2 6 = true then bnd (f_Row_isAllWithin (111 + 2 * v2.toNatClampNeg) 0 99 D14) (fun x17 D18 => (if x17 = 0 then b_Root_refusedJobs_121 D18 else b_Root_refusedJobs_122 1 D18)) else none))) else none) else b_Root_refusedJobs_81 D10) else none) else none)) else none))) else none))) else none)))))
set_option maxHeartbeats 4000000 in
theorem te_Root_refusedJobs {Γ : GmT} {G : Dt → Nat → List (Nat × Value) → List Value → Prop} {rr : Int32} {DD : Dt} (C : Cx Γ "RiverTuesdays" b_Root_refusedJobs 4 3 (some .int) (some (.int rr)) DD G) {v1 : Int32} {v2 : Int32} {D : Dt} (hf : f_Root_refusedJobs v1 v2 D = some (rr, DD)) : G D 0 [(0, .ref (Γ.2.1 0)), (1, .int v1), (2, .int v2)] [] := by
  unfold f_Root_refusedJobs at hf
  refine r_iload_n (pc := 0) C 1 d_Root_refusedJobs_0 rfl rfl ?_
  refine r_callSi (pc := 1) (As := [.int v1]) (rest := []) C ok_Root_isRow Lm_Root_80 ⟨by decide, by decide⟩ rfl rfl (Nat.le_of_ble_eq_true rfl) d_Root_refusedJobs_1 hf (fun x D1 hc => c_Root_isRow Γ hc) (fun x1 D2 hf => ?_)
  refine r_if_eq (pc := 4) C (tgt := 14) d_Root_refusedJobs_4 (by decide) hf (fun c4 hf => ?_) (fun c4 hf => ?_)
  · refine r_iconst (pc := 14) C (v := (-1)) d_Root_refusedJobs_14 (by decide) ?_
    exact r_iret (pc := 15) C d_Root_refusedJobs_15 hf
  · refine r_iload_n (pc := 7) C 2 d_Root_refusedJobs_7 rfl rfl ?_
    refine r_callSi (pc := 8) (As := [.int v2]) (rest := []) C ok_Root_isRow Lm_Root_80 ⟨by decide, by decide⟩ rfl rfl (Nat.le_of_ble_eq_true rfl) d_Root_refusedJobs_8 hf (fun x D1 hc => c_Root_isRow Γ hc) (fun x3 D4 hf => ?_)
    refine r_if_ne (pc := 11) C (tgt := 16) d_Root_refusedJobs_11 (by decide) hf (fun c11 hf => ?_) (fun c11 hf => ?_)
    · refine r_aload_n (pc := 16) C 0 d_Root_refusedJobs_16 rfl rfl ?_
      refine g_Root_rows (pc := 17) C k_id0 Lf_Root_11 d_Root_refusedJobs_17 ?_
      refine r_iload_n (pc := 20) C 1 d_Root_refusedJobs_20 rfl rfl ?_
      refine r_aald13 (pc := 21) C kq_Root_rows d_Root_refusedJobs_21 hf (fun hn21 hf => ?_)
      refine r_callVi (pc := 22) (As := []) (rest := []) C ok_Row_isThere Lm_Root_109 (ke13 _ (inb_lt hn21)) (by decide) ⟨by decide, by decide⟩ rfl rfl (Nat.le_of_ble_eq_true rfl) d_Root_refusedJobs_22 hf (fun x D1 hc => c_Row_isThere Γ (ke13 _ (inb_lt hn21)) hc) (fun x5 D6 hf => ?_)
      refine r_if_eq (pc := 25) C (tgt := 40) d_Root_refusedJobs_25 (by decide) hf (fun c25 hf => ?_) (fun c25 hf => ?_)
      · exact r_lv (pc := 40) C [0] rfl (tb_Root_refusedJobs_40 C hf)
      · refine r_aload_n (pc := 28) C 0 d_Root_refusedJobs_28 rfl rfl ?_
        refine g_Root_rows (pc := 29) C k_id0 Lf_Root_11 d_Root_refusedJobs_29 ?_
        refine r_iload_n (pc := 32) C 2 d_Root_refusedJobs_32 rfl rfl ?_
        refine r_aald13 (pc := 33) C kq_Root_rows d_Root_refusedJobs_33 hf (fun hn33 hf => ?_)
        refine r_callVi (pc := 34) (As := []) (rest := []) C ok_Row_isThere Lm_Root_109 (ke13 _ (inb_lt hn33)) (by decide) ⟨by decide, by decide⟩ rfl rfl (Nat.le_of_ble_eq_true rfl) d_Root_refusedJobs_34 hf (fun x D1 hc => c_Row_isThere Γ (ke13 _ (inb_lt hn33)) hc) (fun x9 D10 hf => ?_)
        refine r_if_ne (pc := 37) C (tgt := 46) d_Root_refusedJobs_37 (by decide) hf (fun c37 hf => ?_) (fun c37 hf => ?_)
        · refine r_aload_n (pc := 46) C 0 d_Root_refusedJobs_46 rfl rfl ?_
          refine g_Root_rows (pc := 47) C k_id0 Lf_Root_11 d_Root_refusedJobs_47 ?_
          refine r_iload_n (pc := 50) C 1 d_Root_refusedJobs_50 rfl rfl ?_
          refine r_aald13 (pc := 51) C kq_Root_rows d_Root_refusedJobs_51 hf (fun hn51 hf => ?_)
          refine g_Row_size (pc := 52) C (ke13 _ (inb_lt hn51)) Lf_Root_105 d_Root_refusedJobs_52 ?_
          refine r_bipush (pc := 55) C (v := 6) d_Root_refusedJobs_55 (by decide) ?_
          refine r_icmp_gt (pc := 57) C (tgt := 81) d_Root_refusedJobs_57 (by decide) hf (fun c57 hf => ?_) (fun c57 hf => ?_)
          · exact r_lv (pc := 81) C [0] rfl (tb_Root_refusedJobs_81 C hf)
          · refine r_aload_n (pc := 60) C 0 d_Root_refusedJobs_60 rfl rfl ?_
            refine g_Root_rows (pc := 61) C k_id0 Lf_Root_11 d_Root_refusedJobs_61 ?_
            refine r_iload_n (pc := 64) C 1 d_Root_refusedJobs_64 rfl rfl ?_
            refine r_aald13 (pc := 65) C kq_Root_rows d_Root_refusedJobs_65 hf (fun hn65 hf => ?_)
            refine g_Row_size (pc := 66) C (ke13 _ (inb_lt hn65)) Lf_Root_105 d_Root_refusedJobs_66 ?_
            refine r_aload_n (pc := 69) C 0 d_Root_refusedJobs_69 rfl rfl ?_
            refine g_Root_rows (pc := 70) C k_id0 Lf_Root_11 d_Root_refusedJobs_70 ?_
            refine r_iload_n (pc := 73) C 2 d_Root_refusedJobs_73 rfl rfl ?_
            refine r_aald13 (pc := 74) C kq_Root_rows d_Root_refusedJobs_74 hf (fun hn74 hf => ?_)
            refine g_Row_size (pc := 75) C (ke13 _ (inb_lt hn74)) Lf_Root_105 d_Root_refusedJobs_75 ?_
            refine r_icmp_eq (pc := 78) C (tgt := 87) d_Root_refusedJobs_78 (by decide) hf (fun c78 hf => ?_) (fun c78 hf => ?_)
            · refine r_aload_n (pc := 87) C 0 d_Root_refusedJobs_87 rfl rfl ?_
              refine g_Root_rows (pc := 88) C k_id0 Lf_Root_11 d_Root_refusedJobs_88 ?_
              refine r_iload_n (pc := 91) C 1 d_Root_refusedJobs_91 rfl rfl ?_
              refine r_aald13 (pc := 92) C kq_Root_rows d_Root_refusedJobs_92 hf (fun hn92 hf => ?_)
              refine r_iconst (pc := 93) C (v := 1) d_Root_refusedJobs_93 (by decide) ?_
              refine r_bipush (pc := 94) C (v := 24) d_Root_refusedJobs_94 (by decide) ?_
              refine r_callVi (pc := 96) (As := [.int 1, .int 24]) (rest := []) C ok_Row_isAllWithin Lm_Root_354 (ke13 _ (inb_lt hn92)) (by decide) ⟨by decide, by decide⟩ rfl rfl (Nat.le_of_ble_eq_true rfl) d_Root_refusedJobs_96 hf (fun x D1 hc => c_Row_isAllWithin Γ (ke13 _ (inb_lt hn92)) hc) (fun x13 D14 hf => ?_)
              refine r_if_eq (pc := 99) C (tgt := 121) d_Root_refusedJobs_99 (by decide) hf (fun c99 hf => ?_) (fun c99 hf => ?_)
              · exact r_lv (pc := 121) C [0] rfl (tb_Root_refusedJobs_121 C hf)
              · refine r_aload_n (pc := 102) C 0 d_Root_refusedJobs_102 rfl rfl ?_
                refine g_Root_rows (pc := 103) C k_id0 Lf_Root_11 d_Root_refusedJobs_103 ?_
                refine r_iload_n (pc := 106) C 2 d_Root_refusedJobs_106 rfl rfl ?_
                refine r_aald13 (pc := 107) C kq_Root_rows d_Root_refusedJobs_107 hf (fun hn107 hf => ?_)
                refine r_iconst (pc := 108) C (v := 0) d_Root_refusedJobs_108 (by decide) ?_
                refine r_bipush (pc := 109) C (v := 99) d_Root_refusedJobs_109 (by decide) ?_
                refine r_callVi (pc := 111) (As := [.int 0, .int 99]) (rest := []) C ok_Row_isAllWithin Lm_Root_354 (ke13 _ (inb_lt hn107)) (by decide) ⟨by decide, by decide⟩ rfl rfl (Nat.le_of_ble_eq_true rfl) d_Root_refusedJobs_111 hf (fun x D1 hc => c_Row_isAllWithin Γ (ke13 _ (inb_lt hn107)) hc) (fun x17 D18 hf => ?_)
                refine r_if_eq (pc := 114) C (tgt := 121) d_Root_refusedJobs_114 (by decide) hf (fun c114 hf => ?_) (fun c114 hf => ?_)
                · exact r_lv (pc := 121) C [0] rfl (tb_Root_refusedJobs_121 C hf)
                · refine r_iconst (pc := 117) C (v := 1) d_Root_refusedJobs_117 (by decide) ?_
                  refine r_goto (pc := 118) C (tgt := 122) d_Root_refusedJobs_118 (by decide) ?_
                  exact r_lv (pc := 122) C [0] rfl (tb_Root_refusedJobs_122 C hf)
            · exact r_lv (pc := 81) C [0] rfl (tb_Root_refusedJobs_81 C hf)
        · exact r_lv (pc := 40) C [0] rfl (tb_Root_refusedJobs_40 C hf)
    · refine r_iconst (pc := 14) C (v := (-1)) d_Root_refusedJobs_14 (by decide) ?_
      exact r_iret (pc := 15) C d_Root_refusedJobs_15 hf
theorem c_Root_refusedJobs (Γ : GmT) {v1 : Int32} {v2 : Int32} {D : Dt} {rr : Int32} {DD : Dt} (hf : f_Root_refusedJobs v1 v2 D = some (rr, DD)) : Mt Γ y_Root_refusedJobs b_Root_refusedJobs 4 (some .int) 3 [.ref (Γ.2.1 0), .int v1, .int v2] D (some (.int rr)) DD := Mt_of (by decide) (Nat.le_of_ble_eq_true rfl) (fun G C => te_Root_refusedJobs C hf)
def f_Root_work (v1 : Int32) (v2 : Int32) (v3 : Int32) (D : Dt) : Option (Int32 × Dt) :=
  bnd (f_Root_isRow v3 D) (fun x1 D2 => (if x1 = 0 then some ((-1), D2) else bnd (f_Root_refusedJobs v1 v2 D2) (fun x3 D4 => (if x3 = 0 then (if inb v1 6 = true then (if inb v2 6 = true then bnd (f_Jobs_takeFrom (111 + 2 * v1.toNatClampNeg) (111 + 2 * v2.toNatClampNeg) D4) (fun x5 D6 => bnd (f_Jobs_findBestOrder D6) (fun x7 D8 => (if inb v3 6 = true then bnd (f_Row_takeFrom (111 + 2 * v3.toNatClampNeg) 108 (D8 104 4) D8) (fun x9 D10 => some (x7, D10)) else none))) else none) else none) else some (x3, D4)))))
set_option maxHeartbeats 4000000 in
theorem te_Root_work {Γ : GmT} {G : Dt → Nat → List (Nat × Value) → List Value → Prop} {rr : Int32} {DD : Dt} (C : Cx Γ "RiverTuesdays" b_Root_work 6 4 (some .int) (some (.int rr)) DD G) {v1 : Int32} {v2 : Int32} {v3 : Int32} {D : Dt} (hf : f_Root_work v1 v2 v3 D = some (rr, DD)) : G D 0 [(0, .ref (Γ.2.1 0)), (1, .int v1), (2, .int v2), (3, .int v3)] [] := by
  unfold f_Root_work at hf
  refine r_iload_n (pc := 0) C 3 d_Root_work_0 rfl rfl ?_
  refine r_callSi (pc := 1) (As := [.int v3]) (rest := []) C ok_Root_isRow Lm_Root_80 ⟨by decide, by decide⟩ rfl rfl (Nat.le_of_ble_eq_true rfl) d_Root_work_1 hf (fun x D1 hc => c_Root_isRow Γ hc) (fun x1 D2 hf => ?_)
  refine r_if_ne (pc := 4) C (tgt := 9) d_Root_work_4 (by decide) hf (fun c4 hf => ?_) (fun c4 hf => ?_)
  · refine r_aload_n (pc := 9) C 0 d_Root_work_9 rfl rfl ?_
    refine r_iload_n (pc := 10) C 1 d_Root_work_10 rfl rfl ?_
    refine r_iload_n (pc := 11) C 2 d_Root_work_11 rfl rfl ?_
    refine r_callVi (pc := 12) (As := [.int v1, .int v2]) (rest := []) C ok_Root_refusedJobs Lm_Root_338 k_id0 (by decide) ⟨by decide, by decide⟩ rfl rfl (Nat.le_of_ble_eq_true rfl) d_Root_work_12 hf (fun x D1 hc => c_Root_refusedJobs Γ hc) (fun x3 D4 hf => ?_)
    refine r_istore (pc := 15) (lv' := [(4, .int x3), (0, .ref (Γ.2.1 0)), (1, .int v1), (2, .int v2), (3, .int v3)]) C d_Root_work_15 (Nat.le_of_ble_eq_true rfl) rfl ?_
    refine r_iload (pc := 17) C 0 d_Root_work_17 rfl ?_
    refine r_if_eq (pc := 19) C (tgt := 25) d_Root_work_19 (by decide) hf (fun c19 hf => ?_) (fun c19 hf => ?_)
    · refine r_aload_n (pc := 25) C 1 d_Root_work_25 rfl rfl ?_
      refine g_Root_jobs (pc := 26) C k_id0 Lf_Root_67 d_Root_work_26 ?_
      refine r_aload_n (pc := 29) C 1 d_Root_work_29 rfl rfl ?_
      refine g_Root_rows (pc := 30) C k_id0 Lf_Root_11 d_Root_work_30 ?_
      refine r_iload_n (pc := 33) C 2 d_Root_work_33 rfl rfl ?_
      refine r_aald13 (pc := 34) C kq_Root_rows d_Root_work_34 hf (fun hn34 hf => ?_)
      refine r_aload_n (pc := 35) C 1 d_Root_work_35 rfl rfl ?_
      refine g_Root_rows (pc := 36) C k_id0 Lf_Root_11 d_Root_work_36 ?_
      refine r_iload_n (pc := 39) C 3 d_Root_work_39 rfl rfl ?_
      refine r_aald13 (pc := 40) C kq_Root_rows d_Root_work_40 hf (fun hn40 hf => ?_)
      refine r_callVv (pc := 41) (As := [.ref (Γ.2.1 (111 + 2 * v1.toNatClampNeg)), .ref (Γ.2.1 (111 + 2 * v2.toNatClampNeg))]) (rest := []) C ok_Jobs_takeFrom Lm_Root_341 kq_Root_jobs (by decide) ⟨by decide, by decide⟩ rfl rfl (Nat.le_of_ble_eq_true rfl) d_Root_work_41 hf (fun x D1 hc => c_Jobs_takeFrom Γ (ke13 _ (inb_lt hn34)) (ke13 _ (inb_lt hn40)) hc) (fun x5 D6 hf => ?_)
      refine r_aload_n (pc := 44) C 1 d_Root_work_44 rfl rfl ?_
      refine g_Root_jobs (pc := 45) C k_id0 Lf_Root_67 d_Root_work_45 ?_
      refine r_callVi (pc := 48) (As := []) (rest := []) C ok_Jobs_findBestOrder Lm_Root_344 kq_Root_jobs (by decide) ⟨by decide, by decide⟩ rfl rfl (Nat.le_of_ble_eq_true rfl) d_Root_work_48 hf (fun x D1 hc => c_Jobs_findBestOrder Γ hc) (fun x7 D8 hf => ?_)
      refine r_istore (pc := 51) (lv' := [(5, .int x7), (4, .int x3), (0, .ref (Γ.2.1 0)), (1, .int v1), (2, .int v2), (3, .int v3)]) C d_Root_work_51 (Nat.le_of_ble_eq_true rfl) rfl ?_
      refine r_aload_n (pc := 53) C 2 d_Root_work_53 rfl rfl ?_
      refine g_Root_rows (pc := 54) C k_id0 Lf_Root_11 d_Root_work_54 ?_
      refine r_iload_n (pc := 57) C 5 d_Root_work_57 rfl rfl ?_
      refine r_aald13 (pc := 58) C kq_Root_rows d_Root_work_58 hf (fun hn58 hf => ?_)
      refine r_aload_n (pc := 59) C 2 d_Root_work_59 rfl rfl ?_
      refine g_Root_jobs (pc := 60) C k_id0 Lf_Root_67 d_Root_work_60 ?_
      refine g_Jobs_bestOrder (pc := 63) C kq_Root_jobs Lf_Root_347 d_Root_work_63 ?_
      refine r_aload_n (pc := 66) C 2 d_Root_work_66 rfl rfl ?_
      refine g_Root_jobs (pc := 67) C k_id0 Lf_Root_67 d_Root_work_67 ?_
      refine g_Jobs_size (pc := 70) C kq_Root_jobs Lf_Root_350 d_Root_work_70 ?_
      refine r_callVv (pc := 73) (As := [.ref (Γ.2.1 108), .int (D8 104 4)]) (rest := []) C ok_Row_takeFrom Lm_Root_272 (ke13 _ (inb_lt hn58)) (by decide) ⟨by decide, by decide⟩ rfl rfl (Nat.le_of_ble_eq_true rfl) d_Root_work_73 hf (fun x D1 hc => c_Row_takeFrom Γ (ke13 _ (inb_lt hn58)) (kq_Jobs_bestOrder).1 hc) (fun x9 D10 hf => ?_)
      refine r_iload (pc := 76) C 0 d_Root_work_76 rfl ?_
      exact r_iret (pc := 78) C d_Root_work_78 hf
    · refine r_iload (pc := 22) C 0 d_Root_work_22 rfl ?_
      exact r_iret (pc := 24) C d_Root_work_24 hf
  · refine r_iconst (pc := 7) C (v := (-1)) d_Root_work_7 (by decide) ?_
    exact r_iret (pc := 8) C d_Root_work_8 hf
theorem c_Root_work (Γ : GmT) {v1 : Int32} {v2 : Int32} {v3 : Int32} {D : Dt} {rr : Int32} {DD : Dt} (hf : f_Root_work v1 v2 v3 D = some (rr, DD)) : Mt Γ y_Root_work b_Root_work 6 (some .int) 4 [.ref (Γ.2.1 0), .int v1, .int v2, .int v3] D (some (.int rr)) DD := Mt_of (by decide) (Nat.le_of_ble_eq_true rfl) (fun G C => te_Root_work C hf)
def f_Root_done (v1 : Int32) (v2 : Int32) (D : Dt) : Option (Int32 × Dt) :=
  bnd (f_Root_refusedJobs v1 v2 D) (fun x1 D2 => (if x1 = 0 then (if inb v1 6 = true then (if inb v2 6 = true then bnd (f_Jobs_takeFrom (111 + 2 * v1.toNatClampNeg) (111 + 2 * v2.toNatClampNeg) D2) (fun x3 D4 => bnd (f_Jobs_findMostInTime D4) (fun x5 D6 => bnd (f_J_bitCount x5 D6) (fun x7 D8 => bnd (f_Root_tell x5 x7 D8) (fun x9 D10 => some (x9, D10))))) else none) else none) else some (x1, D2)))
set_option maxHeartbeats 4000000 in
theorem te_Root_done {Γ : GmT} {G : Dt → Nat → List (Nat × Value) → List Value → Prop} {rr : Int32} {DD : Dt} (C : Cx Γ "RiverTuesdays" b_Root_done 5 4 (some .int) (some (.int rr)) DD G) {v1 : Int32} {v2 : Int32} {D : Dt} (hf : f_Root_done v1 v2 D = some (rr, DD)) : G D 0 [(0, .ref (Γ.2.1 0)), (1, .int v1), (2, .int v2)] [] := by
  unfold f_Root_done at hf
  refine r_aload_n (pc := 0) C 0 d_Root_done_0 rfl rfl ?_
  refine r_iload_n (pc := 1) C 1 d_Root_done_1 rfl rfl ?_
  refine r_iload_n (pc := 2) C 2 d_Root_done_2 rfl rfl ?_
  refine r_callVi (pc := 3) (As := [.int v1, .int v2]) (rest := []) C ok_Root_refusedJobs Lm_Root_338 k_id0 (by decide) ⟨by decide, by decide⟩ rfl rfl (Nat.le_of_ble_eq_true rfl) d_Root_done_3 hf (fun x D1 hc => c_Root_refusedJobs Γ hc) (fun x1 D2 hf => ?_)
  refine r_istore_n (pc := 6) (lv' := [(3, .int x1), (0, .ref (Γ.2.1 0)), (1, .int v1), (2, .int v2)]) C d_Root_done_6 rfl (Nat.le_of_ble_eq_true rfl) rfl ?_
  refine r_iload_n (pc := 7) C 0 d_Root_done_7 rfl rfl ?_
  refine r_if_eq (pc := 8) C (tgt := 13) d_Root_done_8 (by decide) hf (fun c8 hf => ?_) (fun c8 hf => ?_)
  · refine r_aload_n (pc := 13) C 1 d_Root_done_13 rfl rfl ?_
    refine g_Root_jobs (pc := 14) C k_id0 Lf_Root_67 d_Root_done_14 ?_
    refine r_aload_n (pc := 17) C 1 d_Root_done_17 rfl rfl ?_
    refine g_Root_rows (pc := 18) C k_id0 Lf_Root_11 d_Root_done_18 ?_
    refine r_iload_n (pc := 21) C 2 d_Root_done_21 rfl rfl ?_
    refine r_aald13 (pc := 22) C kq_Root_rows d_Root_done_22 hf (fun hn22 hf => ?_)
    refine r_aload_n (pc := 23) C 1 d_Root_done_23 rfl rfl ?_
    refine g_Root_rows (pc := 24) C k_id0 Lf_Root_11 d_Root_done_24 ?_
    refine r_iload_n (pc := 27) C 3 d_Root_done_27 rfl rfl ?_
    refine r_aald13 (pc := 28) C kq_Root_rows d_Root_done_28 hf (fun hn28 hf => ?_)
    refine r_callVv (pc := 29) (As := [.ref (Γ.2.1 (111 + 2 * v1.toNatClampNeg)), .ref (Γ.2.1 (111 + 2 * v2.toNatClampNeg))]) (rest := []) C ok_Jobs_takeFrom Lm_Root_341 kq_Root_jobs (by decide) ⟨by decide, by decide⟩ rfl rfl (Nat.le_of_ble_eq_true rfl) d_Root_done_29 hf (fun x D1 hc => c_Jobs_takeFrom Γ (ke13 _ (inb_lt hn22)) (ke13 _ (inb_lt hn28)) hc) (fun x3 D4 hf => ?_)
    refine r_aload_n (pc := 32) C 1 d_Root_done_32 rfl rfl ?_
    refine g_Root_jobs (pc := 33) C k_id0 Lf_Root_67 d_Root_done_33 ?_
    refine r_callVi (pc := 36) (As := []) (rest := []) C ok_Jobs_findMostInTime Lm_Root_351 kq_Root_jobs (by decide) ⟨by decide, by decide⟩ rfl rfl (Nat.le_of_ble_eq_true rfl) d_Root_done_36 hf (fun x D1 hc => c_Jobs_findMostInTime Γ hc) (fun x5 D6 hf => ?_)
    refine r_istore (pc := 39) (lv' := [(4, .int x5), (3, .int x1), (0, .ref (Γ.2.1 0)), (1, .int v1), (2, .int v2)]) C d_Root_done_39 (Nat.le_of_ble_eq_true rfl) rfl ?_
    refine r_aload_n (pc := 41) C 2 d_Root_done_41 rfl rfl ?_
    refine r_iload (pc := 42) C 0 d_Root_done_42 rfl ?_
    refine r_iload (pc := 44) C 0 d_Root_done_44 rfl ?_
    refine r_callSi (pc := 46) (As := [.int x5]) (rest := [.int x5, .ref (Γ.2.1 0)]) C ok_J_bitCount Lm_Root_240 ⟨by decide, by decide⟩ rfl rfl (Nat.le_of_ble_eq_true rfl) d_Root_done_46 hf (fun x D1 hc => c_J_bitCount Γ hc) (fun x7 D8 hf => ?_)
    refine r_callVi (pc := 49) (As := [.int x5, .int x7]) (rest := []) C ok_Root_tell Lm_Root_99 k_id0 (by decide) ⟨by decide, by decide⟩ rfl rfl (Nat.le_of_ble_eq_true rfl) d_Root_done_49 hf (fun x D1 hc => c_Root_tell Γ hc) (fun x9 D10 hf => ?_)
    exact r_iret (pc := 52) C d_Root_done_52 hf
  · refine r_iload_n (pc := 11) C 0 d_Root_done_11 rfl rfl ?_
    exact r_iret (pc := 12) C d_Root_done_12 hf
theorem c_Root_done (Γ : GmT) {v1 : Int32} {v2 : Int32} {D : Dt} {rr : Int32} {DD : Dt} (hf : f_Root_done v1 v2 D = some (rr, DD)) : Mt Γ y_Root_done b_Root_done 5 (some .int) 4 [.ref (Γ.2.1 0), .int v1, .int v2] D (some (.int rr)) DD := Mt_of (by decide) (Nat.le_of_ble_eq_true rfl) (fun G C => te_Root_done C hf)
def s_Root_calendar_97 (k97 : Int32 → Int32 → Int32 → Int32 → Int32 → Dt → Option (Int32 × Dt)) (v1 : Int32) (v2 : Int32) (v3 : Int32) (v5 : Int32) (v6 : Int32) (D : Dt) : Option (Int32 × Dt) :=
  (if inb v3 6 = true then (if (D (111 + 2 * v3.toNatClampNeg) 1) ≤ v6 then some (0, D) else (if inb v3 6 = true then (if inb v6 60 = true then (if v2 = 0 then none else (if v2 = 0 then none else (if (((D ((111 + 2 * v3.toNatClampNeg) + 1) v6.toNatClampNeg) + v5) % v2) = (v1 % v2) then some (1, D) else k97 v1 v2 v3 v5 (v6 + 1) D))) else none) else none)) else none)
def lp_Root_calendar_97 (n : Nat) : Int32 → Int32 → Int32 → Int32 → Int32 → Dt → Option (Int32 × Dt) := itr (fun _ _ _ _ _ _ => none) (s_Root_calendar_97) n
set_option maxHeartbeats 4000000 in
theorem ts_Root_calendar_97 {Γ : GmT} {G : Dt → Nat → List (Nat × Value) → List Value → Prop} {rr : Int32} {DD : Dt} (C : Cx Γ "RiverTuesdays" b_Root_calendar 7 3 (some .int) (some (.int rr)) DD G) {k97 : Int32 → Int32 → Int32 → Int32 → Int32 → Dt → Option (Int32 × Dt)} (hk97 : ∀ (v1 : Int32) (v2 : Int32) (v3 : Int32) (v5 : Int32) (v6 : Int32) (D : Dt), k97 v1 v2 v3 v5 v6 D = some (rr, DD) → G D 97 [(0, .ref (Γ.2.1 0)), (1, .int v1), (2, .int v2), (3, .int v3), (5, .int v5), (6, .int v6)] []) {v1 : Int32} {v2 : Int32} {v3 : Int32} {v5 : Int32} {v6 : Int32} {D : Dt} (hf : s_Root_calendar_97 k97 v1 v2 v3 v5 v6 D = some (rr, DD)) : G D 97 [(0, .ref (Γ.2.1 0)), (1, .int v1), (2, .int v2), (3, .int v3), (5, .int v5), (6, .int v6)] [] := by
  unfold s_Root_calendar_97 at hf
  refine r_iload (pc := 97) C 5 d_Root_calendar_97 rfl ?_
  refine r_aload_n (pc := 99) C 0 d_Root_calendar_99 rfl rfl ?_
  refine g_Root_rows (pc := 100) C k_id0 Lf_Root_11 d_Root_calendar_100 ?_
  refine r_iload_n (pc := 103) C 3 d_Root_calendar_103 rfl rfl ?_
  refine r_aald13 (pc := 104) C kq_Root_rows d_Root_calendar_104 hf (fun hn104 hf => ?_)
  refine g_Row_size (pc := 105) C (ke13 _ (inb_lt hn104)) Lf_Root_105 d_Root_calendar_105 ?_
  refine r_icmp_ge (pc := 108) C (tgt := 142) d_Root_calendar_108 (by decide) hf (fun c108 hf => ?_) (fun c108 hf => ?_)
  · refine r_iconst (pc := 142) C (v := 0) d_Root_calendar_142 (by decide) ?_
    exact r_iret (pc := 143) C d_Root_calendar_143 hf
  · refine r_aload_n (pc := 111) C 0 d_Root_calendar_111 rfl rfl ?_
    refine g_Root_rows (pc := 112) C k_id0 Lf_Root_11 d_Root_calendar_112 ?_
    refine r_iload_n (pc := 115) C 3 d_Root_calendar_115 rfl rfl ?_
    refine r_aald13 (pc := 116) C kq_Root_rows d_Root_calendar_116 hf (fun hn116 hf => ?_)
    refine g_Row_places (pc := 117) C (ke13 _ (inb_lt hn116)) Lf_Root_96 d_Root_calendar_117 ?_
    refine r_iload (pc := 120) C 5 d_Root_calendar_120 rfl ?_
    refine r_iald (pc := 122) C (kq_Row_places (ke13 _ (inb_lt hn116))) d_Root_calendar_122 hf (fun hf => ?_)
    refine r_iload (pc := 123) C 4 d_Root_calendar_123 rfl ?_
    refine r_iadd (pc := 125) C d_Root_calendar_125 ?_
    refine r_iload_n (pc := 126) C 2 d_Root_calendar_126 rfl rfl ?_
    refine r_irem (pc := 127) C d_Root_calendar_127 hf (fun hf => ?_)
    refine r_iload_n (pc := 128) C 1 d_Root_calendar_128 rfl rfl ?_
    refine r_iload_n (pc := 129) C 2 d_Root_calendar_129 rfl rfl ?_
    refine r_irem (pc := 130) C d_Root_calendar_130 hf (fun hf => ?_)
    refine r_icmp_ne (pc := 131) C (tgt := 136) d_Root_calendar_131 (by decide) hf (fun c131 hf => ?_) (fun c131 hf => ?_)
    · refine r_iinc (pc := 136) C (v := v6 + 1) (lv' := [(6, .int (v6 + 1)), (0, .ref (Γ.2.1 0)), (1, .int v1), (2, .int v2), (3, .int v3), (5, .int v5)]) 5 d_Root_calendar_136 rfl rfl (Nat.le_of_ble_eq_true rfl) rfl ?_
      refine r_goto (pc := 139) C (tgt := 97) d_Root_calendar_139 (by decide) ?_
      exact r_lv (pc := 97) C [1, 2, 3, 4, 5, 0] rfl (hk97 v1 v2 v3 v5 (v6 + 1) D hf)
    · refine r_iconst (pc := 134) C (v := 1) d_Root_calendar_134 (by decide) ?_
      exact r_iret (pc := 135) C d_Root_calendar_135 hf
theorem tl_Root_calendar_97 {Γ : GmT} {G : Dt → Nat → List (Nat × Value) → List Value → Prop} {rr : Int32} {DD : Dt} (C : Cx Γ "RiverTuesdays" b_Root_calendar 7 3 (some .int) (some (.int rr)) DD G) : ∀ (n : Nat) (v1 : Int32) (v2 : Int32) (v3 : Int32) (v5 : Int32) (v6 : Int32) (D : Dt), lp_Root_calendar_97 n v1 v2 v3 v5 v6 D = some (rr, DD) → G D 97 [(0, .ref (Γ.2.1 0)), (1, .int v1), (2, .int v2), (3, .int v3), (5, .int v5), (6, .int v6)] [] := by
  intro n
  induction n with
  | zero =>
    intro v1 v2 v3 v5 v6 D hf
    exact absurd (show (none : Option (Int32 × Dt)) = some (rr, DD) from hf) (by simp)
  | succ n ih =>
    intro v1 v2 v3 v5 v6 D hf
    exact ts_Root_calendar_97 C (k97 := lp_Root_calendar_97 n) ih hf
def f_Root_calendar (v1 : Int32) (v2 : Int32) (v3 : Int32) (v4 : Int32) (D : Dt) : Option (Int32 × Dt) :=
  bnd (f_Root_isWithin v1 0 9999 D) (fun x1 D2 => (if x1 = 0 then some ((-1), D2) else bnd (f_Root_isWithin v2 1 30 D2) (fun x3 D4 => (if x3 = 0 then some ((-1), D4) else bnd (f_Root_isRow v3 D4) (fun x5 D6 => (if x5 = 0 then some ((-1), D6) else bnd (f_Root_isWithin v4 (-9) 9 D6) (fun x7 D8 => (if x7 = 0 then some ((-1), D8) else (if inb v3 6 = true then bnd (f_Row_isThere (111 + 2 * v3.toNatClampNeg) D8) (fun x9 D10 => (if x9 = 0 then bnd (f_Root_find 1 D10) (fun x15 D16 => some (x15, D16)) else (if inb v3 6 = true then bnd (f_Row_isAllWithin (111 + 2 * v3.toNatClampNeg) 0 (v2 - 1) D10) (fun x11 D12 => (if x11 = 0 then bnd (f_Root_find 3 D12) (fun x13 D14 => some (x13, D14)) else (if v2 = 0 then none else (if 0 < v2 then lp_Root_calendar_97 FU v1 v2 v3 (fmodI ((v1 / v2) * v4) v2) 0 D12 else none)))) else none))) else none)))))))))
set_option maxHeartbeats 4000000 in
theorem te_Root_calendar {Γ : GmT} {G : Dt → Nat → List (Nat × Value) → List Value → Prop} {rr : Int32} {DD : Dt} (C : Cx Γ "RiverTuesdays" b_Root_calendar 7 3 (some .int) (some (.int rr)) DD G) {v1 : Int32} {v2 : Int32} {v3 : Int32} {v4 : Int32} {D : Dt} (hf : f_Root_calendar v1 v2 v3 v4 D = some (rr, DD)) : G D 0 [(0, .ref (Γ.2.1 0)), (1, .int v1), (2, .int v2), (3, .int v3), (4, .int v4)] [] := by
  unfold f_Root_calendar at hf
  refine r_iload_n (pc := 0) C 1 d_Root_calendar_0 rfl rfl ?_
  refine r_iconst (pc := 1) C (v := 0) d_Root_calendar_1 (by decide) ?_
  refine r_sipush (pc := 2) C (v := 9999) d_Root_calendar_2 (by decide) ?_
  refine r_callSi (pc := 5) (As := [.int v1, .int 0, .int 9999]) (rest := []) C ok_Root_isWithin Lm_Root_155 ⟨by decide, by decide⟩ rfl rfl (Nat.le_of_ble_eq_true rfl) d_Root_calendar_5 hf (fun x D1 hc => c_Root_isWithin Γ hc) (fun x1 D2 hf => ?_)
  refine r_if_eq (pc := 8) C (tgt := 40) d_Root_calendar_8 (by decide) hf (fun c8 hf => ?_) (fun c8 hf => ?_)
  · refine r_iconst (pc := 40) C (v := (-1)) d_Root_calendar_40 (by decide) ?_
    exact r_iret (pc := 41) C d_Root_calendar_41 hf
  · refine r_iload_n (pc := 11) C 2 d_Root_calendar_11 rfl rfl ?_
    refine r_iconst (pc := 12) C (v := 1) d_Root_calendar_12 (by decide) ?_
    refine r_bipush (pc := 13) C (v := 30) d_Root_calendar_13 (by decide) ?_
    refine r_callSi (pc := 15) (As := [.int v2, .int 1, .int 30]) (rest := []) C ok_Root_isWithin Lm_Root_155 ⟨by decide, by decide⟩ rfl rfl (Nat.le_of_ble_eq_true rfl) d_Root_calendar_15 hf (fun x D1 hc => c_Root_isWithin Γ hc) (fun x3 D4 hf => ?_)
    refine r_if_eq (pc := 18) C (tgt := 40) d_Root_calendar_18 (by decide) hf (fun c18 hf => ?_) (fun c18 hf => ?_)
    · refine r_iconst (pc := 40) C (v := (-1)) d_Root_calendar_40 (by decide) ?_
      exact r_iret (pc := 41) C d_Root_calendar_41 hf
    · refine r_iload_n (pc := 21) C 3 d_Root_calendar_21 rfl rfl ?_
      refine r_callSi (pc := 22) (As := [.int v3]) (rest := []) C ok_Root_isRow Lm_Root_80 ⟨by decide, by decide⟩ rfl rfl (Nat.le_of_ble_eq_true rfl) d_Root_calendar_22 hf (fun x D1 hc => c_Root_isRow Γ hc) (fun x5 D6 hf => ?_)
      refine r_if_eq (pc := 25) C (tgt := 40) d_Root_calendar_25 (by decide) hf (fun c25 hf => ?_) (fun c25 hf => ?_)
      · refine r_iconst (pc := 40) C (v := (-1)) d_Root_calendar_40 (by decide) ?_
        exact r_iret (pc := 41) C d_Root_calendar_41 hf
      · refine r_iload (pc := 28) C 4 d_Root_calendar_28 rfl ?_
        refine r_bipush (pc := 30) C (v := (-9)) d_Root_calendar_30 (by decide) ?_
        refine r_bipush (pc := 32) C (v := 9) d_Root_calendar_32 (by decide) ?_
        refine r_callSi (pc := 34) (As := [.int v4, .int ((-9)), .int 9]) (rest := []) C ok_Root_isWithin Lm_Root_155 ⟨by decide, by decide⟩ rfl rfl (Nat.le_of_ble_eq_true rfl) d_Root_calendar_34 hf (fun x D1 hc => c_Root_isWithin Γ hc) (fun x7 D8 hf => ?_)
        refine r_if_ne (pc := 37) C (tgt := 42) d_Root_calendar_37 (by decide) hf (fun c37 hf => ?_) (fun c37 hf => ?_)
        · refine r_aload_n (pc := 42) C 0 d_Root_calendar_42 rfl rfl ?_
          refine g_Root_rows (pc := 43) C k_id0 Lf_Root_11 d_Root_calendar_43 ?_
          refine r_iload_n (pc := 46) C 3 d_Root_calendar_46 rfl rfl ?_
          refine r_aald13 (pc := 47) C kq_Root_rows d_Root_calendar_47 hf (fun hn47 hf => ?_)
          refine r_callVi (pc := 48) (As := []) (rest := []) C ok_Row_isThere Lm_Root_109 (ke13 _ (inb_lt hn47)) (by decide) ⟨by decide, by decide⟩ rfl rfl (Nat.le_of_ble_eq_true rfl) d_Root_calendar_48 hf (fun x D1 hc => c_Row_isThere Γ (ke13 _ (inb_lt hn47)) hc) (fun x9 D10 hf => ?_)
          refine r_if_ne (pc := 51) C (tgt := 60) d_Root_calendar_51 (by decide) hf (fun c51 hf => ?_) (fun c51 hf => ?_)
          · refine r_aload_n (pc := 60) C 0 d_Root_calendar_60 rfl rfl ?_
            refine g_Root_rows (pc := 61) C k_id0 Lf_Root_11 d_Root_calendar_61 ?_
            refine r_iload_n (pc := 64) C 3 d_Root_calendar_64 rfl rfl ?_
            refine r_aald13 (pc := 65) C kq_Root_rows d_Root_calendar_65 hf (fun hn65 hf => ?_)
            refine r_iconst (pc := 66) C (v := 0) d_Root_calendar_66 (by decide) ?_
            refine r_iload_n (pc := 67) C 2 d_Root_calendar_67 rfl rfl ?_
            refine r_iconst (pc := 68) C (v := 1) d_Root_calendar_68 (by decide) ?_
            refine r_isub (pc := 69) C d_Root_calendar_69 ?_
            refine r_callVi (pc := 70) (As := [.int 0, .int (v2 - 1)]) (rest := []) C ok_Row_isAllWithin Lm_Root_354 (ke13 _ (inb_lt hn65)) (by decide) ⟨by decide, by decide⟩ rfl rfl (Nat.le_of_ble_eq_true rfl) d_Root_calendar_70 hf (fun x D1 hc => c_Row_isAllWithin Γ (ke13 _ (inb_lt hn65)) hc) (fun x11 D12 hf => ?_)
            refine r_if_ne (pc := 73) C (tgt := 82) d_Root_calendar_73 (by decide) hf (fun c73 hf => ?_) (fun c73 hf => ?_)
            · refine r_iload_n (pc := 82) C 1 d_Root_calendar_82 rfl rfl ?_
              refine r_iload_n (pc := 83) C 2 d_Root_calendar_83 rfl rfl ?_
              refine r_idiv (pc := 84) C d_Root_calendar_84 hf (fun hf => ?_)
              refine r_iload (pc := 85) C 4 d_Root_calendar_85 rfl ?_
              refine r_imul (pc := 87) C d_Root_calendar_87 ?_
              refine r_iload_n (pc := 88) C 2 d_Root_calendar_88 rfl rfl ?_
              refine r_fmod (pc := 89) C Lm_Root_357 (by decide) (Nat.le_of_ble_eq_true rfl) d_Root_calendar_89 hf (fun hf => ?_)
              refine r_istore (pc := 92) (lv' := [(5, .int (fmodI ((v1 / v2) * v4) v2)), (0, .ref (Γ.2.1 0)), (1, .int v1), (2, .int v2), (3, .int v3), (4, .int v4)]) C d_Root_calendar_92 (Nat.le_of_ble_eq_true rfl) rfl ?_
              refine r_iconst (pc := 94) C (v := 0) d_Root_calendar_94 (by decide) ?_
              refine r_istore (pc := 95) (lv' := [(6, .int 0), (5, .int (fmodI ((v1 / v2) * v4) v2)), (0, .ref (Γ.2.1 0)), (1, .int v1), (2, .int v2), (3, .int v3), (4, .int v4)]) C d_Root_calendar_95 (Nat.le_of_ble_eq_true rfl) rfl ?_
              exact r_lv (pc := 97) C [2, 3, 4, 5, 1, 0] rfl (tl_Root_calendar_97 C FU v1 v2 v3 (fmodI ((v1 / v2) * v4) v2) 0 D12 hf)
            · refine r_aload_n (pc := 76) C 0 d_Root_calendar_76 rfl rfl ?_
              refine r_iconst (pc := 77) C (v := 3) d_Root_calendar_77 (by decide) ?_
              refine r_callVi (pc := 78) (As := [.int 3]) (rest := []) C ok_Root_find Lm_Root_84 k_id0 (by decide) ⟨by decide, by decide⟩ rfl rfl (Nat.le_of_ble_eq_true rfl) d_Root_calendar_78 hf (fun x D1 hc => c_Root_find Γ hc) (fun x13 D14 hf => ?_)
              exact r_iret (pc := 81) C d_Root_calendar_81 hf
          · refine r_aload_n (pc := 54) C 0 d_Root_calendar_54 rfl rfl ?_
            refine r_iconst (pc := 55) C (v := 1) d_Root_calendar_55 (by decide) ?_
            refine r_callVi (pc := 56) (As := [.int 1]) (rest := []) C ok_Root_find Lm_Root_84 k_id0 (by decide) ⟨by decide, by decide⟩ rfl rfl (Nat.le_of_ble_eq_true rfl) d_Root_calendar_56 hf (fun x D1 hc => c_Root_find Γ hc) (fun x15 D16 hf => ?_)
            exact r_iret (pc := 59) C d_Root_calendar_59 hf
        · refine r_iconst (pc := 40) C (v := (-1)) d_Root_calendar_40 (by decide) ?_
          exact r_iret (pc := 41) C d_Root_calendar_41 hf
theorem c_Root_calendar (Γ : GmT) {v1 : Int32} {v2 : Int32} {v3 : Int32} {v4 : Int32} {D : Dt} {rr : Int32} {DD : Dt} (hf : f_Root_calendar v1 v2 v3 v4 D = some (rr, DD)) : Mt Γ y_Root_calendar b_Root_calendar 7 (some .int) 3 [.ref (Γ.2.1 0), .int v1, .int v2, .int v3, .int v4] D (some (.int rr)) DD := Mt_of (by decide) (Nat.le_of_ble_eq_true rfl) (fun G C => te_Root_calendar C hf)
def b_Root_countBits_26 (k2 : Int32 → Int32 → Dt → Option (Unit × Dt)) (v1 : Int32) (v2 : Int32) (D : Dt) : Option (Unit × Dt) :=
  k2 v1 (v2 + 1) D
set_option maxHeartbeats 4000000 in
theorem tb_Root_countBits_26 {Γ : GmT} {G : Dt → Nat → List (Nat × Value) → List Value → Prop} {rr : Unit} {DD : Dt} (C : Cx Γ "RiverTuesdays" b_Root_countBits 3 2 none none DD G) {k2 : Int32 → Int32 → Dt → Option (Unit × Dt)} (hk2 : ∀ (v1 : Int32) (v2 : Int32) (D : Dt), k2 v1 v2 D = some (rr, DD) → G D 2 [(0, .ref (Γ.2.1 0)), (1, .int v1), (2, .int v2)] []) {v1 : Int32} {v2 : Int32} {D : Dt} (hf : b_Root_countBits_26 k2 v1 v2 D = some (rr, DD)) : G D 26 [(0, .ref (Γ.2.1 0)), (1, .int v1), (2, .int v2)] [] := by
  unfold b_Root_countBits_26 at hf
  refine r_iinc (pc := 26) C (v := v2 + 1) (lv' := [(2, .int (v2 + 1)), (0, .ref (Γ.2.1 0)), (1, .int v1)]) 2 d_Root_countBits_26 rfl rfl (Nat.le_of_ble_eq_true rfl) rfl ?_
  refine r_goto (pc := 29) C (tgt := 2) d_Root_countBits_29 (by decide) ?_
  exact r_lv (pc := 2) C [1, 2, 0] rfl (hk2 v1 (v2 + 1) D hf)
def s_Root_countBits_2 (k2 : Int32 → Int32 → Dt → Option (Unit × Dt)) (v1 : Int32) (v2 : Int32) (D : Dt) : Option (Unit × Dt) :=
  (if 8 ≤ v2 then some ((), D) else bnd (f_Root_hasBit v1 v2 D) (fun x1 D2 => (if x1 = 0 then b_Root_countBits_26 k2 v1 v2 D2 else (if inb v2 8 = true then (if inb v2 8 = true then nm (wr D2 109 v2.toNatClampNeg ((D2 109 v2.toNatClampNeg) + 1)) (fun D3 => b_Root_countBits_26 k2 v1 v2 D3) else none) else none))))
def lp_Root_countBits_2 (n : Nat) : Int32 → Int32 → Dt → Option (Unit × Dt) := itr (fun _ _ _ => none) (s_Root_countBits_2) n
set_option maxHeartbeats 4000000 in
theorem ts_Root_countBits_2 {Γ : GmT} {G : Dt → Nat → List (Nat × Value) → List Value → Prop} {rr : Unit} {DD : Dt} (C : Cx Γ "RiverTuesdays" b_Root_countBits 3 2 none none DD G) {k2 : Int32 → Int32 → Dt → Option (Unit × Dt)} (hk2 : ∀ (v1 : Int32) (v2 : Int32) (D : Dt), k2 v1 v2 D = some (rr, DD) → G D 2 [(0, .ref (Γ.2.1 0)), (1, .int v1), (2, .int v2)] []) {v1 : Int32} {v2 : Int32} {D : Dt} (hf : s_Root_countBits_2 k2 v1 v2 D = some (rr, DD)) : G D 2 [(0, .ref (Γ.2.1 0)), (1, .int v1), (2, .int v2)] [] := by
  unfold s_Root_countBits_2 at hf
  refine r_iload_n (pc := 2) C 2 d_Root_countBits_2 rfl rfl ?_
  refine r_bipush (pc := 3) C (v := 8) d_Root_countBits_3 (by decide) ?_
  refine r_icmp_ge (pc := 5) C (tgt := 32) d_Root_countBits_5 (by decide) hf (fun c5 hf => ?_) (fun c5 hf => ?_)
  · exact r_vret (pc := 32) C d_Root_countBits_32 hf
  · refine r_iload_n (pc := 8) C 1 d_Root_countBits_8 rfl rfl ?_
    refine r_iload_n (pc := 9) C 2 d_Root_countBits_9 rfl rfl ?_
    refine r_callSi (pc := 10) (As := [.int v1, .int v2]) (rest := []) C ok_Root_hasBit Lm_Root_248 ⟨by decide, by decide⟩ rfl rfl (Nat.le_of_ble_eq_true rfl) d_Root_countBits_10 hf (fun x D1 hc => c_Root_hasBit Γ hc) (fun x1 D2 hf => ?_)
    refine r_if_eq (pc := 13) C (tgt := 26) d_Root_countBits_13 (by decide) hf (fun c13 hf => ?_) (fun c13 hf => ?_)
    · exact r_lv (pc := 26) C [0, 1, 2] rfl (tb_Root_countBits_26 C hk2 hf)
    · refine r_aload_n (pc := 16) C 0 d_Root_countBits_16 rfl rfl ?_
      refine g_Root_perHouse (pc := 17) C k_id0 Lf_Root_71 d_Root_countBits_17 ?_
      refine r_iload_n (pc := 20) C 2 d_Root_countBits_20 rfl rfl ?_
      refine r_dup2 (pc := 21) C d_Root_countBits_21 rfl rfl ?_
      refine r_iald (pc := 22) C kq_Root_perHouse d_Root_countBits_22 hf (fun hf => ?_)
      refine r_iconst (pc := 23) C (v := 1) d_Root_countBits_23 (by decide) ?_
      refine r_iadd (pc := 24) C d_Root_countBits_24 ?_
      refine r_iast (pc := 25) C kq_Root_perHouse d_Root_countBits_25 hf (fun hf => ?_)
      refine r_nmD hf (fun D3 hf => ?_)
      exact r_lv (pc := 26) C [0, 1, 2] rfl (tb_Root_countBits_26 C hk2 hf)
theorem tl_Root_countBits_2 {Γ : GmT} {G : Dt → Nat → List (Nat × Value) → List Value → Prop} {rr : Unit} {DD : Dt} (C : Cx Γ "RiverTuesdays" b_Root_countBits 3 2 none none DD G) : ∀ (n : Nat) (v1 : Int32) (v2 : Int32) (D : Dt), lp_Root_countBits_2 n v1 v2 D = some (rr, DD) → G D 2 [(0, .ref (Γ.2.1 0)), (1, .int v1), (2, .int v2)] [] := by
  intro n
  induction n with
  | zero =>
    intro v1 v2 D hf
    exact absurd (show (none : Option (Unit × Dt)) = some (rr, DD) from hf) (by simp)
  | succ n ih =>
    intro v1 v2 D hf
    exact ts_Root_countBits_2 C (k2 := lp_Root_countBits_2 n) ih hf
def f_Root_countBits (v1 : Int32) (D : Dt) : Option (Unit × Dt) :=
  lp_Root_countBits_2 FU v1 0 D
set_option maxHeartbeats 4000000 in
theorem te_Root_countBits {Γ : GmT} {G : Dt → Nat → List (Nat × Value) → List Value → Prop} {rr : Unit} {DD : Dt} (C : Cx Γ "RiverTuesdays" b_Root_countBits 3 2 none none DD G) {v1 : Int32} {D : Dt} (hf : f_Root_countBits v1 D = some (rr, DD)) : G D 0 [(0, .ref (Γ.2.1 0)), (1, .int v1)] [] := by
  unfold f_Root_countBits at hf
  refine r_iconst (pc := 0) C (v := 0) d_Root_countBits_0 (by decide) ?_
  refine r_istore_n (pc := 1) (lv' := [(2, .int 0), (0, .ref (Γ.2.1 0)), (1, .int v1)]) C d_Root_countBits_1 rfl (Nat.le_of_ble_eq_true rfl) rfl ?_
  exact r_lv (pc := 2) C [1, 2, 0] rfl (tl_Root_countBits_2 C FU v1 0 D hf)
theorem c_Root_countBits (Γ : GmT) {v1 : Int32} {D : Dt} {rr : Unit} {DD : Dt} (hf : f_Root_countBits v1 D = some (rr, DD)) : Mt Γ y_Root_countBits b_Root_countBits 3 none 2 [.ref (Γ.2.1 0), .int v1] D none DD := Mt_of (by decide) (Nat.le_of_ble_eq_true rfl) (fun G C => te_Root_countBits C hf)
def b_Root_mostOften_32 (k7 : Int32 → Int32 → Int32 → Dt → Option (Int32 × Dt)) (v1 : Int32) (v2 : Int32) (v3 : Int32) (D : Dt) : Option (Int32 × Dt) :=
  k7 v1 v2 (v3 + 1) D
set_option maxHeartbeats 4000000 in
theorem tb_Root_mostOften_32 {Γ : GmT} {G : Dt → Nat → List (Nat × Value) → List Value → Prop} {rr : Int32} {DD : Dt} (C : Cx Γ "RiverTuesdays" b_Root_mostOften 4 1 (some .int) (some (.int rr)) DD G) {k7 : Int32 → Int32 → Int32 → Dt → Option (Int32 × Dt)} (hk7 : ∀ (v1 : Int32) (v2 : Int32) (v3 : Int32) (D : Dt), k7 v1 v2 v3 D = some (rr, DD) → G D 7 [(0, .ref (Γ.2.1 0)), (1, .int v1), (2, .int v2), (3, .int v3)] []) {v1 : Int32} {v2 : Int32} {v3 : Int32} {D : Dt} (hf : b_Root_mostOften_32 k7 v1 v2 v3 D = some (rr, DD)) : G D 32 [(0, .ref (Γ.2.1 0)), (1, .int v1), (2, .int v2), (3, .int v3)] [] := by
  unfold b_Root_mostOften_32 at hf
  refine r_iinc (pc := 32) C (v := v3 + 1) (lv' := [(3, .int (v3 + 1)), (0, .ref (Γ.2.1 0)), (1, .int v1), (2, .int v2)]) 3 d_Root_mostOften_32 rfl rfl (Nat.le_of_ble_eq_true rfl) rfl ?_
  refine r_goto (pc := 35) C (tgt := 7) d_Root_mostOften_35 (by decide) ?_
  exact r_lv (pc := 7) C [1, 2, 3, 0] rfl (hk7 v1 v2 (v3 + 1) D hf)
def s_Root_mostOften_7 (k7 : Int32 → Int32 → Int32 → Dt → Option (Int32 × Dt)) (v1 : Int32) (v2 : Int32) (v3 : Int32) (D : Dt) : Option (Int32 × Dt) :=
  (if 8 ≤ v3 then some (v1, D) else (if inb v3 8 = true then (if (D 109 v3.toNatClampNeg) ≤ v2 then b_Root_mostOften_32 k7 v1 v2 v3 D else (if inb v3 8 = true then b_Root_mostOften_32 k7 v3 (D 109 v3.toNatClampNeg) v3 D else none)) else none))
def lp_Root_mostOften_7 (n : Nat) : Int32 → Int32 → Int32 → Dt → Option (Int32 × Dt) := itr (fun _ _ _ _ => none) (s_Root_mostOften_7) n
set_option maxHeartbeats 4000000 in
theorem ts_Root_mostOften_7 {Γ : GmT} {G : Dt → Nat → List (Nat × Value) → List Value → Prop} {rr : Int32} {DD : Dt} (C : Cx Γ "RiverTuesdays" b_Root_mostOften 4 1 (some .int) (some (.int rr)) DD G) {k7 : Int32 → Int32 → Int32 → Dt → Option (Int32 × Dt)} (hk7 : ∀ (v1 : Int32) (v2 : Int32) (v3 : Int32) (D : Dt), k7 v1 v2 v3 D = some (rr, DD) → G D 7 [(0, .ref (Γ.2.1 0)), (1, .int v1), (2, .int v2), (3, .int v3)] []) {v1 : Int32} {v2 : Int32} {v3 : Int32} {D : Dt} (hf : s_Root_mostOften_7 k7 v1 v2 v3 D = some (rr, DD)) : G D 7 [(0, .ref (Γ.2.1 0)), (1, .int v1), (2, .int v2), (3, .int v3)] [] := by
  unfold s_Root_mostOften_7 at hf
  refine r_iload_n (pc := 7) C 3 d_Root_mostOften_7 rfl rfl ?_
  refine r_bipush (pc := 8) C (v := 8) d_Root_mostOften_8 (by decide) ?_
  refine r_icmp_ge (pc := 10) C (tgt := 38) d_Root_mostOften_10 (by decide) hf (fun c10 hf => ?_) (fun c10 hf => ?_)
  · refine r_iload_n (pc := 38) C 1 d_Root_mostOften_38 rfl rfl ?_
    exact r_iret (pc := 39) C d_Root_mostOften_39 hf
  · refine r_aload_n (pc := 13) C 0 d_Root_mostOften_13 rfl rfl ?_
    refine g_Root_perHouse (pc := 14) C k_id0 Lf_Root_71 d_Root_mostOften_14 ?_
    refine r_iload_n (pc := 17) C 3 d_Root_mostOften_17 rfl rfl ?_
    refine r_iald (pc := 18) C kq_Root_perHouse d_Root_mostOften_18 hf (fun hf => ?_)
    refine r_iload_n (pc := 19) C 2 d_Root_mostOften_19 rfl rfl ?_
    refine r_icmp_le (pc := 20) C (tgt := 32) d_Root_mostOften_20 (by decide) hf (fun c20 hf => ?_) (fun c20 hf => ?_)
    · exact r_lv (pc := 32) C [0, 1, 2, 3] rfl (tb_Root_mostOften_32 C hk7 hf)
    · refine r_iload_n (pc := 23) C 3 d_Root_mostOften_23 rfl rfl ?_
      refine r_istore_n (pc := 24) (lv' := [(1, .int v3), (0, .ref (Γ.2.1 0)), (2, .int v2), (3, .int v3)]) C d_Root_mostOften_24 rfl (Nat.le_of_ble_eq_true rfl) rfl ?_
      refine r_aload_n (pc := 25) C 1 d_Root_mostOften_25 rfl rfl ?_
      refine g_Root_perHouse (pc := 26) C k_id0 Lf_Root_71 d_Root_mostOften_26 ?_
      refine r_iload_n (pc := 29) C 3 d_Root_mostOften_29 rfl rfl ?_
      refine r_iald (pc := 30) C kq_Root_perHouse d_Root_mostOften_30 hf (fun hf => ?_)
      refine r_istore_n (pc := 31) (lv' := [(2, .int (D 109 v3.toNatClampNeg)), (1, .int v3), (0, .ref (Γ.2.1 0)), (3, .int v3)]) C d_Root_mostOften_31 rfl (Nat.le_of_ble_eq_true rfl) rfl ?_
      exact r_lv (pc := 32) C [2, 1, 0, 3] rfl (tb_Root_mostOften_32 C hk7 hf)
theorem tl_Root_mostOften_7 {Γ : GmT} {G : Dt → Nat → List (Nat × Value) → List Value → Prop} {rr : Int32} {DD : Dt} (C : Cx Γ "RiverTuesdays" b_Root_mostOften 4 1 (some .int) (some (.int rr)) DD G) : ∀ (n : Nat) (v1 : Int32) (v2 : Int32) (v3 : Int32) (D : Dt), lp_Root_mostOften_7 n v1 v2 v3 D = some (rr, DD) → G D 7 [(0, .ref (Γ.2.1 0)), (1, .int v1), (2, .int v2), (3, .int v3)] [] := by
  intro n
  induction n with
  | zero =>
    intro v1 v2 v3 D hf
    exact absurd (show (none : Option (Int32 × Dt)) = some (rr, DD) from hf) (by simp)
  | succ n ih =>
    intro v1 v2 v3 D hf
    exact ts_Root_mostOften_7 C (k7 := lp_Root_mostOften_7 n) ih hf
def f_Root_mostOften (D : Dt) : Option (Int32 × Dt) :=
  lp_Root_mostOften_7 FU (-9) 0 0 D
set_option maxHeartbeats 4000000 in
theorem te_Root_mostOften {Γ : GmT} {G : Dt → Nat → List (Nat × Value) → List Value → Prop} {rr : Int32} {DD : Dt} (C : Cx Γ "RiverTuesdays" b_Root_mostOften 4 1 (some .int) (some (.int rr)) DD G) {D : Dt} (hf : f_Root_mostOften D = some (rr, DD)) : G D 0 [(0, .ref (Γ.2.1 0))] [] := by
  unfold f_Root_mostOften at hf
  refine r_bipush (pc := 0) C (v := (-9)) d_Root_mostOften_0 (by decide) ?_
  refine r_istore_n (pc := 2) (lv' := [(1, .int ((-9))), (0, .ref (Γ.2.1 0))]) C d_Root_mostOften_2 rfl (Nat.le_of_ble_eq_true rfl) rfl ?_
  refine r_iconst (pc := 3) C (v := 0) d_Root_mostOften_3 (by decide) ?_
  refine r_istore_n (pc := 4) (lv' := [(2, .int 0), (1, .int ((-9))), (0, .ref (Γ.2.1 0))]) C d_Root_mostOften_4 rfl (Nat.le_of_ble_eq_true rfl) rfl ?_
  refine r_iconst (pc := 5) C (v := 0) d_Root_mostOften_5 (by decide) ?_
  refine r_istore_n (pc := 6) (lv' := [(3, .int 0), (2, .int 0), (1, .int ((-9))), (0, .ref (Γ.2.1 0))]) C d_Root_mostOften_6 rfl (Nat.le_of_ble_eq_true rfl) rfl ?_
  exact r_lv (pc := 7) C [3, 2, 1, 0] rfl (tl_Root_mostOften_7 C FU (-9) 0 0 D hf)
theorem c_Root_mostOften (Γ : GmT) {D : Dt} {rr : Int32} {DD : Dt} (hf : f_Root_mostOften D = some (rr, DD)) : Mt Γ y_Root_mostOften b_Root_mostOften 4 (some .int) 1 [.ref (Γ.2.1 0)] D (some (.int rr)) DD := Mt_of (by decide) (Nat.le_of_ble_eq_true rfl) (fun G C => te_Root_mostOften C hf)
def s_Root_years_57 (k57 : Int32 → Int64 → Int32 → Int32 → Dt → Option (Int32 × Dt)) (v1 : Int32) (v3 : Int64) (v5 : Int32) (v6 : Int32) (D : Dt) : Option (Int32 × Dt) :=
  (if v1 ≤ v6 then bnd (f_Root_mostOften D) (fun x11 D12 => bnd (f_Root_tell x11 v5 D12) (fun x13 D14 => some (x13, D14))) else (if (2147483647 : Int64) = 0 then none else bnd (f_Waters_emptyCellars 26 D) (fun x15 D16 => bnd (f_Tuesday_begin 26 D16) (fun x17 D18 => (if (256 : Int64) = 0 then none else bnd (f_Tuesday_lead (3 + 1) ((((v3 * 48271) % 2147483647) % 256).toInt32) D18) (fun x19 D20 => bnd (f_Tuesday_harmDone D20) (fun x21 D22 => (if inb 8 9 = true then bnd (f_Root_countBits (D22 35 (8 : Int32).toNatClampNeg) D22) (fun x23 D24 => (if inb 8 9 = true then bnd (f_Waters_takeFrom 26 (46 + 6 * (8 : Int32).toNatClampNeg) D24) (fun x25 D26 => k57 v1 ((v3 * 48271) % 2147483647) (v5 + x21) (v6 + 1) D26) else none)) else none))))))))
def lp_Root_years_57 (n : Nat) : Int32 → Int64 → Int32 → Int32 → Dt → Option (Int32 × Dt) := itr (fun _ _ _ _ _ => none) (s_Root_years_57) n
set_option maxHeartbeats 4000000 in
theorem ts_Root_years_57 {Γ : GmT} {G : Dt → Nat → List (Nat × Value) → List Value → Prop} {rr : Int32} {DD : Dt} (C : Cx Γ "RiverTuesdays" b_Root_years 7 6 (some .int) (some (.int rr)) DD G) {k57 : Int32 → Int64 → Int32 → Int32 → Dt → Option (Int32 × Dt)} (hk57 : ∀ (v1 : Int32) (v3 : Int64) (v5 : Int32) (v6 : Int32) (D : Dt), k57 v1 v3 v5 v6 D = some (rr, DD) → G D 57 [(0, .ref (Γ.2.1 0)), (1, .int v1), (3, .long v3), (5, .int v5), (6, .int v6)] []) {v1 : Int32} {v3 : Int64} {v5 : Int32} {v6 : Int32} {D : Dt} (hf : s_Root_years_57 k57 v1 v3 v5 v6 D = some (rr, DD)) : G D 57 [(0, .ref (Γ.2.1 0)), (1, .int v1), (3, .long v3), (5, .int v5), (6, .int v6)] [] := by
  unfold s_Root_years_57 at hf
  refine r_iload (pc := 57) C 4 d_Root_years_57 rfl ?_
  refine r_iload_n (pc := 59) C 1 d_Root_years_59 rfl rfl ?_
  refine r_icmp_ge (pc := 60) C (tgt := 160) d_Root_years_60 (by decide) hf (fun c60 hf => ?_) (fun c60 hf => ?_)
  · refine r_aload_n (pc := 160) C 0 d_Root_years_160 rfl rfl ?_
    refine r_aload_n (pc := 161) C 0 d_Root_years_161 rfl rfl ?_
    refine r_callVi (pc := 162) (As := []) (rest := [.ref (Γ.2.1 0)]) C ok_Root_mostOften Lm_Root_382 k_id0 (by decide) ⟨by decide, by decide⟩ rfl rfl (Nat.le_of_ble_eq_true rfl) d_Root_years_162 hf (fun x D1 hc => c_Root_mostOften Γ hc) (fun x11 D12 hf => ?_)
    refine r_iload (pc := 165) C 3 d_Root_years_165 rfl ?_
    refine r_callVi (pc := 167) (As := [.int x11, .int v5]) (rest := []) C ok_Root_tell Lm_Root_99 k_id0 (by decide) ⟨by decide, by decide⟩ rfl rfl (Nat.le_of_ble_eq_true rfl) d_Root_years_167 hf (fun x D1 hc => c_Root_tell Γ hc) (fun x13 D14 hf => ?_)
    exact r_iret (pc := 170) C d_Root_years_170 hf
  · refine r_lload_n (pc := 63) C 2 d_Root_years_63 rfl rfl ?_
    refine r_ldc2 (pc := 64) C Lc_Root_368 d_Root_years_64 ?_
    refine r_lmul (pc := 67) C d_Root_years_67 ?_
    refine r_ldc2 (pc := 68) C Lc_Root_370 d_Root_years_68 ?_
    refine r_lrem (pc := 71) C d_Root_years_71 hf (fun hf => ?_)
    refine r_lstore_n (pc := 72) (lv' := [(3, .long ((v3 * 48271) % 2147483647)), (0, .ref (Γ.2.1 0)), (1, .int v1), (5, .int v5), (6, .int v6)]) C d_Root_years_72 rfl (Nat.le_of_ble_eq_true rfl) rfl ?_
    refine r_aload_n (pc := 73) C 1 d_Root_years_73 rfl rfl ?_
    refine g_Root_trialWaters (pc := 74) C k_id0 Lf_Root_46 d_Root_years_74 ?_
    refine r_callVv (pc := 77) (As := []) (rest := []) C ok_Waters_emptyCellars Lm_Root_372 kq_Root_trialWaters (by decide) ⟨by decide, by decide⟩ rfl rfl (Nat.le_of_ble_eq_true rfl) d_Root_years_77 hf (fun x D1 hc => c_Waters_emptyCellars Γ kq_Root_trialWaters hc) (fun x15 D16 hf => ?_)
    refine r_aload_n (pc := 80) C 1 d_Root_years_80 rfl rfl ?_
    refine g_Root_today (pc := 81) C k_id0 Lf_Root_53 d_Root_years_81 ?_
    refine r_aload_n (pc := 84) C 1 d_Root_years_84 rfl rfl ?_
    refine g_Root_trialWaters (pc := 85) C k_id0 Lf_Root_46 d_Root_years_85 ?_
    refine r_callVv (pc := 88) (As := [.ref (Γ.2.1 26)]) (rest := []) C ok_Tuesday_begin Lm_Root_291 kq_Root_today (by decide) ⟨by decide, by decide⟩ rfl rfl (Nat.le_of_ble_eq_true rfl) d_Root_years_88 hf (fun x D1 hc => c_Tuesday_begin Γ kq_Root_trialWaters hc) (fun x17 D18 hf => ?_)
    refine r_aload_n (pc := 91) C 1 d_Root_years_91 rfl rfl ?_
    refine g_Root_today (pc := 92) C k_id0 Lf_Root_53 d_Root_years_92 ?_
    refine r_aload_n (pc := 95) C 1 d_Root_years_95 rfl rfl ?_
    refine g_Root_present (pc := 96) C k_id0 Lf_Root_24 d_Root_years_96 ?_
    refine g_Street_bed (pc := 99) C kq_Root_present Lf_Root_146 d_Root_years_99 ?_
    refine r_lload_n (pc := 102) C 0 d_Root_years_102 rfl rfl ?_
    refine r_ldc2 (pc := 103) C Lc_Root_375 d_Root_years_103 ?_
    refine r_lrem (pc := 106) C d_Root_years_106 hf (fun hf => ?_)
    refine r_l2i (pc := 107) C d_Root_years_107 ?_
    refine r_callVv (pc := 108) (As := [.ref (Γ.2.1 (3 + 1)), .int ((((v3 * 48271) % 2147483647) % 256).toInt32)]) (rest := []) C ok_Tuesday_lead Lm_Root_297 kq_Root_today (by decide) ⟨by decide, by decide⟩ rfl rfl (Nat.le_of_ble_eq_true rfl) d_Root_years_108 hf (fun x D1 hc => c_Tuesday_lead Γ (kq_Street_bed kq_Root_present) hc) (fun x19 D20 hf => ?_)
    refine r_iload (pc := 111) C 3 d_Root_years_111 rfl ?_
    refine r_aload_n (pc := 113) C 1 d_Root_years_113 rfl rfl ?_
    refine g_Root_today (pc := 114) C k_id0 Lf_Root_53 d_Root_years_114 ?_
    refine r_callVi (pc := 117) (As := []) (rest := [.int v5]) C ok_Tuesday_harmDone Lm_Root_234 kq_Root_today (by decide) ⟨by decide, by decide⟩ rfl rfl (Nat.le_of_ble_eq_true rfl) d_Root_years_117 hf (fun x D1 hc => c_Tuesday_harmDone Γ hc) (fun x21 D22 hf => ?_)
    refine r_iadd (pc := 120) C d_Root_years_120 ?_
    refine r_istore (pc := 121) (lv' := [(5, .int (v5 + x21)), (3, .long ((v3 * 48271) % 2147483647)), (0, .ref (Γ.2.1 0)), (1, .int v1), (6, .int v6)]) C d_Root_years_121 (Nat.le_of_ble_eq_true rfl) rfl ?_
    refine r_aload_n (pc := 123) C 2 d_Root_years_123 rfl rfl ?_
    refine r_aload_n (pc := 124) C 2 d_Root_years_124 rfl rfl ?_
    refine g_Root_today (pc := 125) C k_id0 Lf_Root_53 d_Root_years_125 ?_
    refine g_Tuesday_wetBits (pc := 128) C kq_Root_today Lf_Root_237 d_Root_years_128 ?_
    refine r_bipush (pc := 131) C (v := 8) d_Root_years_131 (by decide) ?_
    refine r_iald (pc := 133) C kq_Tuesday_wetBits d_Root_years_133 hf (fun hf => ?_)
    refine r_callVv (pc := 134) (As := [.int (D22 35 (8 : Int32).toNatClampNeg)]) (rest := []) C ok_Root_countBits Lm_Root_377 k_id0 (by decide) ⟨by decide, by decide⟩ rfl rfl (Nat.le_of_ble_eq_true rfl) d_Root_years_134 hf (fun x D1 hc => c_Root_countBits Γ hc) (fun x23 D24 hf => ?_)
    refine r_aload_n (pc := 137) C 2 d_Root_years_137 rfl rfl ?_
    refine g_Root_trialWaters (pc := 138) C k_id0 Lf_Root_46 d_Root_years_138 ?_
    refine r_aload_n (pc := 141) C 2 d_Root_years_141 rfl rfl ?_
    refine g_Root_today (pc := 142) C k_id0 Lf_Root_53 d_Root_years_142 ?_
    refine g_Tuesday_behind (pc := 145) C kq_Root_today Lf_Root_281 d_Root_years_145 ?_
    refine r_bipush (pc := 148) C (v := 8) d_Root_years_148 (by decide) ?_
    refine r_aald16 (pc := 150) C kq_Tuesday_behind d_Root_years_150 hf (fun hn150 hf => ?_)
    refine r_callVv (pc := 151) (As := [.ref (Γ.2.1 (46 + 6 * (8 : Int32).toNatClampNeg))]) (rest := []) C ok_Waters_takeFrom Lm_Root_380 kq_Root_trialWaters (by decide) ⟨by decide, by decide⟩ rfl rfl (Nat.le_of_ble_eq_true rfl) d_Root_years_151 hf (fun x D1 hc => c_Waters_takeFrom Γ kq_Root_trialWaters (ke16 _ (inb_lt hn150)) hc) (fun x25 D26 hf => ?_)
    refine r_iinc (pc := 154) C (v := v6 + 1) (lv' := [(6, .int (v6 + 1)), (5, .int (v5 + x21)), (3, .long ((v3 * 48271) % 2147483647)), (0, .ref (Γ.2.1 0)), (1, .int v1)]) 4 d_Root_years_154 rfl rfl (Nat.le_of_ble_eq_true rfl) rfl ?_
    refine r_goto (pc := 157) C (tgt := 57) d_Root_years_157 (by decide) ?_
    exact r_lv (pc := 57) C [3, 4, 2, 1, 0] rfl (hk57 v1 ((v3 * 48271) % 2147483647) (v5 + x21) (v6 + 1) D26 hf)
theorem tl_Root_years_57 {Γ : GmT} {G : Dt → Nat → List (Nat × Value) → List Value → Prop} {rr : Int32} {DD : Dt} (C : Cx Γ "RiverTuesdays" b_Root_years 7 6 (some .int) (some (.int rr)) DD G) : ∀ (n : Nat) (v1 : Int32) (v3 : Int64) (v5 : Int32) (v6 : Int32) (D : Dt), lp_Root_years_57 n v1 v3 v5 v6 D = some (rr, DD) → G D 57 [(0, .ref (Γ.2.1 0)), (1, .int v1), (3, .long v3), (5, .int v5), (6, .int v6)] [] := by
  intro n
  induction n with
  | zero =>
    intro v1 v3 v5 v6 D hf
    exact absurd (show (none : Option (Int32 × Dt)) = some (rr, DD) from hf) (by simp)
  | succ n ih =>
    intro v1 v3 v5 v6 D hf
    exact ts_Root_years_57 C (k57 := lp_Root_years_57 n) ih hf
def f_Root_years (v1 : Int32) (v2 : Int32) (D : Dt) : Option (Int32 × Dt) :=
  bnd (f_Root_isWithin v1 1 40 D) (fun x1 D2 => (if x1 = 0 then some ((-1), D2) else bnd (f_Root_isWithin v2 1 2147483646 D2) (fun x3 D4 => (if x3 = 0 then some ((-1), D4) else bnd (f_Root_hasHouses D4) (fun x5 D6 => (if x5 = 0 then some ((-4), D6) else bnd (f_J_fillI 109 0 D6) (fun x7 D8 => bnd (f_Waters_begin 26 D8) (fun x9 D10 => lp_Root_years_57 FU v1 (v2.toInt64) 0 0 D10))))))))
set_option maxHeartbeats 4000000 in
theorem te_Root_years {Γ : GmT} {G : Dt → Nat → List (Nat × Value) → List Value → Prop} {rr : Int32} {DD : Dt} (C : Cx Γ "RiverTuesdays" b_Root_years 7 6 (some .int) (some (.int rr)) DD G) {v1 : Int32} {v2 : Int32} {D : Dt} (hf : f_Root_years v1 v2 D = some (rr, DD)) : G D 0 [(0, .ref (Γ.2.1 0)), (1, .int v1), (2, .int v2)] [] := by
  unfold f_Root_years at hf
  refine r_iload_n (pc := 0) C 1 d_Root_years_0 rfl rfl ?_
  refine r_iconst (pc := 1) C (v := 1) d_Root_years_1 (by decide) ?_
  refine r_bipush (pc := 2) C (v := 40) d_Root_years_2 (by decide) ?_
  refine r_callSi (pc := 4) (As := [.int v1, .int 1, .int 40]) (rest := []) C ok_Root_isWithin Lm_Root_155 ⟨by decide, by decide⟩ rfl rfl (Nat.le_of_ble_eq_true rfl) d_Root_years_4 hf (fun x D1 hc => c_Root_isWithin Γ hc) (fun x1 D2 hf => ?_)
  refine r_if_eq (pc := 7) C (tgt := 21) d_Root_years_7 (by decide) hf (fun c7 hf => ?_) (fun c7 hf => ?_)
  · refine r_iconst (pc := 21) C (v := (-1)) d_Root_years_21 (by decide) ?_
    exact r_iret (pc := 22) C d_Root_years_22 hf
  · refine r_iload_n (pc := 10) C 2 d_Root_years_10 rfl rfl ?_
    refine r_iconst (pc := 11) C (v := 1) d_Root_years_11 (by decide) ?_
    refine r_ldcw (pc := 12) C Lc_Root_360 d_Root_years_12 ?_
    refine r_callSi (pc := 15) (As := [.int v2, .int 1, .int 2147483646]) (rest := []) C ok_Root_isWithin Lm_Root_155 ⟨by decide, by decide⟩ rfl rfl (Nat.le_of_ble_eq_true rfl) d_Root_years_15 hf (fun x D1 hc => c_Root_isWithin Γ hc) (fun x3 D4 hf => ?_)
    refine r_if_ne (pc := 18) C (tgt := 23) d_Root_years_18 (by decide) hf (fun c18 hf => ?_) (fun c18 hf => ?_)
    · refine r_aload_n (pc := 23) C 0 d_Root_years_23 rfl rfl ?_
      refine r_callVi (pc := 24) (As := []) (rest := []) C ok_Root_hasHouses Lm_Root_190 k_id0 (by decide) ⟨by decide, by decide⟩ rfl rfl (Nat.le_of_ble_eq_true rfl) d_Root_years_24 hf (fun x D1 hc => c_Root_hasHouses Γ hc) (fun x5 D6 hf => ?_)
      refine r_if_ne (pc := 27) C (tgt := 33) d_Root_years_27 (by decide) hf (fun c27 hf => ?_) (fun c27 hf => ?_)
      · refine r_aload_n (pc := 33) C 0 d_Root_years_33 rfl rfl ?_
        refine g_Root_perHouse (pc := 34) C k_id0 Lf_Root_71 d_Root_years_34 ?_
        refine r_iconst (pc := 37) C (v := 0) d_Root_years_37 (by decide) ?_
        refine r_callSv (pc := 38) (As := [.ref (Γ.2.1 109), .int 0]) (rest := []) C ok_J_fillI Lm_Root_361 ⟨by decide, by decide⟩ rfl rfl (Nat.le_of_ble_eq_true rfl) d_Root_years_38 hf (fun x D1 hc => c_J_fillI Γ (kq_Root_perHouse).1 hc) (fun x7 D8 hf => ?_)
        refine r_aload_n (pc := 41) C 0 d_Root_years_41 rfl rfl ?_
        refine g_Root_trialWaters (pc := 42) C k_id0 Lf_Root_46 d_Root_years_42 ?_
        refine r_callVv (pc := 45) (As := []) (rest := []) C ok_Waters_begin Lm_Root_366 kq_Root_trialWaters (by decide) ⟨by decide, by decide⟩ rfl rfl (Nat.le_of_ble_eq_true rfl) d_Root_years_45 hf (fun x D1 hc => c_Waters_begin Γ kq_Root_trialWaters hc) (fun x9 D10 hf => ?_)
        refine r_iload_n (pc := 48) C 2 d_Root_years_48 rfl rfl ?_
        refine r_i2l (pc := 49) C d_Root_years_49 ?_
        refine r_lstore_n (pc := 50) (lv' := [(3, .long (v2.toInt64)), (0, .ref (Γ.2.1 0)), (1, .int v1), (2, .int v2)]) C d_Root_years_50 rfl (Nat.le_of_ble_eq_true rfl) rfl ?_
        refine r_iconst (pc := 51) C (v := 0) d_Root_years_51 (by decide) ?_
        refine r_istore (pc := 52) (lv' := [(5, .int 0), (3, .long (v2.toInt64)), (0, .ref (Γ.2.1 0)), (1, .int v1), (2, .int v2)]) C d_Root_years_52 (Nat.le_of_ble_eq_true rfl) rfl ?_
        refine r_iconst (pc := 54) C (v := 0) d_Root_years_54 (by decide) ?_
        refine r_istore (pc := 55) (lv' := [(6, .int 0), (5, .int 0), (3, .long (v2.toInt64)), (0, .ref (Γ.2.1 0)), (1, .int v1), (2, .int v2)]) C d_Root_years_55 (Nat.le_of_ble_eq_true rfl) rfl ?_
        exact r_lv (pc := 57) C [3, 4, 2, 1, 0] rfl (tl_Root_years_57 C FU v1 (v2.toInt64) 0 0 D10 hf)
      · refine r_bipush (pc := 30) C (v := (-4)) d_Root_years_30 (by decide) ?_
        exact r_iret (pc := 32) C d_Root_years_32 hf
    · refine r_iconst (pc := 21) C (v := (-1)) d_Root_years_21 (by decide) ?_
      exact r_iret (pc := 22) C d_Root_years_22 hf
theorem c_Root_years (Γ : GmT) {v1 : Int32} {v2 : Int32} {D : Dt} {rr : Int32} {DD : Dt} (hf : f_Root_years v1 v2 D = some (rr, DD)) : Mt Γ y_Root_years b_Root_years 7 (some .int) 6 [.ref (Γ.2.1 0), .int v1, .int v2] D (some (.int rr)) DD := Mt_of (by decide) (Nat.le_of_ble_eq_true rfl) (fun G C => te_Root_years C hf)
def f_Root_asked (D : Dt) : Option (Int32 × Dt) :=
  some (D 0 13, D)
set_option maxHeartbeats 4000000 in
theorem te_Root_asked {Γ : GmT} {G : Dt → Nat → List (Nat × Value) → List Value → Prop} {rr : Int32} {DD : Dt} (C : Cx Γ "RiverTuesdays" b_Root_asked 1 1 (some .int) (some (.int rr)) DD G) {D : Dt} (hf : f_Root_asked D = some (rr, DD)) : G D 0 [(0, .ref (Γ.2.1 0))] [] := by
  unfold f_Root_asked at hf
  refine r_aload_n (pc := 0) C 0 d_Root_asked_0 rfl rfl ?_
  refine g_Root_told (pc := 1) C k_id0 Lf_Root_385 d_Root_asked_1 ?_
  exact r_iret (pc := 4) C d_Root_asked_4 hf
theorem c_Root_asked (Γ : GmT) {D : Dt} {rr : Int32} {DD : Dt} (hf : f_Root_asked D = some (rr, DD)) : Mt Γ y_Root_asked b_Root_asked 1 (some .int) 1 [.ref (Γ.2.1 0)] D (some (.int rr)) DD := Mt_of (by decide) (Nat.le_of_ble_eq_true rfl) (fun G C => te_Root_asked C hf)
def b_Root_standingDivisor_50 (v1 : Int32) (D : Dt) : Option (Int32 × Dt) :=
  some (imax v1 1, D)
set_option maxHeartbeats 4000000 in
theorem tb_Root_standingDivisor_50 {Γ : GmT} {G : Dt → Nat → List (Nat × Value) → List Value → Prop} {rr : Int32} {DD : Dt} (C : Cx Γ "RiverTuesdays" b_Root_standingDivisor 5 3 (some .int) (some (.int rr)) DD G) {v1 : Int32} {D : Dt} (hf : b_Root_standingDivisor_50 v1 D = some (rr, DD)) : G D 50 [(1, .int v1)] [] := by
  unfold b_Root_standingDivisor_50 at hf
  refine r_iload_n (pc := 50) C 0 d_Root_standingDivisor_50 rfl rfl ?_
  refine r_iconst (pc := 51) C (v := 1) d_Root_standingDivisor_51 (by decide) ?_
  refine r_mmax (pc := 52) C Lm_Root_262 (by decide) (Nat.le_of_ble_eq_true rfl) d_Root_standingDivisor_52 ?_
  exact r_iret (pc := 55) C d_Root_standingDivisor_55 hf
def s_Root_standingDivisor_24 (k24 : Int32 → Int32 → Int32 → Dt → Option (Int32 × Dt)) (v1 : Int32) (v2 : Int32) (v3 : Int32) (D : Dt) : Option (Int32 × Dt) :=
  (if 64 ≤ v3 then b_Root_standingDivisor_50 v1 D else (if v2 = 0 then b_Root_standingDivisor_50 v1 D else (if v2 = 0 then none else k24 v2 (v1 % v2) (v3 + 1) D)))
def lp_Root_standingDivisor_24 (n : Nat) : Int32 → Int32 → Int32 → Dt → Option (Int32 × Dt) := itr (fun _ _ _ _ => none) (s_Root_standingDivisor_24) n
set_option maxHeartbeats 4000000 in
theorem ts_Root_standingDivisor_24 {Γ : GmT} {G : Dt → Nat → List (Nat × Value) → List Value → Prop} {rr : Int32} {DD : Dt} (C : Cx Γ "RiverTuesdays" b_Root_standingDivisor 5 3 (some .int) (some (.int rr)) DD G) {k24 : Int32 → Int32 → Int32 → Dt → Option (Int32 × Dt)} (hk24 : ∀ (v1 : Int32) (v2 : Int32) (v3 : Int32) (D : Dt), k24 v1 v2 v3 D = some (rr, DD) → G D 24 [(1, .int v1), (2, .int v2), (3, .int v3)] []) {v1 : Int32} {v2 : Int32} {v3 : Int32} {D : Dt} (hf : s_Root_standingDivisor_24 k24 v1 v2 v3 D = some (rr, DD)) : G D 24 [(1, .int v1), (2, .int v2), (3, .int v3)] [] := by
  unfold s_Root_standingDivisor_24 at hf
  refine r_iload_n (pc := 24) C 2 d_Root_standingDivisor_24 rfl rfl ?_
  refine r_bipush (pc := 25) C (v := 64) d_Root_standingDivisor_25 (by decide) ?_
  refine r_icmp_ge (pc := 27) C (tgt := 50) d_Root_standingDivisor_27 (by decide) hf (fun c27 hf => ?_) (fun c27 hf => ?_)
  · exact r_lv (pc := 50) C [0] rfl (tb_Root_standingDivisor_50 C hf)
  · refine r_iload_n (pc := 30) C 1 d_Root_standingDivisor_30 rfl rfl ?_
    refine r_if_eq (pc := 31) C (tgt := 50) d_Root_standingDivisor_31 (by decide) hf (fun c31 hf => ?_) (fun c31 hf => ?_)
    · exact r_lv (pc := 50) C [0] rfl (tb_Root_standingDivisor_50 C hf)
    · refine r_iload_n (pc := 34) C 0 d_Root_standingDivisor_34 rfl rfl ?_
      refine r_iload_n (pc := 35) C 1 d_Root_standingDivisor_35 rfl rfl ?_
      refine r_irem (pc := 36) C d_Root_standingDivisor_36 hf (fun hf => ?_)
      refine r_istore (pc := 37) (lv' := [(4, .int (v1 % v2)), (1, .int v1), (2, .int v2), (3, .int v3)]) C d_Root_standingDivisor_37 (Nat.le_of_ble_eq_true rfl) rfl ?_
      refine r_iload_n (pc := 39) C 2 d_Root_standingDivisor_39 rfl rfl ?_
      refine r_istore_n (pc := 40) (lv' := [(1, .int v2), (4, .int (v1 % v2)), (2, .int v2), (3, .int v3)]) C d_Root_standingDivisor_40 rfl (Nat.le_of_ble_eq_true rfl) rfl ?_
      refine r_iload (pc := 41) C 1 d_Root_standingDivisor_41 rfl ?_
      refine r_istore_n (pc := 43) (lv' := [(2, .int (v1 % v2)), (1, .int v2), (4, .int (v1 % v2)), (3, .int v3)]) C d_Root_standingDivisor_43 rfl (Nat.le_of_ble_eq_true rfl) rfl ?_
      refine r_iinc (pc := 44) C (v := v3 + 1) (lv' := [(3, .int (v3 + 1)), (2, .int (v1 % v2)), (1, .int v2), (4, .int (v1 % v2))]) 3 d_Root_standingDivisor_44 rfl rfl (Nat.le_of_ble_eq_true rfl) rfl ?_
      refine r_goto (pc := 47) C (tgt := 24) d_Root_standingDivisor_47 (by decide) ?_
      exact r_lv (pc := 24) C [2, 1, 0] rfl (hk24 v2 (v1 % v2) (v3 + 1) D hf)
theorem tl_Root_standingDivisor_24 {Γ : GmT} {G : Dt → Nat → List (Nat × Value) → List Value → Prop} {rr : Int32} {DD : Dt} (C : Cx Γ "RiverTuesdays" b_Root_standingDivisor 5 3 (some .int) (some (.int rr)) DD G) : ∀ (n : Nat) (v1 : Int32) (v2 : Int32) (v3 : Int32) (D : Dt), lp_Root_standingDivisor_24 n v1 v2 v3 D = some (rr, DD) → G D 24 [(1, .int v1), (2, .int v2), (3, .int v3)] [] := by
  intro n
  induction n with
  | zero =>
    intro v1 v2 v3 D hf
    exact absurd (show (none : Option (Int32 × Dt)) = some (rr, DD) from hf) (by simp)
  | succ n ih =>
    intro v1 v2 v3 D hf
    exact ts_Root_standingDivisor_24 C (k24 := lp_Root_standingDivisor_24 n) ih hf
def f_Root_standingDivisor (D : Dt) : Option (Int32 × Dt) :=
  bnd (f_Waters_standing (3 + 7) D) (fun x1 D2 => lp_Root_standingDivisor_24 FU (D (3 + 7) 5) x1 0 D2)
set_option maxHeartbeats 4000000 in
theorem te_Root_standingDivisor {Γ : GmT} {G : Dt → Nat → List (Nat × Value) → List Value → Prop} {rr : Int32} {DD : Dt} (C : Cx Γ "RiverTuesdays" b_Root_standingDivisor 5 3 (some .int) (some (.int rr)) DD G) {D : Dt} (hf : f_Root_standingDivisor D = some (rr, DD)) : G D 0 [(0, .ref (Γ.2.1 0))] [] := by
  unfold f_Root_standingDivisor at hf
  refine r_aload_n (pc := 0) C 0 d_Root_standingDivisor_0 rfl rfl ?_
  refine g_Root_present (pc := 1) C k_id0 Lf_Root_24 d_Root_standingDivisor_1 ?_
  refine g_Street_now (pc := 4) C kq_Root_present Lf_Root_168 d_Root_standingDivisor_4 ?_
  refine g_Waters_in (pc := 7) C (kq_Street_now kq_Root_present) Lf_Root_218 d_Root_standingDivisor_7 ?_
  refine r_istore_n (pc := 10) (lv' := [(1, .int (D (3 + 7) 5)), (0, .ref (Γ.2.1 0))]) C d_Root_standingDivisor_10 rfl (Nat.le_of_ble_eq_true rfl) rfl ?_
  refine r_aload_n (pc := 11) C 1 d_Root_standingDivisor_11 rfl rfl ?_
  refine g_Root_present (pc := 12) C k_id0 Lf_Root_24 d_Root_standingDivisor_12 ?_
  refine g_Street_now (pc := 15) C kq_Root_present Lf_Root_168 d_Root_standingDivisor_15 ?_
  refine r_callVi (pc := 18) (As := []) (rest := []) C ok_Waters_standing Lm_Root_388 (kq_Street_now kq_Root_present) (by decide) ⟨by decide, by decide⟩ rfl rfl (Nat.le_of_ble_eq_true rfl) d_Root_standingDivisor_18 hf (fun x D1 hc => c_Waters_standing Γ (kq_Street_now kq_Root_present) hc) (fun x1 D2 hf => ?_)
  refine r_istore_n (pc := 21) (lv' := [(2, .int x1), (1, .int (D (3 + 7) 5)), (0, .ref (Γ.2.1 0))]) C d_Root_standingDivisor_21 rfl (Nat.le_of_ble_eq_true rfl) rfl ?_
  refine r_iconst (pc := 22) C (v := 0) d_Root_standingDivisor_22 (by decide) ?_
  refine r_istore_n (pc := 23) (lv' := [(3, .int 0), (2, .int x1), (1, .int (D (3 + 7) 5)), (0, .ref (Γ.2.1 0))]) C d_Root_standingDivisor_23 rfl (Nat.le_of_ble_eq_true rfl) rfl ?_
  exact r_lv (pc := 24) C [2, 1, 0] rfl (tl_Root_standingDivisor_24 C FU (D (3 + 7) 5) x1 0 D2 hf)
theorem c_Root_standingDivisor (Γ : GmT) {D : Dt} {rr : Int32} {DD : Dt} (hf : f_Root_standingDivisor D = some (rr, DD)) : Mt Γ y_Root_standingDivisor b_Root_standingDivisor 5 (some .int) 3 [.ref (Γ.2.1 0)] D (some (.int rr)) DD := Mt_of (by decide) (Nat.le_of_ble_eq_true rfl) (fun G C => te_Root_standingDivisor C hf)
