/-! 15.model3: printed by wip/whole/gen/gmeth.py out of the bytecode -/
abbrev b_Model_years : ByteArray := prog_11_method_91_code
abbrev y_Model_years : MethodName := ⟨"RiverTuesdaysModel", "years", "(II)I"⟩
theorem ok_Model_years : okV y_Model_years b_Model_years 8 (some .int) 2 9 := ⟨mGW (List.mem_of_getElem? (i := 1564) (by decide +kernel)) rfl, mGW (List.mem_of_getElem? (i := 1565) (by decide +kernel)) rfl, mGW (List.mem_of_getElem? (i := 83) (by decide +kernel)) rfl, mGW (List.mem_of_getElem? (i := 1566) (by decide +kernel)) rfl, ⟨by decide, by decide, by decide +kernel⟩, rfl⟩
theorem d_Model_years_0 : decode b_Model_years 0 = .ok (.iload_n 1, 1) := by decide +kernel
theorem d_Model_years_1 : decode b_Model_years 1 = .ok (.iconst 1, 1) := by decide +kernel
theorem d_Model_years_2 : decode b_Model_years 2 = .ok (.bipush 40, 2) := by decide +kernel
theorem d_Model_years_4 : decode b_Model_years 4 = .ok (.invokestatic 118, 3) := by decide +kernel
theorem d_Model_years_7 : decode b_Model_years 7 = .ok (.ifCond .eq 14, 3) := by decide +kernel
theorem d_Model_years_10 : decode b_Model_years 10 = .ok (.iload_n 2, 1) := by decide +kernel
theorem d_Model_years_11 : decode b_Model_years 11 = .ok (.iconst 1, 1) := by decide +kernel
theorem d_Model_years_12 : decode b_Model_years 12 = .ok (.ldc_w 332, 3) := by decide +kernel
theorem d_Model_years_15 : decode b_Model_years 15 = .ok (.invokestatic 118, 3) := by decide +kernel
theorem d_Model_years_18 : decode b_Model_years 18 = .ok (.ifCond .ne 5, 3) := by decide +kernel
theorem d_Model_years_21 : decode b_Model_years 21 = .ok (.iconst (-1), 1) := by decide +kernel
theorem d_Model_years_22 : decode b_Model_years 22 = .ok (.ireturn, 1) := by decide +kernel
theorem d_Model_years_23 : decode b_Model_years 23 = .ok (.aload_n 0, 1) := by decide +kernel
theorem d_Model_years_24 : decode b_Model_years 24 = .ok (.getfield 176, 3) := by decide +kernel
theorem d_Model_years_27 : decode b_Model_years 27 = .ok (.ifCond .ne 6, 3) := by decide +kernel
theorem d_Model_years_30 : decode b_Model_years 30 = .ok (.bipush (-4), 2) := by decide +kernel
theorem d_Model_years_32 : decode b_Model_years 32 = .ok (.ireturn, 1) := by decide +kernel
theorem d_Model_years_33 : decode b_Model_years 33 = .ok (.iconst 0, 1) := by decide +kernel
theorem d_Model_years_34 : decode b_Model_years 34 = .ok (.istore_n 3, 1) := by decide +kernel
theorem d_Model_years_35 : decode b_Model_years 35 = .ok (.iload_n 3, 1) := by decide +kernel
theorem d_Model_years_36 : decode b_Model_years 36 = .ok (.bipush 26, 2) := by decide +kernel
theorem d_Model_years_38 : decode b_Model_years 38 = .ok (.if_icmp .ge 16, 3) := by decide +kernel
theorem d_Model_years_41 : decode b_Model_years 41 = .ok (.aload_n 0, 1) := by decide +kernel
theorem d_Model_years_42 : decode b_Model_years 42 = .ok (.iconst 1, 1) := by decide +kernel
theorem d_Model_years_43 : decode b_Model_years 43 = .ok (.iload_n 3, 1) := by decide +kernel
theorem d_Model_years_44 : decode b_Model_years 44 = .ok (.iconst 0, 1) := by decide +kernel
theorem d_Model_years_45 : decode b_Model_years 45 = .ok (.invokevirtual 185, 3) := by decide +kernel
theorem d_Model_years_48 : decode b_Model_years 48 = .ok (.iinc 3 1, 3) := by decide +kernel
theorem d_Model_years_51 : decode b_Model_years 51 = .ok (.goto (-16), 3) := by decide +kernel
theorem d_Model_years_54 : decode b_Model_years 54 = .ok (.iconst 0, 1) := by decide +kernel
theorem d_Model_years_55 : decode b_Model_years 55 = .ok (.istore_n 3, 1) := by decide +kernel
theorem d_Model_years_56 : decode b_Model_years 56 = .ok (.iload_n 3, 1) := by decide +kernel
theorem d_Model_years_57 : decode b_Model_years 57 = .ok (.bipush 8, 2) := by decide +kernel
theorem d_Model_years_59 : decode b_Model_years 59 = .ok (.if_icmp .ge 16, 3) := by decide +kernel
theorem d_Model_years_62 : decode b_Model_years 62 = .ok (.aload_n 0, 1) := by decide +kernel
theorem d_Model_years_63 : decode b_Model_years 63 = .ok (.getfield 111, 3) := by decide +kernel
theorem d_Model_years_66 : decode b_Model_years 66 = .ok (.iload_n 3, 1) := by decide +kernel
theorem d_Model_years_67 : decode b_Model_years 67 = .ok (.iconst 0, 1) := by decide +kernel
theorem d_Model_years_68 : decode b_Model_years 68 = .ok (.iastore, 1) := by decide +kernel
theorem d_Model_years_69 : decode b_Model_years 69 = .ok (.iinc 3 1, 3) := by decide +kernel
theorem d_Model_years_72 : decode b_Model_years 72 = .ok (.goto (-16), 3) := by decide +kernel
theorem d_Model_years_75 : decode b_Model_years 75 = .ok (.iload_n 2, 1) := by decide +kernel
theorem d_Model_years_76 : decode b_Model_years 76 = .ok (.i2l, 1) := by decide +kernel
theorem d_Model_years_77 : decode b_Model_years 77 = .ok (.lstore_n 3, 1) := by decide +kernel
theorem d_Model_years_78 : decode b_Model_years 78 = .ok (.iconst 0, 1) := by decide +kernel
theorem d_Model_years_79 : decode b_Model_years 79 = .ok (.istore 5, 2) := by decide +kernel
theorem d_Model_years_81 : decode b_Model_years 81 = .ok (.iconst 0, 1) := by decide +kernel
theorem d_Model_years_82 : decode b_Model_years 82 = .ok (.istore 6, 2) := by decide +kernel
theorem d_Model_years_84 : decode b_Model_years 84 = .ok (.iload 6, 2) := by decide +kernel
theorem d_Model_years_86 : decode b_Model_years 86 = .ok (.iload_n 1, 1) := by decide +kernel
theorem d_Model_years_87 : decode b_Model_years 87 = .ok (.if_icmp .ge 112, 3) := by decide +kernel
theorem d_Model_years_90 : decode b_Model_years 90 = .ok (.ldc2_w 333, 3) := by decide +kernel
theorem d_Model_years_93 : decode b_Model_years 93 = .ok (.lload_n 3, 1) := by decide +kernel
theorem d_Model_years_94 : decode b_Model_years 94 = .ok (.lmul, 1) := by decide +kernel
theorem d_Model_years_95 : decode b_Model_years 95 = .ok (.ldc2_w 335, 3) := by decide +kernel
theorem d_Model_years_98 : decode b_Model_years 98 = .ok (.lrem, 1) := by decide +kernel
theorem d_Model_years_99 : decode b_Model_years 99 = .ok (.lstore_n 3, 1) := by decide +kernel
theorem d_Model_years_100 : decode b_Model_years 100 = .ok (.iconst 0, 1) := by decide +kernel
theorem d_Model_years_101 : decode b_Model_years 101 = .ok (.istore 7, 2) := by decide +kernel
theorem d_Model_years_103 : decode b_Model_years 103 = .ok (.iload 7, 2) := by decide +kernel
theorem d_Model_years_105 : decode b_Model_years 105 = .ok (.aload_n 0, 1) := by decide +kernel
theorem d_Model_years_106 : decode b_Model_years 106 = .ok (.getfield 176, 3) := by decide +kernel
theorem d_Model_years_109 : decode b_Model_years 109 = .ok (.if_icmp .ge 20, 3) := by decide +kernel
theorem d_Model_years_112 : decode b_Model_years 112 = .ok (.aload_n 0, 1) := by decide +kernel
theorem d_Model_years_113 : decode b_Model_years 113 = .ok (.iconst 1, 1) := by decide +kernel
theorem d_Model_years_114 : decode b_Model_years 114 = .ok (.bipush 8, 2) := by decide +kernel
theorem d_Model_years_116 : decode b_Model_years 116 = .ok (.iload 7, 2) := by decide +kernel
theorem d_Model_years_118 : decode b_Model_years 118 = .ok (.iadd, 1) := by decide +kernel
theorem d_Model_years_119 : decode b_Model_years 119 = .ok (.iconst 0, 1) := by decide +kernel
theorem d_Model_years_120 : decode b_Model_years 120 = .ok (.invokevirtual 185, 3) := by decide +kernel
theorem d_Model_years_123 : decode b_Model_years 123 = .ok (.iinc 7 1, 3) := by decide +kernel
theorem d_Model_years_126 : decode b_Model_years 126 = .ok (.goto (-23), 3) := by decide +kernel
theorem d_Model_years_129 : decode b_Model_years 129 = .ok (.aload_n 0, 1) := by decide +kernel
theorem d_Model_years_130 : decode b_Model_years 130 = .ok (.lload_n 3, 1) := by decide +kernel
theorem d_Model_years_131 : decode b_Model_years 131 = .ok (.ldc2_w 337, 3) := by decide +kernel
theorem d_Model_years_134 : decode b_Model_years 134 = .ok (.lrem, 1) := by decide +kernel
theorem d_Model_years_135 : decode b_Model_years 135 = .ok (.l2i, 1) := by decide +kernel
theorem d_Model_years_136 : decode b_Model_years 136 = .ok (.invokevirtual 271, 3) := by decide +kernel
theorem d_Model_years_139 : decode b_Model_years 139 = .ok (.iload 5, 2) := by decide +kernel
theorem d_Model_years_141 : decode b_Model_years 141 = .ok (.aload_n 0, 1) := by decide +kernel
theorem d_Model_years_142 : decode b_Model_years 142 = .ok (.getfield 242, 3) := by decide +kernel
theorem d_Model_years_145 : decode b_Model_years 145 = .ok (.iadd, 1) := by decide +kernel
theorem d_Model_years_146 : decode b_Model_years 146 = .ok (.istore 5, 2) := by decide +kernel
theorem d_Model_years_148 : decode b_Model_years 148 = .ok (.iconst 0, 1) := by decide +kernel
theorem d_Model_years_149 : decode b_Model_years 149 = .ok (.istore 7, 2) := by decide +kernel
theorem d_Model_years_151 : decode b_Model_years 151 = .ok (.iload 7, 2) := by decide +kernel
theorem d_Model_years_153 : decode b_Model_years 153 = .ok (.aload_n 0, 1) := by decide +kernel
theorem d_Model_years_154 : decode b_Model_years 154 = .ok (.getfield 176, 3) := by decide +kernel
theorem d_Model_years_157 : decode b_Model_years 157 = .ok (.if_icmp .ge 36, 3) := by decide +kernel
theorem d_Model_years_160 : decode b_Model_years 160 = .ok (.aload_n 0, 1) := by decide +kernel
theorem d_Model_years_161 : decode b_Model_years 161 = .ok (.getfield 111, 3) := by decide +kernel
theorem d_Model_years_164 : decode b_Model_years 164 = .ok (.iload 7, 2) := by decide +kernel
theorem d_Model_years_166 : decode b_Model_years 166 = .ok (.dup2, 1) := by decide +kernel
theorem d_Model_years_167 : decode b_Model_years 167 = .ok (.iaload, 1) := by decide +kernel
theorem d_Model_years_168 : decode b_Model_years 168 = .ok (.aload_n 0, 1) := by decide +kernel
theorem d_Model_years_169 : decode b_Model_years 169 = .ok (.getfield 245, 3) := by decide +kernel
theorem d_Model_years_172 : decode b_Model_years 172 = .ok (.iload 7, 2) := by decide +kernel
theorem d_Model_years_174 : decode b_Model_years 174 = .ok (.invokestatic 248, 3) := by decide +kernel
theorem d_Model_years_177 : decode b_Model_years 177 = .ok (.ifCond .eq 7, 3) := by decide +kernel
theorem d_Model_years_180 : decode b_Model_years 180 = .ok (.iconst 1, 1) := by decide +kernel
theorem d_Model_years_181 : decode b_Model_years 181 = .ok (.goto 4, 3) := by decide +kernel
theorem d_Model_years_184 : decode b_Model_years 184 = .ok (.iconst 0, 1) := by decide +kernel
theorem d_Model_years_185 : decode b_Model_years 185 = .ok (.iadd, 1) := by decide +kernel
theorem d_Model_years_186 : decode b_Model_years 186 = .ok (.iastore, 1) := by decide +kernel
theorem d_Model_years_187 : decode b_Model_years 187 = .ok (.iinc 7 1, 3) := by decide +kernel
theorem d_Model_years_190 : decode b_Model_years 190 = .ok (.goto (-39), 3) := by decide +kernel
theorem d_Model_years_193 : decode b_Model_years 193 = .ok (.iinc 6 1, 3) := by decide +kernel
theorem d_Model_years_196 : decode b_Model_years 196 = .ok (.goto (-112), 3) := by decide +kernel
theorem d_Model_years_199 : decode b_Model_years 199 = .ok (.bipush (-9), 2) := by decide +kernel
theorem d_Model_years_201 : decode b_Model_years 201 = .ok (.istore 6, 2) := by decide +kernel
theorem d_Model_years_203 : decode b_Model_years 203 = .ok (.iconst 0, 1) := by decide +kernel
theorem d_Model_years_204 : decode b_Model_years 204 = .ok (.istore 7, 2) := by decide +kernel
theorem d_Model_years_206 : decode b_Model_years 206 = .ok (.iload 7, 2) := by decide +kernel
theorem d_Model_years_208 : decode b_Model_years 208 = .ok (.aload_n 0, 1) := by decide +kernel
theorem d_Model_years_209 : decode b_Model_years 209 = .ok (.getfield 176, 3) := by decide +kernel
theorem d_Model_years_212 : decode b_Model_years 212 = .ok (.if_icmp .ge 46, 3) := by decide +kernel
theorem d_Model_years_215 : decode b_Model_years 215 = .ok (.aload_n 0, 1) := by decide +kernel
theorem d_Model_years_216 : decode b_Model_years 216 = .ok (.getfield 111, 3) := by decide +kernel
theorem d_Model_years_219 : decode b_Model_years 219 = .ok (.iload 7, 2) := by decide +kernel
theorem d_Model_years_221 : decode b_Model_years 221 = .ok (.iaload, 1) := by decide +kernel
theorem d_Model_years_222 : decode b_Model_years 222 = .ok (.iload 6, 2) := by decide +kernel
theorem d_Model_years_224 : decode b_Model_years 224 = .ok (.bipush (-9), 2) := by decide +kernel
theorem d_Model_years_226 : decode b_Model_years 226 = .ok (.if_icmp .ne 7, 3) := by decide +kernel
theorem d_Model_years_229 : decode b_Model_years 229 = .ok (.iconst 0, 1) := by decide +kernel
theorem d_Model_years_230 : decode b_Model_years 230 = .ok (.goto 10, 3) := by decide +kernel
theorem d_Model_years_233 : decode b_Model_years 233 = .ok (.aload_n 0, 1) := by decide +kernel
theorem d_Model_years_234 : decode b_Model_years 234 = .ok (.getfield 111, 3) := by decide +kernel
theorem d_Model_years_237 : decode b_Model_years 237 = .ok (.iload 6, 2) := by decide +kernel
theorem d_Model_years_239 : decode b_Model_years 239 = .ok (.iaload, 1) := by decide +kernel
theorem d_Model_years_240 : decode b_Model_years 240 = .ok (.if_icmp .le 8, 3) := by decide +kernel
theorem d_Model_years_243 : decode b_Model_years 243 = .ok (.iload 7, 2) := by decide +kernel
theorem d_Model_years_245 : decode b_Model_years 245 = .ok (.goto 5, 3) := by decide +kernel
theorem d_Model_years_248 : decode b_Model_years 248 = .ok (.iload 6, 2) := by decide +kernel
theorem d_Model_years_250 : decode b_Model_years 250 = .ok (.istore 6, 2) := by decide +kernel
theorem d_Model_years_252 : decode b_Model_years 252 = .ok (.iinc 7 1, 3) := by decide +kernel
theorem d_Model_years_255 : decode b_Model_years 255 = .ok (.goto (-49), 3) := by decide +kernel
theorem d_Model_years_258 : decode b_Model_years 258 = .ok (.aload_n 0, 1) := by decide +kernel
theorem d_Model_years_259 : decode b_Model_years 259 = .ok (.iload 6, 2) := by decide +kernel
theorem d_Model_years_261 : decode b_Model_years 261 = .ok (.iload 5, 2) := by decide +kernel
theorem d_Model_years_263 : decode b_Model_years 263 = .ok (.invokevirtual 137, 3) := by decide +kernel
theorem d_Model_years_266 : decode b_Model_years 266 = .ok (.ireturn, 1) := by decide +kernel
abbrev b_Model_standsAll : ByteArray := prog_11_method_92_code
abbrev y_Model_standsAll : MethodName := ⟨"RiverTuesdaysModel", "standsAll", "()I"⟩
theorem ok_Model_standsAll : okV y_Model_standsAll b_Model_standsAll 3 (some .int) 0 9 := ⟨mGW (List.mem_of_getElem? (i := 1577) (by decide +kernel)) rfl, mGW (List.mem_of_getElem? (i := 68) (by decide +kernel)) rfl, mGW (List.mem_of_getElem? (i := 83) (by decide +kernel)) rfl, mGW (List.mem_of_getElem? (i := 1578) (by decide +kernel)) rfl, ⟨by decide, by decide, by decide +kernel⟩, rfl⟩
theorem d_Model_standsAll_0 : decode b_Model_standsAll 0 = .ok (.aload_n 0, 1) := by decide +kernel
theorem d_Model_standsAll_1 : decode b_Model_standsAll 1 = .ok (.iconst 0, 1) := by decide +kernel
theorem d_Model_standsAll_2 : decode b_Model_standsAll 2 = .ok (.invokevirtual 236, 3) := by decide +kernel
theorem d_Model_standsAll_5 : decode b_Model_standsAll 5 = .ok (.istore_n 1, 1) := by decide +kernel
theorem d_Model_standsAll_6 : decode b_Model_standsAll 6 = .ok (.iconst 0, 1) := by decide +kernel
theorem d_Model_standsAll_7 : decode b_Model_standsAll 7 = .ok (.istore_n 2, 1) := by decide +kernel
theorem d_Model_standsAll_8 : decode b_Model_standsAll 8 = .ok (.iload_n 2, 1) := by decide +kernel
theorem d_Model_standsAll_9 : decode b_Model_standsAll 9 = .ok (.aload_n 0, 1) := by decide +kernel
theorem d_Model_standsAll_10 : decode b_Model_standsAll 10 = .ok (.getfield 176, 3) := by decide +kernel
theorem d_Model_standsAll_13 : decode b_Model_standsAll 13 = .ok (.if_icmp .ge 21, 3) := by decide +kernel
theorem d_Model_standsAll_16 : decode b_Model_standsAll 16 = .ok (.iload_n 1, 1) := by decide +kernel
theorem d_Model_standsAll_17 : decode b_Model_standsAll 17 = .ok (.aload_n 0, 1) := by decide +kernel
theorem d_Model_standsAll_18 : decode b_Model_standsAll 18 = .ok (.iconst 0, 1) := by decide +kernel
theorem d_Model_standsAll_19 : decode b_Model_standsAll 19 = .ok (.bipush 8, 2) := by decide +kernel
theorem d_Model_standsAll_21 : decode b_Model_standsAll 21 = .ok (.iload_n 2, 1) := by decide +kernel
theorem d_Model_standsAll_22 : decode b_Model_standsAll 22 = .ok (.iadd, 1) := by decide +kernel
theorem d_Model_standsAll_23 : decode b_Model_standsAll 23 = .ok (.invokevirtual 192, 3) := by decide +kernel
theorem d_Model_standsAll_26 : decode b_Model_standsAll 26 = .ok (.iadd, 1) := by decide +kernel
theorem d_Model_standsAll_27 : decode b_Model_standsAll 27 = .ok (.istore_n 1, 1) := by decide +kernel
theorem d_Model_standsAll_28 : decode b_Model_standsAll 28 = .ok (.iinc 2 1, 3) := by decide +kernel
theorem d_Model_standsAll_31 : decode b_Model_standsAll 31 = .ok (.goto (-23), 3) := by decide +kernel
theorem d_Model_standsAll_34 : decode b_Model_standsAll 34 = .ok (.iload_n 1, 1) := by decide +kernel
theorem d_Model_standsAll_35 : decode b_Model_standsAll 35 = .ok (.ireturn, 1) := by decide +kernel
abbrev b_Model_common : ByteArray := prog_11_method_93_code
abbrev y_Model_common : MethodName := ⟨"RiverTuesdaysModel", "common", "()I"⟩
theorem ok_Model_common : okV y_Model_common b_Model_common 4 (some .int) 0 9 := ⟨mGW (List.mem_of_getElem? (i := 1581) (by decide +kernel)) rfl, mGW (List.mem_of_getElem? (i := 69) (by decide +kernel)) rfl, mGW (List.mem_of_getElem? (i := 83) (by decide +kernel)) rfl, mGW (List.mem_of_getElem? (i := 1582) (by decide +kernel)) rfl, ⟨by decide, by decide, by decide +kernel⟩, rfl⟩
theorem d_Model_common_0 : decode b_Model_common 0 = .ok (.aload_n 0, 1) := by decide +kernel
theorem d_Model_common_1 : decode b_Model_common 1 = .ok (.invokevirtual 339, 3) := by decide +kernel
theorem d_Model_common_4 : decode b_Model_common 4 = .ok (.istore_n 1, 1) := by decide +kernel
theorem d_Model_common_5 : decode b_Model_common 5 = .ok (.aload_n 0, 1) := by decide +kernel
theorem d_Model_common_6 : decode b_Model_common 6 = .ok (.iconst 0, 1) := by decide +kernel
theorem d_Model_common_7 : decode b_Model_common 7 = .ok (.bipush 24, 2) := by decide +kernel
theorem d_Model_common_9 : decode b_Model_common 9 = .ok (.invokevirtual 192, 3) := by decide +kernel
theorem d_Model_common_12 : decode b_Model_common 12 = .ok (.istore_n 2, 1) := by decide +kernel
theorem d_Model_common_13 : decode b_Model_common 13 = .ok (.iload_n 2, 1) := by decide +kernel
theorem d_Model_common_14 : decode b_Model_common 14 = .ok (.ifCond .eq 14, 3) := by decide +kernel
theorem d_Model_common_17 : decode b_Model_common 17 = .ok (.iload_n 1, 1) := by decide +kernel
theorem d_Model_common_18 : decode b_Model_common 18 = .ok (.iload_n 2, 1) := by decide +kernel
theorem d_Model_common_19 : decode b_Model_common 19 = .ok (.irem, 1) := by decide +kernel
theorem d_Model_common_20 : decode b_Model_common 20 = .ok (.istore_n 3, 1) := by decide +kernel
theorem d_Model_common_21 : decode b_Model_common 21 = .ok (.iload_n 2, 1) := by decide +kernel
theorem d_Model_common_22 : decode b_Model_common 22 = .ok (.istore_n 1, 1) := by decide +kernel
theorem d_Model_common_23 : decode b_Model_common 23 = .ok (.iload_n 3, 1) := by decide +kernel
theorem d_Model_common_24 : decode b_Model_common 24 = .ok (.istore_n 2, 1) := by decide +kernel
theorem d_Model_common_25 : decode b_Model_common 25 = .ok (.goto (-12), 3) := by decide +kernel
theorem d_Model_common_28 : decode b_Model_common 28 = .ok (.iload_n 1, 1) := by decide +kernel
theorem d_Model_common_29 : decode b_Model_common 29 = .ok (.ireturn, 1) := by decide +kernel
abbrev b_Model_upper : ByteArray := prog_11_method_94_code
abbrev y_Model_upper : MethodName := ⟨"RiverTuesdaysModel", "upper", "()J"⟩
theorem ok_Model_upper : okV y_Model_upper b_Model_upper 1 (some .long) 0 9 := ⟨mGW (List.mem_of_getElem? (i := 1572) (by decide +kernel)) rfl, mGW (List.mem_of_getElem? (i := 1573) (by decide +kernel)) rfl, mGW (List.mem_of_getElem? (i := 83) (by decide +kernel)) rfl, mGW (List.mem_of_getElem? (i := 1574) (by decide +kernel)) rfl, ⟨by decide, by decide, by decide +kernel⟩, rfl⟩
theorem d_Model_upper_0 : decode b_Model_upper 0 = .ok (.aload_n 0, 1) := by decide +kernel
theorem d_Model_upper_1 : decode b_Model_upper 1 = .ok (.iconst 0, 1) := by decide +kernel
theorem d_Model_upper_2 : decode b_Model_upper 2 = .ok (.bipush 24, 2) := by decide +kernel
theorem d_Model_upper_4 : decode b_Model_upper 4 = .ok (.invokevirtual 192, 3) := by decide +kernel
theorem d_Model_upper_7 : decode b_Model_upper 7 = .ok (.ifCond .ne 7, 3) := by decide +kernel
theorem d_Model_upper_10 : decode b_Model_upper 10 = .ok (.lconst 0, 1) := by decide +kernel
theorem d_Model_upper_11 : decode b_Model_upper 11 = .ok (.goto 13, 3) := by decide +kernel
theorem d_Model_upper_14 : decode b_Model_upper 14 = .ok (.aload_n 0, 1) := by decide +kernel
theorem d_Model_upper_15 : decode b_Model_upper 15 = .ok (.invokevirtual 339, 3) := by decide +kernel
theorem d_Model_upper_18 : decode b_Model_upper 18 = .ok (.aload_n 0, 1) := by decide +kernel
theorem d_Model_upper_19 : decode b_Model_upper 19 = .ok (.invokevirtual 343, 3) := by decide +kernel
theorem d_Model_upper_22 : decode b_Model_upper 22 = .ok (.idiv, 1) := by decide +kernel
theorem d_Model_upper_23 : decode b_Model_upper 23 = .ok (.i2l, 1) := by decide +kernel
theorem d_Model_upper_24 : decode b_Model_upper 24 = .ok (.lreturn, 1) := by decide +kernel
abbrev b_Model_lower : ByteArray := prog_11_method_95_code
abbrev y_Model_lower : MethodName := ⟨"RiverTuesdaysModel", "lower", "()J"⟩
theorem ok_Model_lower : okV y_Model_lower b_Model_lower 1 (some .long) 0 9 := ⟨mGW (List.mem_of_getElem? (i := 1584) (by decide +kernel)) rfl, mGW (List.mem_of_getElem? (i := 1585) (by decide +kernel)) rfl, mGW (List.mem_of_getElem? (i := 83) (by decide +kernel)) rfl, mGW (List.mem_of_getElem? (i := 1586) (by decide +kernel)) rfl, ⟨by decide, by decide, by decide +kernel⟩, rfl⟩
theorem d_Model_lower_0 : decode b_Model_lower 0 = .ok (.aload_n 0, 1) := by decide +kernel
theorem d_Model_lower_1 : decode b_Model_lower 1 = .ok (.iconst 0, 1) := by decide +kernel
theorem d_Model_lower_2 : decode b_Model_lower 2 = .ok (.bipush 24, 2) := by decide +kernel
theorem d_Model_lower_4 : decode b_Model_lower 4 = .ok (.invokevirtual 192, 3) := by decide +kernel
theorem d_Model_lower_7 : decode b_Model_lower 7 = .ok (.ifCond .ne 7, 3) := by decide +kernel
theorem d_Model_lower_10 : decode b_Model_lower 10 = .ok (.lconst 1, 1) := by decide +kernel
theorem d_Model_lower_11 : decode b_Model_lower 11 = .ok (.goto 16, 3) := by decide +kernel
theorem d_Model_lower_14 : decode b_Model_lower 14 = .ok (.aload_n 0, 1) := by decide +kernel
theorem d_Model_lower_15 : decode b_Model_lower 15 = .ok (.iconst 0, 1) := by decide +kernel
theorem d_Model_lower_16 : decode b_Model_lower 16 = .ok (.bipush 24, 2) := by decide +kernel
theorem d_Model_lower_18 : decode b_Model_lower 18 = .ok (.invokevirtual 192, 3) := by decide +kernel
theorem d_Model_lower_21 : decode b_Model_lower 21 = .ok (.aload_n 0, 1) := by decide +kernel
theorem d_Model_lower_22 : decode b_Model_lower 22 = .ok (.invokevirtual 343, 3) := by decide +kernel
theorem d_Model_lower_25 : decode b_Model_lower 25 = .ok (.idiv, 1) := by decide +kernel
theorem d_Model_lower_26 : decode b_Model_lower 26 = .ok (.i2l, 1) := by decide +kernel
theorem d_Model_lower_27 : decode b_Model_lower 27 = .ok (.lreturn, 1) := by decide +kernel
abbrev b_Model_counted : ByteArray := prog_11_method_96_code
abbrev y_Model_counted : MethodName := ⟨"RiverTuesdaysModel", "counted", "(I)I"⟩
theorem ok_Model_counted : okV y_Model_counted b_Model_counted 4 (some .int) 1 9 := ⟨mGW (List.mem_of_getElem? (i := 1593) (by decide +kernel)) rfl, mGW (List.mem_of_getElem? (i := 70) (by decide +kernel)) rfl, mGW (List.mem_of_getElem? (i := 83) (by decide +kernel)) rfl, mGW (List.mem_of_getElem? (i := 1594) (by decide +kernel)) rfl, ⟨by decide, by decide, by decide +kernel⟩, rfl⟩
theorem d_Model_counted_0 : decode b_Model_counted 0 = .ok (.iconst 0, 1) := by decide +kernel
theorem d_Model_counted_1 : decode b_Model_counted 1 = .ok (.istore_n 2, 1) := by decide +kernel
theorem d_Model_counted_2 : decode b_Model_counted 2 = .ok (.iconst 0, 1) := by decide +kernel
theorem d_Model_counted_3 : decode b_Model_counted 3 = .ok (.istore_n 3, 1) := by decide +kernel
theorem d_Model_counted_4 : decode b_Model_counted 4 = .ok (.iload_n 3, 1) := by decide +kernel
theorem d_Model_counted_5 : decode b_Model_counted 5 = .ok (.aload_n 0, 1) := by decide +kernel
theorem d_Model_counted_6 : decode b_Model_counted 6 = .ok (.getfield 176, 3) := by decide +kernel
theorem d_Model_counted_9 : decode b_Model_counted 9 = .ok (.if_icmp .ge 82, 3) := by decide +kernel
theorem d_Model_counted_12 : decode b_Model_counted 12 = .ok (.iload_n 2, 1) := by decide +kernel
theorem d_Model_counted_13 : decode b_Model_counted 13 = .ok (.iload_n 1, 1) := by decide +kernel
theorem d_Model_counted_14 : decode b_Model_counted 14 = .ok (.iconst 2, 1) := by decide +kernel
theorem d_Model_counted_15 : decode b_Model_counted 15 = .ok (.if_icmp .ne 23, 3) := by decide +kernel
theorem d_Model_counted_18 : decode b_Model_counted 18 = .ok (.aload_n 0, 1) := by decide +kernel
theorem d_Model_counted_19 : decode b_Model_counted 19 = .ok (.getfield 29, 3) := by decide +kernel
theorem d_Model_counted_22 : decode b_Model_counted 22 = .ok (.iload_n 3, 1) := by decide +kernel
theorem d_Model_counted_23 : decode b_Model_counted 23 = .ok (.iaload, 1) := by decide +kernel
theorem d_Model_counted_24 : decode b_Model_counted 24 = .ok (.iconst 1, 1) := by decide +kernel
theorem d_Model_counted_25 : decode b_Model_counted 25 = .ok (.if_icmp .eq 53, 3) := by decide +kernel
theorem d_Model_counted_28 : decode b_Model_counted 28 = .ok (.aload_n 0, 1) := by decide +kernel
theorem d_Model_counted_29 : decode b_Model_counted 29 = .ok (.getfield 29, 3) := by decide +kernel
theorem d_Model_counted_32 : decode b_Model_counted 32 = .ok (.iload_n 3, 1) := by decide +kernel
theorem d_Model_counted_33 : decode b_Model_counted 33 = .ok (.iaload, 1) := by decide +kernel
theorem d_Model_counted_34 : decode b_Model_counted 34 = .ok (.iconst 4, 1) := by decide +kernel
theorem d_Model_counted_35 : decode b_Model_counted 35 = .ok (.if_icmp .eq 43, 3) := by decide +kernel
theorem d_Model_counted_38 : decode b_Model_counted 38 = .ok (.iload_n 1, 1) := by decide +kernel
theorem d_Model_counted_39 : decode b_Model_counted 39 = .ok (.iconst 3, 1) := by decide +kernel
theorem d_Model_counted_40 : decode b_Model_counted 40 = .ok (.if_icmp .ne 23, 3) := by decide +kernel
theorem d_Model_counted_43 : decode b_Model_counted 43 = .ok (.aload_n 0, 1) := by decide +kernel
theorem d_Model_counted_44 : decode b_Model_counted 44 = .ok (.getfield 29, 3) := by decide +kernel
theorem d_Model_counted_47 : decode b_Model_counted 47 = .ok (.iload_n 3, 1) := by decide +kernel
theorem d_Model_counted_48 : decode b_Model_counted 48 = .ok (.iaload, 1) := by decide +kernel
theorem d_Model_counted_49 : decode b_Model_counted 49 = .ok (.iconst 3, 1) := by decide +kernel
theorem d_Model_counted_50 : decode b_Model_counted 50 = .ok (.if_icmp .eq 28, 3) := by decide +kernel
theorem d_Model_counted_53 : decode b_Model_counted 53 = .ok (.aload_n 0, 1) := by decide +kernel
theorem d_Model_counted_54 : decode b_Model_counted 54 = .ok (.getfield 29, 3) := by decide +kernel
theorem d_Model_counted_57 : decode b_Model_counted 57 = .ok (.iload_n 3, 1) := by decide +kernel
theorem d_Model_counted_58 : decode b_Model_counted 58 = .ok (.iaload, 1) := by decide +kernel
theorem d_Model_counted_59 : decode b_Model_counted 59 = .ok (.iconst 5, 1) := by decide +kernel
theorem d_Model_counted_60 : decode b_Model_counted 60 = .ok (.if_icmp .eq 18, 3) := by decide +kernel
theorem d_Model_counted_63 : decode b_Model_counted 63 = .ok (.iload_n 1, 1) := by decide +kernel
theorem d_Model_counted_64 : decode b_Model_counted 64 = .ok (.iconst 4, 1) := by decide +kernel
theorem d_Model_counted_65 : decode b_Model_counted 65 = .ok (.if_icmp .ne 17, 3) := by decide +kernel
theorem d_Model_counted_68 : decode b_Model_counted 68 = .ok (.aload_n 0, 1) := by decide +kernel
theorem d_Model_counted_69 : decode b_Model_counted 69 = .ok (.getfield 41, 3) := by decide +kernel
theorem d_Model_counted_72 : decode b_Model_counted 72 = .ok (.iload_n 3, 1) := by decide +kernel
theorem d_Model_counted_73 : decode b_Model_counted 73 = .ok (.iaload, 1) := by decide +kernel
theorem d_Model_counted_74 : decode b_Model_counted 74 = .ok (.iconst 1, 1) := by decide +kernel
theorem d_Model_counted_75 : decode b_Model_counted 75 = .ok (.if_icmp .ne 7, 3) := by decide +kernel
theorem d_Model_counted_78 : decode b_Model_counted 78 = .ok (.iconst 1, 1) := by decide +kernel
theorem d_Model_counted_79 : decode b_Model_counted 79 = .ok (.goto 4, 3) := by decide +kernel
theorem d_Model_counted_82 : decode b_Model_counted 82 = .ok (.iconst 0, 1) := by decide +kernel
theorem d_Model_counted_83 : decode b_Model_counted 83 = .ok (.iadd, 1) := by decide +kernel
theorem d_Model_counted_84 : decode b_Model_counted 84 = .ok (.istore_n 2, 1) := by decide +kernel
theorem d_Model_counted_85 : decode b_Model_counted 85 = .ok (.iinc 3 1, 3) := by decide +kernel
theorem d_Model_counted_88 : decode b_Model_counted 88 = .ok (.goto (-84), 3) := by decide +kernel
theorem d_Model_counted_91 : decode b_Model_counted 91 = .ok (.iconst 0, 1) := by decide +kernel
theorem d_Model_counted_92 : decode b_Model_counted 92 = .ok (.istore_n 3, 1) := by decide +kernel
theorem d_Model_counted_93 : decode b_Model_counted 93 = .ok (.iload_n 3, 1) := by decide +kernel
theorem d_Model_counted_94 : decode b_Model_counted 94 = .ok (.iconst 3, 1) := by decide +kernel
theorem d_Model_counted_95 : decode b_Model_counted 95 = .ok (.if_icmp .ge 30, 3) := by decide +kernel
theorem d_Model_counted_98 : decode b_Model_counted 98 = .ok (.iload_n 2, 1) := by decide +kernel
theorem d_Model_counted_99 : decode b_Model_counted 99 = .ok (.iload_n 1, 1) := by decide +kernel
theorem d_Model_counted_100 : decode b_Model_counted 100 = .ok (.iconst 5, 1) := by decide +kernel
theorem d_Model_counted_101 : decode b_Model_counted 101 = .ok (.if_icmp .ne 15, 3) := by decide +kernel
theorem d_Model_counted_104 : decode b_Model_counted 104 = .ok (.aload_n 0, 1) := by decide +kernel
theorem d_Model_counted_105 : decode b_Model_counted 105 = .ok (.iload_n 3, 1) := by decide +kernel
theorem d_Model_counted_106 : decode b_Model_counted 106 = .ok (.invokevirtual 239, 3) := by decide +kernel
theorem d_Model_counted_109 : decode b_Model_counted 109 = .ok (.ifCond .eq 7, 3) := by decide +kernel
theorem d_Model_counted_112 : decode b_Model_counted 112 = .ok (.iconst 1, 1) := by decide +kernel
theorem d_Model_counted_113 : decode b_Model_counted 113 = .ok (.goto 4, 3) := by decide +kernel
theorem d_Model_counted_116 : decode b_Model_counted 116 = .ok (.iconst 0, 1) := by decide +kernel
theorem d_Model_counted_117 : decode b_Model_counted 117 = .ok (.iadd, 1) := by decide +kernel
theorem d_Model_counted_118 : decode b_Model_counted 118 = .ok (.istore_n 2, 1) := by decide +kernel
theorem d_Model_counted_119 : decode b_Model_counted 119 = .ok (.iinc 3 1, 3) := by decide +kernel
theorem d_Model_counted_122 : decode b_Model_counted 122 = .ok (.goto (-29), 3) := by decide +kernel
theorem d_Model_counted_125 : decode b_Model_counted 125 = .ok (.iconst 0, 1) := by decide +kernel
theorem d_Model_counted_126 : decode b_Model_counted 126 = .ok (.istore_n 3, 1) := by decide +kernel
theorem d_Model_counted_127 : decode b_Model_counted 127 = .ok (.iload_n 3, 1) := by decide +kernel
theorem d_Model_counted_128 : decode b_Model_counted 128 = .ok (.bipush 6, 2) := by decide +kernel
theorem d_Model_counted_130 : decode b_Model_counted 130 = .ok (.if_icmp .ge 32, 3) := by decide +kernel
theorem d_Model_counted_133 : decode b_Model_counted 133 = .ok (.iload_n 2, 1) := by decide +kernel
theorem d_Model_counted_134 : decode b_Model_counted 134 = .ok (.iload_n 1, 1) := by decide +kernel
theorem d_Model_counted_135 : decode b_Model_counted 135 = .ok (.bipush 6, 2) := by decide +kernel
theorem d_Model_counted_137 : decode b_Model_counted 137 = .ok (.if_icmp .ne 16, 3) := by decide +kernel
theorem d_Model_counted_140 : decode b_Model_counted 140 = .ok (.aload_n 0, 1) := by decide +kernel
theorem d_Model_counted_141 : decode b_Model_counted 141 = .ok (.getfield 13, 3) := by decide +kernel
theorem d_Model_counted_144 : decode b_Model_counted 144 = .ok (.iload_n 3, 1) := by decide +kernel
theorem d_Model_counted_145 : decode b_Model_counted 145 = .ok (.iaload, 1) := by decide +kernel
theorem d_Model_counted_146 : decode b_Model_counted 146 = .ok (.ifCond .lt 7, 3) := by decide +kernel
theorem d_Model_counted_149 : decode b_Model_counted 149 = .ok (.iconst 1, 1) := by decide +kernel
theorem d_Model_counted_150 : decode b_Model_counted 150 = .ok (.goto 4, 3) := by decide +kernel
theorem d_Model_counted_153 : decode b_Model_counted 153 = .ok (.iconst 0, 1) := by decide +kernel
theorem d_Model_counted_154 : decode b_Model_counted 154 = .ok (.iadd, 1) := by decide +kernel
theorem d_Model_counted_155 : decode b_Model_counted 155 = .ok (.istore_n 2, 1) := by decide +kernel
theorem d_Model_counted_156 : decode b_Model_counted 156 = .ok (.iinc 3 1, 3) := by decide +kernel
theorem d_Model_counted_159 : decode b_Model_counted 159 = .ok (.goto (-32), 3) := by decide +kernel
theorem d_Model_counted_162 : decode b_Model_counted 162 = .ok (.iconst 0, 1) := by decide +kernel
theorem d_Model_counted_163 : decode b_Model_counted 163 = .ok (.istore_n 3, 1) := by decide +kernel
theorem d_Model_counted_164 : decode b_Model_counted 164 = .ok (.iload_n 3, 1) := by decide +kernel
theorem d_Model_counted_165 : decode b_Model_counted 165 = .ok (.iconst 4, 1) := by decide +kernel
theorem d_Model_counted_166 : decode b_Model_counted 166 = .ok (.if_icmp .ge 32, 3) := by decide +kernel
theorem d_Model_counted_169 : decode b_Model_counted 169 = .ok (.iload_n 2, 1) := by decide +kernel
theorem d_Model_counted_170 : decode b_Model_counted 170 = .ok (.iload_n 1, 1) := by decide +kernel
theorem d_Model_counted_171 : decode b_Model_counted 171 = .ok (.bipush 7, 2) := by decide +kernel
theorem d_Model_counted_173 : decode b_Model_counted 173 = .ok (.if_icmp .ne 16, 3) := by decide +kernel
theorem d_Model_counted_176 : decode b_Model_counted 176 = .ok (.aload_n 0, 1) := by decide +kernel
theorem d_Model_counted_177 : decode b_Model_counted 177 = .ok (.getfield 22, 3) := by decide +kernel
theorem d_Model_counted_180 : decode b_Model_counted 180 = .ok (.iload_n 3, 1) := by decide +kernel
theorem d_Model_counted_181 : decode b_Model_counted 181 = .ok (.iaload, 1) := by decide +kernel
theorem d_Model_counted_182 : decode b_Model_counted 182 = .ok (.ifCond .lt 7, 3) := by decide +kernel
theorem d_Model_counted_185 : decode b_Model_counted 185 = .ok (.iconst 1, 1) := by decide +kernel
theorem d_Model_counted_186 : decode b_Model_counted 186 = .ok (.goto 4, 3) := by decide +kernel
theorem d_Model_counted_189 : decode b_Model_counted 189 = .ok (.iconst 0, 1) := by decide +kernel
theorem d_Model_counted_190 : decode b_Model_counted 190 = .ok (.iadd, 1) := by decide +kernel
theorem d_Model_counted_191 : decode b_Model_counted 191 = .ok (.istore_n 2, 1) := by decide +kernel
theorem d_Model_counted_192 : decode b_Model_counted 192 = .ok (.iinc 3 1, 3) := by decide +kernel
theorem d_Model_counted_195 : decode b_Model_counted 195 = .ok (.goto (-31), 3) := by decide +kernel
theorem d_Model_counted_198 : decode b_Model_counted 198 = .ok (.iload_n 1, 1) := by decide +kernel
theorem d_Model_counted_199 : decode b_Model_counted 199 = .ok (.ifCond .ne 10, 3) := by decide +kernel
theorem d_Model_counted_202 : decode b_Model_counted 202 = .ok (.aload_n 0, 1) := by decide +kernel
theorem d_Model_counted_203 : decode b_Model_counted 203 = .ok (.getfield 176, 3) := by decide +kernel
theorem d_Model_counted_206 : decode b_Model_counted 206 = .ok (.goto 16, 3) := by decide +kernel
theorem d_Model_counted_209 : decode b_Model_counted 209 = .ok (.iload_n 1, 1) := by decide +kernel
theorem d_Model_counted_210 : decode b_Model_counted 210 = .ok (.iconst 1, 1) := by decide +kernel
theorem d_Model_counted_211 : decode b_Model_counted 211 = .ok (.if_icmp .ne 10, 3) := by decide +kernel
theorem d_Model_counted_214 : decode b_Model_counted 214 = .ok (.aload_n 0, 1) := by decide +kernel
theorem d_Model_counted_215 : decode b_Model_counted 215 = .ok (.getfield 189, 3) := by decide +kernel
theorem d_Model_counted_218 : decode b_Model_counted 218 = .ok (.goto 4, 3) := by decide +kernel
theorem d_Model_counted_221 : decode b_Model_counted 221 = .ok (.iload_n 2, 1) := by decide +kernel
theorem d_Model_counted_222 : decode b_Model_counted 222 = .ok (.ireturn, 1) := by decide +kernel
abbrev b_Model_count : ByteArray := prog_11_method_97_code
abbrev y_Model_count : MethodName := ⟨"RiverTuesdaysModel", "count", "(I)I"⟩
theorem ok_Model_count : okV y_Model_count b_Model_count 2 (some .int) 1 9 := ⟨mGW (List.mem_of_getElem? (i := 1588) (by decide +kernel)) rfl, mGW (List.mem_of_getElem? (i := 1589) (by decide +kernel)) rfl, mGW (List.mem_of_getElem? (i := 83) (by decide +kernel)) rfl, mGW (List.mem_of_getElem? (i := 1590) (by decide +kernel)) rfl, ⟨by decide, by decide, by decide +kernel⟩, rfl⟩
theorem d_Model_count_0 : decode b_Model_count 0 = .ok (.iload_n 1, 1) := by decide +kernel
theorem d_Model_count_1 : decode b_Model_count 1 = .ok (.iconst 0, 1) := by decide +kernel
theorem d_Model_count_2 : decode b_Model_count 2 = .ok (.bipush 7, 2) := by decide +kernel
theorem d_Model_count_4 : decode b_Model_count 4 = .ok (.invokestatic 118, 3) := by decide +kernel
theorem d_Model_count_7 : decode b_Model_count 7 = .ok (.ifCond .eq 11, 3) := by decide +kernel
theorem d_Model_count_10 : decode b_Model_count 10 = .ok (.aload_n 0, 1) := by decide +kernel
theorem d_Model_count_11 : decode b_Model_count 11 = .ok (.iload_n 1, 1) := by decide +kernel
theorem d_Model_count_12 : decode b_Model_count 12 = .ok (.invokevirtual 346, 3) := by decide +kernel
theorem d_Model_count_15 : decode b_Model_count 15 = .ok (.goto 4, 3) := by decide +kernel
theorem d_Model_count_18 : decode b_Model_count 18 = .ok (.iconst (-1), 1) := by decide +kernel
theorem d_Model_count_19 : decode b_Model_count 19 = .ok (.ireturn, 1) := by decide +kernel
abbrev b_Model_mix : ByteArray := prog_11_method_98_code
abbrev y_Model_mix : MethodName := ⟨"RiverTuesdaysModel", "mix", "(J)V"⟩
theorem ok_Model_mix : okV y_Model_mix b_Model_mix 3 none 1 9 := ⟨mGW (List.mem_of_getElem? (i := 1602) (by decide +kernel)) rfl, mGW (List.mem_of_getElem? (i := 71) (by decide +kernel)) rfl, mGW (List.mem_of_getElem? (i := 83) (by decide +kernel)) rfl, mGW (List.mem_of_getElem? (i := 1603) (by decide +kernel)) rfl, ⟨by decide, by decide, by decide +kernel⟩, rfl⟩
theorem d_Model_mix_0 : decode b_Model_mix 0 = .ok (.aload_n 0, 1) := by decide +kernel
theorem d_Model_mix_1 : decode b_Model_mix 1 = .ok (.ldc2_w 349, 3) := by decide +kernel
theorem d_Model_mix_4 : decode b_Model_mix 4 = .ok (.aload_n 0, 1) := by decide +kernel
theorem d_Model_mix_5 : decode b_Model_mix 5 = .ok (.getfield 351, 3) := by decide +kernel
theorem d_Model_mix_8 : decode b_Model_mix 8 = .ok (.lmul, 1) := by decide +kernel
theorem d_Model_mix_9 : decode b_Model_mix 9 = .ok (.lload_n 1, 1) := by decide +kernel
theorem d_Model_mix_10 : decode b_Model_mix 10 = .ok (.ladd, 1) := by decide +kernel
theorem d_Model_mix_11 : decode b_Model_mix 11 = .ok (.putfield 351, 3) := by decide +kernel
theorem d_Model_mix_14 : decode b_Model_mix 14 = .ok (.return_, 1) := by decide +kernel
abbrev b_Model_mixStreet : ByteArray := prog_11_method_99_code
abbrev y_Model_mixStreet : MethodName := ⟨"RiverTuesdaysModel", "mixStreet", "()V"⟩
theorem ok_Model_mixStreet : okV y_Model_mixStreet b_Model_mixStreet 3 none 0 9 := ⟨mGW (List.mem_of_getElem? (i := 1607) (by decide +kernel)) rfl, mGW (List.mem_of_getElem? (i := 72) (by decide +kernel)) rfl, mGW (List.mem_of_getElem? (i := 83) (by decide +kernel)) rfl, mGW (List.mem_of_getElem? (i := 1608) (by decide +kernel)) rfl, ⟨by decide, by decide, by decide +kernel⟩, rfl⟩
theorem d_Model_mixStreet_0 : decode b_Model_mixStreet 0 = .ok (.aload_n 0, 1) := by decide +kernel
theorem d_Model_mixStreet_1 : decode b_Model_mixStreet 1 = .ok (.aload_n 0, 1) := by decide +kernel
theorem d_Model_mixStreet_2 : decode b_Model_mixStreet 2 = .ok (.getfield 179, 3) := by decide +kernel
theorem d_Model_mixStreet_5 : decode b_Model_mixStreet 5 = .ok (.i2l, 1) := by decide +kernel
theorem d_Model_mixStreet_6 : decode b_Model_mixStreet 6 = .ok (.invokevirtual 355, 3) := by decide +kernel
theorem d_Model_mixStreet_9 : decode b_Model_mixStreet 9 = .ok (.aload_n 0, 1) := by decide +kernel
theorem d_Model_mixStreet_10 : decode b_Model_mixStreet 10 = .ok (.aload_n 0, 1) := by decide +kernel
theorem d_Model_mixStreet_11 : decode b_Model_mixStreet 11 = .ok (.getfield 182, 3) := by decide +kernel
theorem d_Model_mixStreet_14 : decode b_Model_mixStreet 14 = .ok (.i2l, 1) := by decide +kernel
theorem d_Model_mixStreet_15 : decode b_Model_mixStreet 15 = .ok (.invokevirtual 355, 3) := by decide +kernel
theorem d_Model_mixStreet_18 : decode b_Model_mixStreet 18 = .ok (.aload_n 0, 1) := by decide +kernel
theorem d_Model_mixStreet_19 : decode b_Model_mixStreet 19 = .ok (.aload_n 0, 1) := by decide +kernel
theorem d_Model_mixStreet_20 : decode b_Model_mixStreet 20 = .ok (.iconst 0, 1) := by decide +kernel
theorem d_Model_mixStreet_21 : decode b_Model_mixStreet 21 = .ok (.bipush 24, 2) := by decide +kernel
theorem d_Model_mixStreet_23 : decode b_Model_mixStreet 23 = .ok (.invokevirtual 192, 3) := by decide +kernel
theorem d_Model_mixStreet_26 : decode b_Model_mixStreet 26 = .ok (.i2l, 1) := by decide +kernel
theorem d_Model_mixStreet_27 : decode b_Model_mixStreet 27 = .ok (.invokevirtual 355, 3) := by decide +kernel
theorem d_Model_mixStreet_30 : decode b_Model_mixStreet 30 = .ok (.aload_n 0, 1) := by decide +kernel
theorem d_Model_mixStreet_31 : decode b_Model_mixStreet 31 = .ok (.aload_n 0, 1) := by decide +kernel
theorem d_Model_mixStreet_32 : decode b_Model_mixStreet 32 = .ok (.iconst 0, 1) := by decide +kernel
theorem d_Model_mixStreet_33 : decode b_Model_mixStreet 33 = .ok (.bipush 25, 2) := by decide +kernel
theorem d_Model_mixStreet_35 : decode b_Model_mixStreet 35 = .ok (.invokevirtual 192, 3) := by decide +kernel
theorem d_Model_mixStreet_38 : decode b_Model_mixStreet 38 = .ok (.i2l, 1) := by decide +kernel
theorem d_Model_mixStreet_39 : decode b_Model_mixStreet 39 = .ok (.invokevirtual 355, 3) := by decide +kernel
theorem d_Model_mixStreet_42 : decode b_Model_mixStreet 42 = .ok (.iconst 0, 1) := by decide +kernel
theorem d_Model_mixStreet_43 : decode b_Model_mixStreet 43 = .ok (.istore_n 1, 1) := by decide +kernel
theorem d_Model_mixStreet_44 : decode b_Model_mixStreet 44 = .ok (.iload_n 1, 1) := by decide +kernel
theorem d_Model_mixStreet_45 : decode b_Model_mixStreet 45 = .ok (.aload_n 0, 1) := by decide +kernel
theorem d_Model_mixStreet_46 : decode b_Model_mixStreet 46 = .ok (.getfield 176, 3) := by decide +kernel
theorem d_Model_mixStreet_49 : decode b_Model_mixStreet 49 = .ok (.if_icmp .ge 45, 3) := by decide +kernel
theorem d_Model_mixStreet_52 : decode b_Model_mixStreet 52 = .ok (.iconst 0, 1) := by decide +kernel
theorem d_Model_mixStreet_53 : decode b_Model_mixStreet 53 = .ok (.istore_n 2, 1) := by decide +kernel
theorem d_Model_mixStreet_54 : decode b_Model_mixStreet 54 = .ok (.iload_n 2, 1) := by decide +kernel
theorem d_Model_mixStreet_55 : decode b_Model_mixStreet 55 = .ok (.bipush 7, 2) := by decide +kernel
theorem d_Model_mixStreet_57 : decode b_Model_mixStreet 57 = .ok (.if_icmp .ge 20, 3) := by decide +kernel
theorem d_Model_mixStreet_60 : decode b_Model_mixStreet 60 = .ok (.aload_n 0, 1) := by decide +kernel
theorem d_Model_mixStreet_61 : decode b_Model_mixStreet 61 = .ok (.aload_n 0, 1) := by decide +kernel
theorem d_Model_mixStreet_62 : decode b_Model_mixStreet 62 = .ok (.iload_n 1, 1) := by decide +kernel
theorem d_Model_mixStreet_63 : decode b_Model_mixStreet 63 = .ok (.iload_n 2, 1) := by decide +kernel
theorem d_Model_mixStreet_64 : decode b_Model_mixStreet 64 = .ok (.invokevirtual 219, 3) := by decide +kernel
theorem d_Model_mixStreet_67 : decode b_Model_mixStreet 67 = .ok (.i2l, 1) := by decide +kernel
theorem d_Model_mixStreet_68 : decode b_Model_mixStreet 68 = .ok (.invokevirtual 355, 3) := by decide +kernel
theorem d_Model_mixStreet_71 : decode b_Model_mixStreet 71 = .ok (.iinc 2 1, 3) := by decide +kernel
theorem d_Model_mixStreet_74 : decode b_Model_mixStreet 74 = .ok (.goto (-20), 3) := by decide +kernel
theorem d_Model_mixStreet_77 : decode b_Model_mixStreet 77 = .ok (.aload_n 0, 1) := by decide +kernel
theorem d_Model_mixStreet_78 : decode b_Model_mixStreet 78 = .ok (.aload_n 0, 1) := by decide +kernel
theorem d_Model_mixStreet_79 : decode b_Model_mixStreet 79 = .ok (.getfield 41, 3) := by decide +kernel
theorem d_Model_mixStreet_82 : decode b_Model_mixStreet 82 = .ok (.iload_n 1, 1) := by decide +kernel
theorem d_Model_mixStreet_83 : decode b_Model_mixStreet 83 = .ok (.iaload, 1) := by decide +kernel
theorem d_Model_mixStreet_84 : decode b_Model_mixStreet 84 = .ok (.i2l, 1) := by decide +kernel
theorem d_Model_mixStreet_85 : decode b_Model_mixStreet 85 = .ok (.invokevirtual 355, 3) := by decide +kernel
theorem d_Model_mixStreet_88 : decode b_Model_mixStreet 88 = .ok (.iinc 1 1, 3) := by decide +kernel
theorem d_Model_mixStreet_91 : decode b_Model_mixStreet 91 = .ok (.goto (-47), 3) := by decide +kernel
theorem d_Model_mixStreet_94 : decode b_Model_mixStreet 94 = .ok (.iconst 0, 1) := by decide +kernel
theorem d_Model_mixStreet_95 : decode b_Model_mixStreet 95 = .ok (.istore_n 1, 1) := by decide +kernel
theorem d_Model_mixStreet_96 : decode b_Model_mixStreet 96 = .ok (.iload_n 1, 1) := by decide +kernel
theorem d_Model_mixStreet_97 : decode b_Model_mixStreet 97 = .ok (.aload_n 0, 1) := by decide +kernel
theorem d_Model_mixStreet_98 : decode b_Model_mixStreet 98 = .ok (.getfield 189, 3) := by decide +kernel
theorem d_Model_mixStreet_101 : decode b_Model_mixStreet 101 = .ok (.if_icmp .ge 26, 3) := by decide +kernel
theorem d_Model_mixStreet_104 : decode b_Model_mixStreet 104 = .ok (.aload_n 0, 1) := by decide +kernel
theorem d_Model_mixStreet_105 : decode b_Model_mixStreet 105 = .ok (.aload_n 0, 1) := by decide +kernel
theorem d_Model_mixStreet_106 : decode b_Model_mixStreet 106 = .ok (.getfield 56, 3) := by decide +kernel
theorem d_Model_mixStreet_109 : decode b_Model_mixStreet 109 = .ok (.bipush 27, 2) := by decide +kernel
theorem d_Model_mixStreet_111 : decode b_Model_mixStreet 111 = .ok (.iload_n 1, 1) := by decide +kernel
theorem d_Model_mixStreet_112 : decode b_Model_mixStreet 112 = .ok (.imul, 1) := by decide +kernel
theorem d_Model_mixStreet_113 : decode b_Model_mixStreet 113 = .ok (.bipush 26, 2) := by decide +kernel
theorem d_Model_mixStreet_115 : decode b_Model_mixStreet 115 = .ok (.iadd, 1) := by decide +kernel
theorem d_Model_mixStreet_116 : decode b_Model_mixStreet 116 = .ok (.iaload, 1) := by decide +kernel
theorem d_Model_mixStreet_117 : decode b_Model_mixStreet 117 = .ok (.i2l, 1) := by decide +kernel
theorem d_Model_mixStreet_118 : decode b_Model_mixStreet 118 = .ok (.invokevirtual 355, 3) := by decide +kernel
theorem d_Model_mixStreet_121 : decode b_Model_mixStreet 121 = .ok (.iinc 1 1, 3) := by decide +kernel
theorem d_Model_mixStreet_124 : decode b_Model_mixStreet 124 = .ok (.goto (-28), 3) := by decide +kernel
theorem d_Model_mixStreet_127 : decode b_Model_mixStreet 127 = .ok (.iconst 0, 1) := by decide +kernel
theorem d_Model_mixStreet_128 : decode b_Model_mixStreet 128 = .ok (.istore_n 1, 1) := by decide +kernel
theorem d_Model_mixStreet_129 : decode b_Model_mixStreet 129 = .ok (.iload_n 1, 1) := by decide +kernel
theorem d_Model_mixStreet_130 : decode b_Model_mixStreet 130 = .ok (.iconst 3, 1) := by decide +kernel
theorem d_Model_mixStreet_131 : decode b_Model_mixStreet 131 = .ok (.if_icmp .ge 34, 3) := by decide +kernel
theorem d_Model_mixStreet_134 : decode b_Model_mixStreet 134 = .ok (.aload_n 0, 1) := by decide +kernel
theorem d_Model_mixStreet_135 : decode b_Model_mixStreet 135 = .ok (.aload_n 0, 1) := by decide +kernel
theorem d_Model_mixStreet_136 : decode b_Model_mixStreet 136 = .ok (.iload_n 1, 1) := by decide +kernel
theorem d_Model_mixStreet_137 : decode b_Model_mixStreet 137 = .ok (.invokevirtual 239, 3) := by decide +kernel
theorem d_Model_mixStreet_140 : decode b_Model_mixStreet 140 = .ok (.ifCond .eq 13, 3) := by decide +kernel
theorem d_Model_mixStreet_143 : decode b_Model_mixStreet 143 = .ok (.aload_n 0, 1) := by decide +kernel
theorem d_Model_mixStreet_144 : decode b_Model_mixStreet 144 = .ok (.getfield 59, 3) := by decide +kernel
theorem d_Model_mixStreet_147 : decode b_Model_mixStreet 147 = .ok (.iload_n 1, 1) := by decide +kernel
theorem d_Model_mixStreet_148 : decode b_Model_mixStreet 148 = .ok (.iaload, 1) := by decide +kernel
theorem d_Model_mixStreet_149 : decode b_Model_mixStreet 149 = .ok (.i2l, 1) := by decide +kernel
theorem d_Model_mixStreet_150 : decode b_Model_mixStreet 150 = .ok (.goto 6, 3) := by decide +kernel
theorem d_Model_mixStreet_153 : decode b_Model_mixStreet 153 = .ok (.ldc2_w 359, 3) := by decide +kernel
theorem d_Model_mixStreet_156 : decode b_Model_mixStreet 156 = .ok (.invokevirtual 355, 3) := by decide +kernel
theorem d_Model_mixStreet_159 : decode b_Model_mixStreet 159 = .ok (.iinc 1 1, 3) := by decide +kernel
theorem d_Model_mixStreet_162 : decode b_Model_mixStreet 162 = .ok (.goto (-33), 3) := by decide +kernel
theorem d_Model_mixStreet_165 : decode b_Model_mixStreet 165 = .ok (.return_, 1) := by decide +kernel
abbrev b_Model_digest : ByteArray := prog_11_method_100_code
abbrev y_Model_digest : MethodName := ⟨"RiverTuesdaysModel", "digest", "()J"⟩
theorem ok_Model_digest : okV y_Model_digest b_Model_digest 3 (some .long) 0 9 := ⟨mGW (List.mem_of_getElem? (i := 1596) (by decide +kernel)) rfl, mGW (List.mem_of_getElem? (i := 1597) (by decide +kernel)) rfl, mGW (List.mem_of_getElem? (i := 83) (by decide +kernel)) rfl, mGW (List.mem_of_getElem? (i := 1598) (by decide +kernel)) rfl, ⟨by decide, by decide, by decide +kernel⟩, rfl⟩
theorem d_Model_digest_0 : decode b_Model_digest 0 = .ok (.aload_n 0, 1) := by decide +kernel
theorem d_Model_digest_1 : decode b_Model_digest 1 = .ok (.ldc2_w 361, 3) := by decide +kernel
theorem d_Model_digest_4 : decode b_Model_digest 4 = .ok (.putfield 351, 3) := by decide +kernel
theorem d_Model_digest_7 : decode b_Model_digest 7 = .ok (.iconst 0, 1) := by decide +kernel
theorem d_Model_digest_8 : decode b_Model_digest 8 = .ok (.istore_n 1, 1) := by decide +kernel
theorem d_Model_digest_9 : decode b_Model_digest 9 = .ok (.iload_n 1, 1) := by decide +kernel
theorem d_Model_digest_10 : decode b_Model_digest 10 = .ok (.bipush 8, 2) := by decide +kernel
theorem d_Model_digest_12 : decode b_Model_digest 12 = .ok (.if_icmp .ge 19, 3) := by decide +kernel
theorem d_Model_digest_15 : decode b_Model_digest 15 = .ok (.aload_n 0, 1) := by decide +kernel
theorem d_Model_digest_16 : decode b_Model_digest 16 = .ok (.aload_n 0, 1) := by decide +kernel
theorem d_Model_digest_17 : decode b_Model_digest 17 = .ok (.iload_n 1, 1) := by decide +kernel
theorem d_Model_digest_18 : decode b_Model_digest 18 = .ok (.invokevirtual 346, 3) := by decide +kernel
theorem d_Model_digest_21 : decode b_Model_digest 21 = .ok (.i2l, 1) := by decide +kernel
theorem d_Model_digest_22 : decode b_Model_digest 22 = .ok (.invokevirtual 355, 3) := by decide +kernel
theorem d_Model_digest_25 : decode b_Model_digest 25 = .ok (.iinc 1 1, 3) := by decide +kernel
theorem d_Model_digest_28 : decode b_Model_digest 28 = .ok (.goto (-19), 3) := by decide +kernel
theorem d_Model_digest_31 : decode b_Model_digest 31 = .ok (.aload_n 0, 1) := by decide +kernel
theorem d_Model_digest_32 : decode b_Model_digest 32 = .ok (.invokevirtual 363, 3) := by decide +kernel
theorem d_Model_digest_35 : decode b_Model_digest 35 = .ok (.iconst 0, 1) := by decide +kernel
theorem d_Model_digest_36 : decode b_Model_digest 36 = .ok (.istore_n 1, 1) := by decide +kernel
theorem d_Model_digest_37 : decode b_Model_digest 37 = .ok (.iload_n 1, 1) := by decide +kernel
theorem d_Model_digest_38 : decode b_Model_digest 38 = .ok (.bipush 6, 2) := by decide +kernel
theorem d_Model_digest_40 : decode b_Model_digest 40 = .ok (.if_icmp .ge 49, 3) := by decide +kernel
theorem d_Model_digest_43 : decode b_Model_digest 43 = .ok (.aload_n 0, 1) := by decide +kernel
theorem d_Model_digest_44 : decode b_Model_digest 44 = .ok (.aload_n 0, 1) := by decide +kernel
theorem d_Model_digest_45 : decode b_Model_digest 45 = .ok (.getfield 13, 3) := by decide +kernel
theorem d_Model_digest_48 : decode b_Model_digest 48 = .ok (.iload_n 1, 1) := by decide +kernel
theorem d_Model_digest_49 : decode b_Model_digest 49 = .ok (.iaload, 1) := by decide +kernel
theorem d_Model_digest_50 : decode b_Model_digest 50 = .ok (.i2l, 1) := by decide +kernel
theorem d_Model_digest_51 : decode b_Model_digest 51 = .ok (.invokevirtual 355, 3) := by decide +kernel
theorem d_Model_digest_54 : decode b_Model_digest 54 = .ok (.iconst 0, 1) := by decide +kernel
theorem d_Model_digest_55 : decode b_Model_digest 55 = .ok (.istore_n 2, 1) := by decide +kernel
theorem d_Model_digest_56 : decode b_Model_digest 56 = .ok (.iload_n 2, 1) := by decide +kernel
theorem d_Model_digest_57 : decode b_Model_digest 57 = .ok (.aload_n 0, 1) := by decide +kernel
theorem d_Model_digest_58 : decode b_Model_digest 58 = .ok (.getfield 13, 3) := by decide +kernel
theorem d_Model_digest_61 : decode b_Model_digest 61 = .ok (.iload_n 1, 1) := by decide +kernel
theorem d_Model_digest_62 : decode b_Model_digest 62 = .ok (.iaload, 1) := by decide +kernel
theorem d_Model_digest_63 : decode b_Model_digest 63 = .ok (.if_icmp .ge 20, 3) := by decide +kernel
theorem d_Model_digest_66 : decode b_Model_digest 66 = .ok (.aload_n 0, 1) := by decide +kernel
theorem d_Model_digest_67 : decode b_Model_digest 67 = .ok (.aload_n 0, 1) := by decide +kernel
theorem d_Model_digest_68 : decode b_Model_digest 68 = .ok (.iload_n 1, 1) := by decide +kernel
theorem d_Model_digest_69 : decode b_Model_digest 69 = .ok (.iload_n 2, 1) := by decide +kernel
theorem d_Model_digest_70 : decode b_Model_digest 70 = .ok (.invokevirtual 133, 3) := by decide +kernel
theorem d_Model_digest_73 : decode b_Model_digest 73 = .ok (.i2l, 1) := by decide +kernel
theorem d_Model_digest_74 : decode b_Model_digest 74 = .ok (.invokevirtual 355, 3) := by decide +kernel
theorem d_Model_digest_77 : decode b_Model_digest 77 = .ok (.iinc 2 1, 3) := by decide +kernel
theorem d_Model_digest_80 : decode b_Model_digest 80 = .ok (.goto (-24), 3) := by decide +kernel
theorem d_Model_digest_83 : decode b_Model_digest 83 = .ok (.iinc 1 1, 3) := by decide +kernel
theorem d_Model_digest_86 : decode b_Model_digest 86 = .ok (.goto (-49), 3) := by decide +kernel
theorem d_Model_digest_89 : decode b_Model_digest 89 = .ok (.iconst 0, 1) := by decide +kernel
theorem d_Model_digest_90 : decode b_Model_digest 90 = .ok (.istore_n 1, 1) := by decide +kernel
theorem d_Model_digest_91 : decode b_Model_digest 91 = .ok (.iload_n 1, 1) := by decide +kernel
theorem d_Model_digest_92 : decode b_Model_digest 92 = .ok (.iconst 4, 1) := by decide +kernel
theorem d_Model_digest_93 : decode b_Model_digest 93 = .ok (.if_icmp .ge 49, 3) := by decide +kernel
theorem d_Model_digest_96 : decode b_Model_digest 96 = .ok (.aload_n 0, 1) := by decide +kernel
theorem d_Model_digest_97 : decode b_Model_digest 97 = .ok (.aload_n 0, 1) := by decide +kernel
theorem d_Model_digest_98 : decode b_Model_digest 98 = .ok (.getfield 22, 3) := by decide +kernel
theorem d_Model_digest_101 : decode b_Model_digest 101 = .ok (.iload_n 1, 1) := by decide +kernel
theorem d_Model_digest_102 : decode b_Model_digest 102 = .ok (.iaload, 1) := by decide +kernel
theorem d_Model_digest_103 : decode b_Model_digest 103 = .ok (.i2l, 1) := by decide +kernel
theorem d_Model_digest_104 : decode b_Model_digest 104 = .ok (.invokevirtual 355, 3) := by decide +kernel
theorem d_Model_digest_107 : decode b_Model_digest 107 = .ok (.iconst 0, 1) := by decide +kernel
theorem d_Model_digest_108 : decode b_Model_digest 108 = .ok (.istore_n 2, 1) := by decide +kernel
theorem d_Model_digest_109 : decode b_Model_digest 109 = .ok (.iload_n 2, 1) := by decide +kernel
theorem d_Model_digest_110 : decode b_Model_digest 110 = .ok (.aload_n 0, 1) := by decide +kernel
theorem d_Model_digest_111 : decode b_Model_digest 111 = .ok (.getfield 22, 3) := by decide +kernel
theorem d_Model_digest_114 : decode b_Model_digest 114 = .ok (.iload_n 1, 1) := by decide +kernel
theorem d_Model_digest_115 : decode b_Model_digest 115 = .ok (.iaload, 1) := by decide +kernel
theorem d_Model_digest_116 : decode b_Model_digest 116 = .ok (.if_icmp .ge 20, 3) := by decide +kernel
theorem d_Model_digest_119 : decode b_Model_digest 119 = .ok (.aload_n 0, 1) := by decide +kernel
theorem d_Model_digest_120 : decode b_Model_digest 120 = .ok (.aload_n 0, 1) := by decide +kernel
theorem d_Model_digest_121 : decode b_Model_digest 121 = .ok (.iload_n 1, 1) := by decide +kernel
theorem d_Model_digest_122 : decode b_Model_digest 122 = .ok (.iload_n 2, 1) := by decide +kernel
theorem d_Model_digest_123 : decode b_Model_digest 123 = .ok (.invokevirtual 146, 3) := by decide +kernel
theorem d_Model_digest_126 : decode b_Model_digest 126 = .ok (.i2l, 1) := by decide +kernel
theorem d_Model_digest_127 : decode b_Model_digest 127 = .ok (.invokevirtual 355, 3) := by decide +kernel
theorem d_Model_digest_130 : decode b_Model_digest 130 = .ok (.iinc 2 1, 3) := by decide +kernel
theorem d_Model_digest_133 : decode b_Model_digest 133 = .ok (.goto (-24), 3) := by decide +kernel
theorem d_Model_digest_136 : decode b_Model_digest 136 = .ok (.iinc 1 1, 3) := by decide +kernel
theorem d_Model_digest_139 : decode b_Model_digest 139 = .ok (.goto (-48), 3) := by decide +kernel
theorem d_Model_digest_142 : decode b_Model_digest 142 = .ok (.aload_n 0, 1) := by decide +kernel
theorem d_Model_digest_143 : decode b_Model_digest 143 = .ok (.getfield 351, 3) := by decide +kernel
theorem d_Model_digest_146 : decode b_Model_digest 146 = .ok (.lreturn, 1) := by decide +kernel
def b_Model_years_250 (k206 : Int32 → Int32 → Int32 → Dt → Option (Int32 × Dt)) (v5 : Int32) (v7 : Int32) (s0 : Int32) (D : Dt) : Option (Int32 × Dt) :=
  k206 v5 s0 (v7 + 1) D
set_option maxHeartbeats 4000000 in
theorem tb_Model_years_250 {Γ : GmT} {G : Dt → Nat → List (Nat × Value) → List Value → Prop} {rr : Int32} {DD : Dt} (C : Cx Γ "RiverTuesdaysModel" b_Model_years 8 6 (some .int) (some (.int rr)) DD G) {k206 : Int32 → Int32 → Int32 → Dt → Option (Int32 × Dt)} (hk206 : ∀ (v5 : Int32) (v6 : Int32) (v7 : Int32) (D : Dt), k206 v5 v6 v7 D = some (rr, DD) → G D 206 [(0, .ref (Γ.2.1 176)), (5, .int v5), (6, .int v6), (7, .int v7)] []) {v5 : Int32} {v7 : Int32} {s0 : Int32} {D : Dt} (hf : b_Model_years_250 k206 v5 v7 s0 D = some (rr, DD)) : G D 250 [(0, .ref (Γ.2.1 176)), (5, .int v5), (7, .int v7)] [.int s0] := by
  unfold b_Model_years_250 at hf
  refine r_istore (pc := 250) (lv' := [(6, .int s0), (0, .ref (Γ.2.1 176)), (5, .int v5), (7, .int v7)]) C d_Model_years_250 (Nat.le_of_ble_eq_true rfl) rfl ?_
  refine r_iinc (pc := 252) C (v := v7 + 1) (lv' := [(7, .int (v7 + 1)), (6, .int s0), (0, .ref (Γ.2.1 176)), (5, .int v5)]) 3 d_Model_years_252 rfl rfl (Nat.le_of_ble_eq_true rfl) rfl ?_
  refine r_goto (pc := 255) C (tgt := 206) d_Model_years_255 (by decide) ?_
  exact r_lv (pc := 206) C [2, 3, 1, 0] rfl (hk206 v5 s0 (v7 + 1) D hf)
def b_Model_years_240 (k206 : Int32 → Int32 → Int32 → Dt → Option (Int32 × Dt)) (v5 : Int32) (v6 : Int32) (v7 : Int32) (s0 : Int32) (s1 : Int32) (D : Dt) : Option (Int32 × Dt) :=
  (if s1 ≤ s0 then b_Model_years_250 k206 v5 v7 v6 D else b_Model_years_250 k206 v5 v7 v7 D)
set_option maxHeartbeats 4000000 in
theorem tb_Model_years_240 {Γ : GmT} {G : Dt → Nat → List (Nat × Value) → List Value → Prop} {rr : Int32} {DD : Dt} (C : Cx Γ "RiverTuesdaysModel" b_Model_years 8 6 (some .int) (some (.int rr)) DD G) {k206 : Int32 → Int32 → Int32 → Dt → Option (Int32 × Dt)} (hk206 : ∀ (v5 : Int32) (v6 : Int32) (v7 : Int32) (D : Dt), k206 v5 v6 v7 D = some (rr, DD) → G D 206 [(0, .ref (Γ.2.1 176)), (5, .int v5), (6, .int v6), (7, .int v7)] []) {v5 : Int32} {v6 : Int32} {v7 : Int32} {s0 : Int32} {s1 : Int32} {D : Dt} (hf : b_Model_years_240 k206 v5 v6 v7 s0 s1 D = some (rr, DD)) : G D 240 [(0, .ref (Γ.2.1 176)), (5, .int v5), (6, .int v6), (7, .int v7)] [.int s0, .int s1] := by
  unfold b_Model_years_240 at hf
  refine r_icmp_le (pc := 240) C (tgt := 248) d_Model_years_240 (by decide) hf (fun c240 hf => ?_) (fun c240 hf => ?_)
  · refine r_iload (pc := 248) C 2 d_Model_years_248 rfl ?_
    exact r_lv (pc := 250) C [0, 1, 3] rfl (tb_Model_years_250 C hk206 hf)
  · refine r_iload (pc := 243) C 3 d_Model_years_243 rfl ?_
    refine r_goto (pc := 245) C (tgt := 250) d_Model_years_245 (by decide) ?_
    exact r_lv (pc := 250) C [0, 1, 3] rfl (tb_Model_years_250 C hk206 hf)
def s_Model_years_206 (k206 : Int32 → Int32 → Int32 → Dt → Option (Int32 × Dt)) (v5 : Int32) (v6 : Int32) (v7 : Int32) (D : Dt) : Option (Int32 × Dt) :=
  (if (D 176 10) ≤ v7 then bnd (f_Model_tells v6 v5 D) (fun x5 D6 => some (x5, D6)) else (if inb v7 8 = true then (if v6 = (-9) then b_Model_years_240 k206 v5 v6 v7 0 (D 210 v7.toNatClampNeg) D else (if inb v6 8 = true then b_Model_years_240 k206 v5 v6 v7 (D 210 v6.toNatClampNeg) (D 210 v7.toNatClampNeg) D else none)) else none))
def lp_Model_years_206 (n : Nat) : Int32 → Int32 → Int32 → Dt → Option (Int32 × Dt) := itr (fun _ _ _ _ => none) (s_Model_years_206) n
set_option maxHeartbeats 4000000 in
theorem ts_Model_years_206 {Γ : GmT} {G : Dt → Nat → List (Nat × Value) → List Value → Prop} {rr : Int32} {DD : Dt} (C : Cx Γ "RiverTuesdaysModel" b_Model_years 8 6 (some .int) (some (.int rr)) DD G) {k206 : Int32 → Int32 → Int32 → Dt → Option (Int32 × Dt)} (hk206 : ∀ (v5 : Int32) (v6 : Int32) (v7 : Int32) (D : Dt), k206 v5 v6 v7 D = some (rr, DD) → G D 206 [(0, .ref (Γ.2.1 176)), (5, .int v5), (6, .int v6), (7, .int v7)] []) {v5 : Int32} {v6 : Int32} {v7 : Int32} {D : Dt} (hf : s_Model_years_206 k206 v5 v6 v7 D = some (rr, DD)) : G D 206 [(0, .ref (Γ.2.1 176)), (5, .int v5), (6, .int v6), (7, .int v7)] [] := by
  unfold s_Model_years_206 at hf
  refine r_iload (pc := 206) C 3 d_Model_years_206 rfl ?_
  refine r_aload_n (pc := 208) C 0 d_Model_years_208 rfl rfl ?_
  refine g_Model_n (pc := 209) C k_id176 Lf_Model_176 d_Model_years_209 ?_
  refine r_icmp_ge (pc := 212) C (tgt := 258) d_Model_years_212 (by decide) hf (fun c212 hf => ?_) (fun c212 hf => ?_)
  · refine r_aload_n (pc := 258) C 0 d_Model_years_258 rfl rfl ?_
    refine r_iload (pc := 259) C 2 d_Model_years_259 rfl ?_
    refine r_iload (pc := 261) C 1 d_Model_years_261 rfl ?_
    refine r_callVi (pc := 263) (As := [.int v6, .int v5]) (rest := []) C ok_Model_tells Lm_Model_137 k_id176 (by decide) ⟨by decide, by decide⟩ rfl rfl (Nat.le_of_ble_eq_true rfl) d_Model_years_263 hf (fun x D1 hc => c_Model_tells Γ hc) (fun x5 D6 hf => ?_)
    exact r_iret (pc := 266) C d_Model_years_266 hf
  · refine r_aload_n (pc := 215) C 0 d_Model_years_215 rfl rfl ?_
    refine g_Model_wetTimes (pc := 216) C k_id176 Lf_Model_111 d_Model_years_216 ?_
    refine r_iload (pc := 219) C 3 d_Model_years_219 rfl ?_
    refine r_iald (pc := 221) C kq_Model_wetTimes d_Model_years_221 hf (fun hf => ?_)
    refine r_iload (pc := 222) C 2 d_Model_years_222 rfl ?_
    refine r_bipush (pc := 224) C (v := (-9)) d_Model_years_224 (by decide) ?_
    refine r_icmp_ne (pc := 226) C (tgt := 233) d_Model_years_226 (by decide) hf (fun c226 hf => ?_) (fun c226 hf => ?_)
    · refine r_aload_n (pc := 233) C 0 d_Model_years_233 rfl rfl ?_
      refine g_Model_wetTimes (pc := 234) C k_id176 Lf_Model_111 d_Model_years_234 ?_
      refine r_iload (pc := 237) C 2 d_Model_years_237 rfl ?_
      refine r_iald (pc := 239) C kq_Model_wetTimes d_Model_years_239 hf (fun hf => ?_)
      exact r_lv (pc := 240) C [0, 1, 2, 3] rfl (tb_Model_years_240 C hk206 hf)
    · refine r_iconst (pc := 229) C (v := 0) d_Model_years_229 (by decide) ?_
      refine r_goto (pc := 230) C (tgt := 240) d_Model_years_230 (by decide) ?_
      exact r_lv (pc := 240) C [0, 1, 2, 3] rfl (tb_Model_years_240 C hk206 hf)
theorem tl_Model_years_206 {Γ : GmT} {G : Dt → Nat → List (Nat × Value) → List Value → Prop} {rr : Int32} {DD : Dt} (C : Cx Γ "RiverTuesdaysModel" b_Model_years 8 6 (some .int) (some (.int rr)) DD G) : ∀ (n : Nat) (v5 : Int32) (v6 : Int32) (v7 : Int32) (D : Dt), lp_Model_years_206 n v5 v6 v7 D = some (rr, DD) → G D 206 [(0, .ref (Γ.2.1 176)), (5, .int v5), (6, .int v6), (7, .int v7)] [] := by
  intro n
  induction n with
  | zero =>
    intro v5 v6 v7 D hf
    exact absurd (show (none : Option (Int32 × Dt)) = some (rr, DD) from hf) (by simp)
  | succ n ih =>
    intro v5 v6 v7 D hf
    exact ts_Model_years_206 C (k206 := lp_Model_years_206 n) ih hf
def b_Model_years_185 (k84 : Int32 → Int64 → Int32 → Int32 → Dt → Option (Int32 × Dt)) (k151 : Int32 → Int64 → Int32 → Int32 → Int32 → Dt → Option (Int32 × Dt)) (v1 : Int32) (v3 : Int64) (v5 : Int32) (v6 : Int32) (v7 : Int32) (s0 : Int32) (s1 : Int32) (s2 : Int32) (rs3 : Nat) (D : Dt) : Option (Int32 × Dt) :=
  (if inb s2 8 = true then nm (wr D rs3 s2.toNatClampNeg (s1 + s0)) (fun D11 => k151 v1 v3 v5 v6 (v7 + 1) D11) else none)
set_option maxHeartbeats 4000000 in
theorem tb_Model_years_185 {Γ : GmT} {G : Dt → Nat → List (Nat × Value) → List Value → Prop} {rr : Int32} {DD : Dt} (C : Cx Γ "RiverTuesdaysModel" b_Model_years 8 6 (some .int) (some (.int rr)) DD G) {k84 : Int32 → Int64 → Int32 → Int32 → Dt → Option (Int32 × Dt)} {k151 : Int32 → Int64 → Int32 → Int32 → Int32 → Dt → Option (Int32 × Dt)} (hk84 : ∀ (v1 : Int32) (v3 : Int64) (v5 : Int32) (v6 : Int32) (D : Dt), k84 v1 v3 v5 v6 D = some (rr, DD) → G D 84 [(0, .ref (Γ.2.1 176)), (1, .int v1), (3, .long v3), (5, .int v5), (6, .int v6)] []) (hk151 : ∀ (v1 : Int32) (v3 : Int64) (v5 : Int32) (v6 : Int32) (v7 : Int32) (D : Dt), k151 v1 v3 v5 v6 v7 D = some (rr, DD) → G D 151 [(0, .ref (Γ.2.1 176)), (1, .int v1), (3, .long v3), (5, .int v5), (6, .int v6), (7, .int v7)] []) {v1 : Int32} {v3 : Int64} {v5 : Int32} {v6 : Int32} {v7 : Int32} {s0 : Int32} {s1 : Int32} {s2 : Int32} {rs3 : Nat} (hrs3 : isA 11 rs3 8) {D : Dt} (hf : b_Model_years_185 k84 k151 v1 v3 v5 v6 v7 s0 s1 s2 rs3 D = some (rr, DD)) : G D 185 [(0, .ref (Γ.2.1 176)), (1, .int v1), (3, .long v3), (5, .int v5), (6, .int v6), (7, .int v7)] [.int s0, .int s1, .int s2, .ref (Γ.2.1 rs3)] := by
  unfold b_Model_years_185 at hf
  refine r_iadd (pc := 185) C d_Model_years_185 ?_
  refine r_iast (pc := 186) C hrs3 d_Model_years_186 hf (fun hf => ?_)
  refine r_nmD hf (fun D11 hf => ?_)
  refine r_iinc (pc := 187) C (v := v7 + 1) (lv' := [(7, .int (v7 + 1)), (0, .ref (Γ.2.1 176)), (1, .int v1), (3, .long v3), (5, .int v5), (6, .int v6)]) 5 d_Model_years_187 rfl rfl (Nat.le_of_ble_eq_true rfl) rfl ?_
  refine r_goto (pc := 190) C (tgt := 151) d_Model_years_190 (by decide) ?_
  exact r_lv (pc := 151) C [1, 2, 3, 4, 5, 0] rfl (hk151 v1 v3 v5 v6 (v7 + 1) D11 hf)
def s_Model_years_151 (k84 : Int32 → Int64 → Int32 → Int32 → Dt → Option (Int32 × Dt)) (k151 : Int32 → Int64 → Int32 → Int32 → Int32 → Dt → Option (Int32 × Dt)) (v1 : Int32) (v3 : Int64) (v5 : Int32) (v6 : Int32) (v7 : Int32) (D : Dt) : Option (Int32 × Dt) :=
  (if (D 176 10) ≤ v7 then k84 v1 v3 v5 (v6 + 1) D else (if inb v7 8 = true then bnd (f_Model_has (D 176 37) v7 D) (fun x9 D10 => (if x9 = 0 then b_Model_years_185 k84 k151 v1 v3 v5 v6 v7 0 (D 210 v7.toNatClampNeg) v7 210 D10 else b_Model_years_185 k84 k151 v1 v3 v5 v6 v7 1 (D 210 v7.toNatClampNeg) v7 210 D10)) else none))
def lp_Model_years_151 (k84 : Int32 → Int64 → Int32 → Int32 → Dt → Option (Int32 × Dt)) (n : Nat) : Int32 → Int64 → Int32 → Int32 → Int32 → Dt → Option (Int32 × Dt) := itr (fun _ _ _ _ _ _ => none) (s_Model_years_151 k84) n
set_option maxHeartbeats 4000000 in
theorem ts_Model_years_151 {Γ : GmT} {G : Dt → Nat → List (Nat × Value) → List Value → Prop} {rr : Int32} {DD : Dt} (C : Cx Γ "RiverTuesdaysModel" b_Model_years 8 6 (some .int) (some (.int rr)) DD G) {k84 : Int32 → Int64 → Int32 → Int32 → Dt → Option (Int32 × Dt)} (hk84 : ∀ (v1 : Int32) (v3 : Int64) (v5 : Int32) (v6 : Int32) (D : Dt), k84 v1 v3 v5 v6 D = some (rr, DD) → G D 84 [(0, .ref (Γ.2.1 176)), (1, .int v1), (3, .long v3), (5, .int v5), (6, .int v6)] []) {k151 : Int32 → Int64 → Int32 → Int32 → Int32 → Dt → Option (Int32 × Dt)} (hk151 : ∀ (v1 : Int32) (v3 : Int64) (v5 : Int32) (v6 : Int32) (v7 : Int32) (D : Dt), k151 v1 v3 v5 v6 v7 D = some (rr, DD) → G D 151 [(0, .ref (Γ.2.1 176)), (1, .int v1), (3, .long v3), (5, .int v5), (6, .int v6), (7, .int v7)] []) {v1 : Int32} {v3 : Int64} {v5 : Int32} {v6 : Int32} {v7 : Int32} {D : Dt} (hf : s_Model_years_151 k84 k151 v1 v3 v5 v6 v7 D = some (rr, DD)) : G D 151 [(0, .ref (Γ.2.1 176)), (1, .int v1), (3, .long v3), (5, .int v5), (6, .int v6), (7, .int v7)] [] := by
  unfold s_Model_years_151 at hf
  refine r_iload (pc := 151) C 5 d_Model_years_151 rfl ?_
  refine r_aload_n (pc := 153) C 0 d_Model_years_153 rfl rfl ?_
  refine g_Model_n (pc := 154) C k_id176 Lf_Model_176 d_Model_years_154 ?_
  refine r_icmp_ge (pc := 157) C (tgt := 193) d_Model_years_157 (by decide) hf (fun c157 hf => ?_) (fun c157 hf => ?_)
  · refine r_iinc (pc := 193) C (v := v6 + 1) (lv' := [(6, .int (v6 + 1)), (0, .ref (Γ.2.1 176)), (1, .int v1), (3, .long v3), (5, .int v5), (7, .int v7)]) 4 d_Model_years_193 rfl rfl (Nat.le_of_ble_eq_true rfl) rfl ?_
    refine r_goto (pc := 196) C (tgt := 84) d_Model_years_196 (by decide) ?_
    exact r_lv (pc := 84) C [1, 2, 3, 4, 0] rfl (hk84 v1 v3 v5 (v6 + 1) D hf)
  · refine r_aload_n (pc := 160) C 0 d_Model_years_160 rfl rfl ?_
    refine g_Model_wetTimes (pc := 161) C k_id176 Lf_Model_111 d_Model_years_161 ?_
    refine r_iload (pc := 164) C 5 d_Model_years_164 rfl ?_
    refine r_dup2 (pc := 166) C d_Model_years_166 rfl rfl ?_
    refine r_iald (pc := 167) C kq_Model_wetTimes d_Model_years_167 hf (fun hf => ?_)
    refine r_aload_n (pc := 168) C 0 d_Model_years_168 rfl rfl ?_
    refine g_Model_wetSet (pc := 169) C k_id176 Lf_Model_245 d_Model_years_169 ?_
    refine r_iload (pc := 172) C 5 d_Model_years_172 rfl ?_
    refine r_callSi (pc := 174) (As := [.int (D 176 37), .int v7]) (rest := [.int (D 210 v7.toNatClampNeg), .int v7, .ref (Γ.2.1 210)]) C ok_Model_has Lm_Model_248 ⟨by decide, by decide⟩ rfl rfl (Nat.le_of_ble_eq_true rfl) d_Model_years_174 hf (fun x D1 hc => c_Model_has Γ hc) (fun x9 D10 hf => ?_)
    refine r_if_eq (pc := 177) C (tgt := 184) d_Model_years_177 (by decide) hf (fun c177 hf => ?_) (fun c177 hf => ?_)
    · refine r_iconst (pc := 184) C (v := 0) d_Model_years_184 (by decide) ?_
      exact r_lv (pc := 185) C [0, 1, 2, 3, 4, 5] rfl (tb_Model_years_185 C hk84 hk151 kq_Model_wetTimes hf)
    · refine r_iconst (pc := 180) C (v := 1) d_Model_years_180 (by decide) ?_
      refine r_goto (pc := 181) C (tgt := 185) d_Model_years_181 (by decide) ?_
      exact r_lv (pc := 185) C [0, 1, 2, 3, 4, 5] rfl (tb_Model_years_185 C hk84 hk151 kq_Model_wetTimes hf)
theorem tl_Model_years_151 {Γ : GmT} {G : Dt → Nat → List (Nat × Value) → List Value → Prop} {rr : Int32} {DD : Dt} (C : Cx Γ "RiverTuesdaysModel" b_Model_years 8 6 (some .int) (some (.int rr)) DD G) {k84 : Int32 → Int64 → Int32 → Int32 → Dt → Option (Int32 × Dt)} (hk84 : ∀ (v1 : Int32) (v3 : Int64) (v5 : Int32) (v6 : Int32) (D : Dt), k84 v1 v3 v5 v6 D = some (rr, DD) → G D 84 [(0, .ref (Γ.2.1 176)), (1, .int v1), (3, .long v3), (5, .int v5), (6, .int v6)] []) : ∀ (n : Nat) (v1 : Int32) (v3 : Int64) (v5 : Int32) (v6 : Int32) (v7 : Int32) (D : Dt), lp_Model_years_151 k84 n v1 v3 v5 v6 v7 D = some (rr, DD) → G D 151 [(0, .ref (Γ.2.1 176)), (1, .int v1), (3, .long v3), (5, .int v5), (6, .int v6), (7, .int v7)] [] := by
  intro n
  induction n with
  | zero =>
    intro v1 v3 v5 v6 v7 D hf
    exact absurd (show (none : Option (Int32 × Dt)) = some (rr, DD) from hf) (by simp)
  | succ n ih =>
    intro v1 v3 v5 v6 v7 D hf
    exact ts_Model_years_151 C hk84 (k151 := lp_Model_years_151 k84 n) ih hf
def s_Model_years_103 (k84 : Int32 → Int64 → Int32 → Int32 → Dt → Option (Int32 × Dt)) (k103 : Int32 → Int64 → Int32 → Int32 → Int32 → Dt → Option (Int32 × Dt)) (v1 : Int32) (v3 : Int64) (v5 : Int32) (v6 : Int32) (v7 : Int32) (D : Dt) : Option (Int32 × Dt) :=
  (if (D 176 10) ≤ v7 then (if (256 : Int64) = 0 then none else bnd (f_Model_runAside ((v3 % 256).toInt32) D) (fun x7 D8 => lp_Model_years_151 k84 FU v1 v3 (v5 + (D8 176 35)) v6 0 D8)) else bnd (f_Model_place 1 (8 + v7) 0 D) (fun x12 D13 => k103 v1 v3 v5 v6 (v7 + 1) D13))
def lp_Model_years_103 (k84 : Int32 → Int64 → Int32 → Int32 → Dt → Option (Int32 × Dt)) (n : Nat) : Int32 → Int64 → Int32 → Int32 → Int32 → Dt → Option (Int32 × Dt) := itr (fun _ _ _ _ _ _ => none) (s_Model_years_103 k84) n
set_option maxHeartbeats 4000000 in
theorem ts_Model_years_103 {Γ : GmT} {G : Dt → Nat → List (Nat × Value) → List Value → Prop} {rr : Int32} {DD : Dt} (C : Cx Γ "RiverTuesdaysModel" b_Model_years 8 6 (some .int) (some (.int rr)) DD G) {k84 : Int32 → Int64 → Int32 → Int32 → Dt → Option (Int32 × Dt)} (hk84 : ∀ (v1 : Int32) (v3 : Int64) (v5 : Int32) (v6 : Int32) (D : Dt), k84 v1 v3 v5 v6 D = some (rr, DD) → G D 84 [(0, .ref (Γ.2.1 176)), (1, .int v1), (3, .long v3), (5, .int v5), (6, .int v6)] []) {k103 : Int32 → Int64 → Int32 → Int32 → Int32 → Dt → Option (Int32 × Dt)} (hk103 : ∀ (v1 : Int32) (v3 : Int64) (v5 : Int32) (v6 : Int32) (v7 : Int32) (D : Dt), k103 v1 v3 v5 v6 v7 D = some (rr, DD) → G D 103 [(0, .ref (Γ.2.1 176)), (1, .int v1), (3, .long v3), (5, .int v5), (6, .int v6), (7, .int v7)] []) {v1 : Int32} {v3 : Int64} {v5 : Int32} {v6 : Int32} {v7 : Int32} {D : Dt} (hf : s_Model_years_103 k84 k103 v1 v3 v5 v6 v7 D = some (rr, DD)) : G D 103 [(0, .ref (Γ.2.1 176)), (1, .int v1), (3, .long v3), (5, .int v5), (6, .int v6), (7, .int v7)] [] := by
  unfold s_Model_years_103 at hf
  refine r_iload (pc := 103) C 5 d_Model_years_103 rfl ?_
  refine r_aload_n (pc := 105) C 0 d_Model_years_105 rfl rfl ?_
  refine g_Model_n (pc := 106) C k_id176 Lf_Model_176 d_Model_years_106 ?_
  refine r_icmp_ge (pc := 109) C (tgt := 129) d_Model_years_109 (by decide) hf (fun c109 hf => ?_) (fun c109 hf => ?_)
  · refine r_aload_n (pc := 129) C 0 d_Model_years_129 rfl rfl ?_
    refine r_lload_n (pc := 130) C 2 d_Model_years_130 rfl rfl ?_
    refine r_ldc2 (pc := 131) C Lc_Model_337 d_Model_years_131 ?_
    refine r_lrem (pc := 134) C d_Model_years_134 hf (fun hf => ?_)
    refine r_l2i (pc := 135) C d_Model_years_135 ?_
    refine r_callVv (pc := 136) (As := [.int ((v3 % 256).toInt32)]) (rest := []) C ok_Model_runAside Lm_Model_271 k_id176 (by decide) ⟨by decide, by decide⟩ rfl rfl (Nat.le_of_ble_eq_true rfl) d_Model_years_136 hf (fun x D1 hc => c_Model_runAside Γ hc) (fun x7 D8 hf => ?_)
    refine r_iload (pc := 139) C 3 d_Model_years_139 rfl ?_
    refine r_aload_n (pc := 141) C 0 d_Model_years_141 rfl rfl ?_
    refine g_Model_harmOf (pc := 142) C k_id176 Lf_Model_242 d_Model_years_142 ?_
    refine r_iadd (pc := 145) C d_Model_years_145 ?_
    refine r_istore (pc := 146) (lv' := [(5, .int (v5 + (D8 176 35))), (0, .ref (Γ.2.1 176)), (1, .int v1), (3, .long v3), (6, .int v6), (7, .int v7)]) C d_Model_years_146 (Nat.le_of_ble_eq_true rfl) rfl ?_
    refine r_iconst (pc := 148) C (v := 0) d_Model_years_148 (by decide) ?_
    refine r_istore (pc := 149) (lv' := [(7, .int 0), (5, .int (v5 + (D8 176 35))), (0, .ref (Γ.2.1 176)), (1, .int v1), (3, .long v3), (6, .int v6)]) C d_Model_years_149 (Nat.le_of_ble_eq_true rfl) rfl ?_
    exact r_lv (pc := 151) C [2, 3, 4, 1, 5, 0] rfl (tl_Model_years_151 C hk84 FU v1 v3 (v5 + (D8 176 35)) v6 0 D8 hf)
  · refine r_aload_n (pc := 112) C 0 d_Model_years_112 rfl rfl ?_
    refine r_iconst (pc := 113) C (v := 1) d_Model_years_113 (by decide) ?_
    refine r_bipush (pc := 114) C (v := 8) d_Model_years_114 (by decide) ?_
    refine r_iload (pc := 116) C 5 d_Model_years_116 rfl ?_
    refine r_iadd (pc := 118) C d_Model_years_118 ?_
    refine r_iconst (pc := 119) C (v := 0) d_Model_years_119 (by decide) ?_
    refine r_callVv (pc := 120) (As := [.int 1, .int (8 + v7), .int 0]) (rest := []) C ok_Model_place Lm_Model_185 k_id176 (by decide) ⟨by decide, by decide⟩ rfl rfl (Nat.le_of_ble_eq_true rfl) d_Model_years_120 hf (fun x D1 hc => c_Model_place Γ hc) (fun x12 D13 hf => ?_)
    refine r_iinc (pc := 123) C (v := v7 + 1) (lv' := [(7, .int (v7 + 1)), (0, .ref (Γ.2.1 176)), (1, .int v1), (3, .long v3), (5, .int v5), (6, .int v6)]) 5 d_Model_years_123 rfl rfl (Nat.le_of_ble_eq_true rfl) rfl ?_
    refine r_goto (pc := 126) C (tgt := 103) d_Model_years_126 (by decide) ?_
    exact r_lv (pc := 103) C [1, 2, 3, 4, 5, 0] rfl (hk103 v1 v3 v5 v6 (v7 + 1) D13 hf)
theorem tl_Model_years_103 {Γ : GmT} {G : Dt → Nat → List (Nat × Value) → List Value → Prop} {rr : Int32} {DD : Dt} (C : Cx Γ "RiverTuesdaysModel" b_Model_years 8 6 (some .int) (some (.int rr)) DD G) {k84 : Int32 → Int64 → Int32 → Int32 → Dt → Option (Int32 × Dt)} (hk84 : ∀ (v1 : Int32) (v3 : Int64) (v5 : Int32) (v6 : Int32) (D : Dt), k84 v1 v3 v5 v6 D = some (rr, DD) → G D 84 [(0, .ref (Γ.2.1 176)), (1, .int v1), (3, .long v3), (5, .int v5), (6, .int v6)] []) : ∀ (n : Nat) (v1 : Int32) (v3 : Int64) (v5 : Int32) (v6 : Int32) (v7 : Int32) (D : Dt), lp_Model_years_103 k84 n v1 v3 v5 v6 v7 D = some (rr, DD) → G D 103 [(0, .ref (Γ.2.1 176)), (1, .int v1), (3, .long v3), (5, .int v5), (6, .int v6), (7, .int v7)] [] := by
  intro n
  induction n with
  | zero =>
    intro v1 v3 v5 v6 v7 D hf
    exact absurd (show (none : Option (Int32 × Dt)) = some (rr, DD) from hf) (by simp)
  | succ n ih =>
    intro v1 v3 v5 v6 v7 D hf
    exact ts_Model_years_103 C hk84 (k103 := lp_Model_years_103 k84 n) ih hf
def s_Model_years_84 (k84 : Int32 → Int64 → Int32 → Int32 → Dt → Option (Int32 × Dt)) (v1 : Int32) (v3 : Int64) (v5 : Int32) (v6 : Int32) (D : Dt) : Option (Int32 × Dt) :=
  (if v1 ≤ v6 then lp_Model_years_206 FU v5 (-9) 0 D else (if (2147483647 : Int64) = 0 then none else lp_Model_years_103 k84 FU v1 ((48271 * v3) % 2147483647) v5 v6 0 D))
def lp_Model_years_84 (n : Nat) : Int32 → Int64 → Int32 → Int32 → Dt → Option (Int32 × Dt) := itr (fun _ _ _ _ _ => none) (s_Model_years_84) n
set_option maxHeartbeats 4000000 in
theorem ts_Model_years_84 {Γ : GmT} {G : Dt → Nat → List (Nat × Value) → List Value → Prop} {rr : Int32} {DD : Dt} (C : Cx Γ "RiverTuesdaysModel" b_Model_years 8 6 (some .int) (some (.int rr)) DD G) {k84 : Int32 → Int64 → Int32 → Int32 → Dt → Option (Int32 × Dt)} (hk84 : ∀ (v1 : Int32) (v3 : Int64) (v5 : Int32) (v6 : Int32) (D : Dt), k84 v1 v3 v5 v6 D = some (rr, DD) → G D 84 [(0, .ref (Γ.2.1 176)), (1, .int v1), (3, .long v3), (5, .int v5), (6, .int v6)] []) {v1 : Int32} {v3 : Int64} {v5 : Int32} {v6 : Int32} {D : Dt} (hf : s_Model_years_84 k84 v1 v3 v5 v6 D = some (rr, DD)) : G D 84 [(0, .ref (Γ.2.1 176)), (1, .int v1), (3, .long v3), (5, .int v5), (6, .int v6)] [] := by
  unfold s_Model_years_84 at hf
  refine r_iload (pc := 84) C 4 d_Model_years_84 rfl ?_
  refine r_iload_n (pc := 86) C 1 d_Model_years_86 rfl rfl ?_
  refine r_icmp_ge (pc := 87) C (tgt := 199) d_Model_years_87 (by decide) hf (fun c87 hf => ?_) (fun c87 hf => ?_)
  · refine r_bipush (pc := 199) C (v := (-9)) d_Model_years_199 (by decide) ?_
    refine r_istore (pc := 201) (lv' := [(6, .int ((-9))), (0, .ref (Γ.2.1 176)), (1, .int v1), (3, .long v3), (5, .int v5)]) C d_Model_years_201 (Nat.le_of_ble_eq_true rfl) rfl ?_
    refine r_iconst (pc := 203) C (v := 0) d_Model_years_203 (by decide) ?_
    refine r_istore (pc := 204) (lv' := [(7, .int 0), (6, .int ((-9))), (0, .ref (Γ.2.1 176)), (1, .int v1), (3, .long v3), (5, .int v5)]) C d_Model_years_204 (Nat.le_of_ble_eq_true rfl) rfl ?_
    exact r_lv (pc := 206) C [2, 5, 1, 0] rfl (tl_Model_years_206 C FU v5 (-9) 0 D hf)
  · refine r_ldc2 (pc := 90) C Lc_Model_333 d_Model_years_90 ?_
    refine r_lload_n (pc := 93) C 2 d_Model_years_93 rfl rfl ?_
    refine r_lmul (pc := 94) C d_Model_years_94 ?_
    refine r_ldc2 (pc := 95) C Lc_Model_335 d_Model_years_95 ?_
    refine r_lrem (pc := 98) C d_Model_years_98 hf (fun hf => ?_)
    refine r_lstore_n (pc := 99) (lv' := [(3, .long ((48271 * v3) % 2147483647)), (0, .ref (Γ.2.1 176)), (1, .int v1), (5, .int v5), (6, .int v6)]) C d_Model_years_99 rfl (Nat.le_of_ble_eq_true rfl) rfl ?_
    refine r_iconst (pc := 100) C (v := 0) d_Model_years_100 (by decide) ?_
    refine r_istore (pc := 101) (lv' := [(7, .int 0), (3, .long ((48271 * v3) % 2147483647)), (0, .ref (Γ.2.1 176)), (1, .int v1), (5, .int v5), (6, .int v6)]) C d_Model_years_101 (Nat.le_of_ble_eq_true rfl) rfl ?_
    exact r_lv (pc := 103) C [2, 3, 1, 4, 5, 0] rfl (tl_Model_years_103 C hk84 FU v1 ((48271 * v3) % 2147483647) v5 v6 0 D hf)
theorem tl_Model_years_84 {Γ : GmT} {G : Dt → Nat → List (Nat × Value) → List Value → Prop} {rr : Int32} {DD : Dt} (C : Cx Γ "RiverTuesdaysModel" b_Model_years 8 6 (some .int) (some (.int rr)) DD G) : ∀ (n : Nat) (v1 : Int32) (v3 : Int64) (v5 : Int32) (v6 : Int32) (D : Dt), lp_Model_years_84 n v1 v3 v5 v6 D = some (rr, DD) → G D 84 [(0, .ref (Γ.2.1 176)), (1, .int v1), (3, .long v3), (5, .int v5), (6, .int v6)] [] := by
  intro n
  induction n with
  | zero =>
    intro v1 v3 v5 v6 D hf
    exact absurd (show (none : Option (Int32 × Dt)) = some (rr, DD) from hf) (by simp)
  | succ n ih =>
    intro v1 v3 v5 v6 D hf
    exact ts_Model_years_84 C (k84 := lp_Model_years_84 n) ih hf
def s_Model_years_56 (k56 : Int32 → Int32 → Int32 → Dt → Option (Int32 × Dt)) (v1 : Int32) (v2 : Int32) (v3 : Int32) (D : Dt) : Option (Int32 × Dt) :=
  (if 8 ≤ v3 then lp_Model_years_84 FU v1 (v2.toInt64) 0 0 D else (if inb v3 8 = true then nm (wr D 210 v3.toNatClampNeg 0) (fun D14 => k56 v1 v2 (v3 + 1) D14) else none))
def lp_Model_years_56 (n : Nat) : Int32 → Int32 → Int32 → Dt → Option (Int32 × Dt) := itr (fun _ _ _ _ => none) (s_Model_years_56) n
set_option maxHeartbeats 4000000 in
theorem ts_Model_years_56 {Γ : GmT} {G : Dt → Nat → List (Nat × Value) → List Value → Prop} {rr : Int32} {DD : Dt} (C : Cx Γ "RiverTuesdaysModel" b_Model_years 8 6 (some .int) (some (.int rr)) DD G) {k56 : Int32 → Int32 → Int32 → Dt → Option (Int32 × Dt)} (hk56 : ∀ (v1 : Int32) (v2 : Int32) (v3 : Int32) (D : Dt), k56 v1 v2 v3 D = some (rr, DD) → G D 56 [(0, .ref (Γ.2.1 176)), (1, .int v1), (2, .int v2), (3, .int v3)] []) {v1 : Int32} {v2 : Int32} {v3 : Int32} {D : Dt} (hf : s_Model_years_56 k56 v1 v2 v3 D = some (rr, DD)) : G D 56 [(0, .ref (Γ.2.1 176)), (1, .int v1), (2, .int v2), (3, .int v3)] [] := by
  unfold s_Model_years_56 at hf
  refine r_iload_n (pc := 56) C 3 d_Model_years_56 rfl rfl ?_
  refine r_bipush (pc := 57) C (v := 8) d_Model_years_57 (by decide) ?_
  refine r_icmp_ge (pc := 59) C (tgt := 75) d_Model_years_59 (by decide) hf (fun c59 hf => ?_) (fun c59 hf => ?_)
  · refine r_iload_n (pc := 75) C 2 d_Model_years_75 rfl rfl ?_
    refine r_i2l (pc := 76) C d_Model_years_76 ?_
    refine r_lstore_n (pc := 77) (lv' := [(3, .long (v2.toInt64)), (0, .ref (Γ.2.1 176)), (1, .int v1), (2, .int v2)]) C d_Model_years_77 rfl (Nat.le_of_ble_eq_true rfl) rfl ?_
    refine r_iconst (pc := 78) C (v := 0) d_Model_years_78 (by decide) ?_
    refine r_istore (pc := 79) (lv' := [(5, .int 0), (3, .long (v2.toInt64)), (0, .ref (Γ.2.1 176)), (1, .int v1), (2, .int v2)]) C d_Model_years_79 (Nat.le_of_ble_eq_true rfl) rfl ?_
    refine r_iconst (pc := 81) C (v := 0) d_Model_years_81 (by decide) ?_
    refine r_istore (pc := 82) (lv' := [(6, .int 0), (5, .int 0), (3, .long (v2.toInt64)), (0, .ref (Γ.2.1 176)), (1, .int v1), (2, .int v2)]) C d_Model_years_82 (Nat.le_of_ble_eq_true rfl) rfl ?_
    exact r_lv (pc := 84) C [3, 4, 2, 1, 0] rfl (tl_Model_years_84 C FU v1 (v2.toInt64) 0 0 D hf)
  · refine r_aload_n (pc := 62) C 0 d_Model_years_62 rfl rfl ?_
    refine g_Model_wetTimes (pc := 63) C k_id176 Lf_Model_111 d_Model_years_63 ?_
    refine r_iload_n (pc := 66) C 3 d_Model_years_66 rfl rfl ?_
    refine r_iconst (pc := 67) C (v := 0) d_Model_years_67 (by decide) ?_
    refine r_iast (pc := 68) C kq_Model_wetTimes d_Model_years_68 hf (fun hf => ?_)
    refine r_nmD hf (fun D14 hf => ?_)
    refine r_iinc (pc := 69) C (v := v3 + 1) (lv' := [(3, .int (v3 + 1)), (0, .ref (Γ.2.1 176)), (1, .int v1), (2, .int v2)]) 3 d_Model_years_69 rfl rfl (Nat.le_of_ble_eq_true rfl) rfl ?_
    refine r_goto (pc := 72) C (tgt := 56) d_Model_years_72 (by decide) ?_
    exact r_lv (pc := 56) C [1, 2, 3, 0] rfl (hk56 v1 v2 (v3 + 1) D14 hf)
theorem tl_Model_years_56 {Γ : GmT} {G : Dt → Nat → List (Nat × Value) → List Value → Prop} {rr : Int32} {DD : Dt} (C : Cx Γ "RiverTuesdaysModel" b_Model_years 8 6 (some .int) (some (.int rr)) DD G) : ∀ (n : Nat) (v1 : Int32) (v2 : Int32) (v3 : Int32) (D : Dt), lp_Model_years_56 n v1 v2 v3 D = some (rr, DD) → G D 56 [(0, .ref (Γ.2.1 176)), (1, .int v1), (2, .int v2), (3, .int v3)] [] := by
  intro n
  induction n with
  | zero =>
    intro v1 v2 v3 D hf
    exact absurd (show (none : Option (Int32 × Dt)) = some (rr, DD) from hf) (by simp)
  | succ n ih =>
    intro v1 v2 v3 D hf
    exact ts_Model_years_56 C (k56 := lp_Model_years_56 n) ih hf
def s_Model_years_35 (k35 : Int32 → Int32 → Int32 → Dt → Option (Int32 × Dt)) (v1 : Int32) (v2 : Int32) (v3 : Int32) (D : Dt) : Option (Int32 × Dt) :=
  (if 26 ≤ v3 then lp_Model_years_56 FU v1 v2 0 D else bnd (f_Model_place 1 v3 0 D) (fun x15 D16 => k35 v1 v2 (v3 + 1) D16))
def lp_Model_years_35 (n : Nat) : Int32 → Int32 → Int32 → Dt → Option (Int32 × Dt) := itr (fun _ _ _ _ => none) (s_Model_years_35) n
set_option maxHeartbeats 4000000 in
theorem ts_Model_years_35 {Γ : GmT} {G : Dt → Nat → List (Nat × Value) → List Value → Prop} {rr : Int32} {DD : Dt} (C : Cx Γ "RiverTuesdaysModel" b_Model_years 8 6 (some .int) (some (.int rr)) DD G) {k35 : Int32 → Int32 → Int32 → Dt → Option (Int32 × Dt)} (hk35 : ∀ (v1 : Int32) (v2 : Int32) (v3 : Int32) (D : Dt), k35 v1 v2 v3 D = some (rr, DD) → G D 35 [(0, .ref (Γ.2.1 176)), (1, .int v1), (2, .int v2), (3, .int v3)] []) {v1 : Int32} {v2 : Int32} {v3 : Int32} {D : Dt} (hf : s_Model_years_35 k35 v1 v2 v3 D = some (rr, DD)) : G D 35 [(0, .ref (Γ.2.1 176)), (1, .int v1), (2, .int v2), (3, .int v3)] [] := by
  unfold s_Model_years_35 at hf
  refine r_iload_n (pc := 35) C 3 d_Model_years_35 rfl rfl ?_
  refine r_bipush (pc := 36) C (v := 26) d_Model_years_36 (by decide) ?_
  refine r_icmp_ge (pc := 38) C (tgt := 54) d_Model_years_38 (by decide) hf (fun c38 hf => ?_) (fun c38 hf => ?_)
  · refine r_iconst (pc := 54) C (v := 0) d_Model_years_54 (by decide) ?_
    refine r_istore_n (pc := 55) (lv' := [(3, .int 0), (0, .ref (Γ.2.1 176)), (1, .int v1), (2, .int v2)]) C d_Model_years_55 rfl (Nat.le_of_ble_eq_true rfl) rfl ?_
    exact r_lv (pc := 56) C [1, 2, 3, 0] rfl (tl_Model_years_56 C FU v1 v2 0 D hf)
  · refine r_aload_n (pc := 41) C 0 d_Model_years_41 rfl rfl ?_
    refine r_iconst (pc := 42) C (v := 1) d_Model_years_42 (by decide) ?_
    refine r_iload_n (pc := 43) C 3 d_Model_years_43 rfl rfl ?_
    refine r_iconst (pc := 44) C (v := 0) d_Model_years_44 (by decide) ?_
    refine r_callVv (pc := 45) (As := [.int 1, .int v3, .int 0]) (rest := []) C ok_Model_place Lm_Model_185 k_id176 (by decide) ⟨by decide, by decide⟩ rfl rfl (Nat.le_of_ble_eq_true rfl) d_Model_years_45 hf (fun x D1 hc => c_Model_place Γ hc) (fun x15 D16 hf => ?_)
    refine r_iinc (pc := 48) C (v := v3 + 1) (lv' := [(3, .int (v3 + 1)), (0, .ref (Γ.2.1 176)), (1, .int v1), (2, .int v2)]) 3 d_Model_years_48 rfl rfl (Nat.le_of_ble_eq_true rfl) rfl ?_
    refine r_goto (pc := 51) C (tgt := 35) d_Model_years_51 (by decide) ?_
    exact r_lv (pc := 35) C [1, 2, 3, 0] rfl (hk35 v1 v2 (v3 + 1) D16 hf)
theorem tl_Model_years_35 {Γ : GmT} {G : Dt → Nat → List (Nat × Value) → List Value → Prop} {rr : Int32} {DD : Dt} (C : Cx Γ "RiverTuesdaysModel" b_Model_years 8 6 (some .int) (some (.int rr)) DD G) : ∀ (n : Nat) (v1 : Int32) (v2 : Int32) (v3 : Int32) (D : Dt), lp_Model_years_35 n v1 v2 v3 D = some (rr, DD) → G D 35 [(0, .ref (Γ.2.1 176)), (1, .int v1), (2, .int v2), (3, .int v3)] [] := by
  intro n
  induction n with
  | zero =>
    intro v1 v2 v3 D hf
    exact absurd (show (none : Option (Int32 × Dt)) = some (rr, DD) from hf) (by simp)
  | succ n ih =>
    intro v1 v2 v3 D hf
    exact ts_Model_years_35 C (k35 := lp_Model_years_35 n) ih hf
def f_Model_years (v1 : Int32) (v2 : Int32) (D : Dt) : Option (Int32 × Dt) :=
  bnd (f_Model_in v1 1 40 D) (fun x1 D2 => (if x1 = 0 then some ((-1), D2) else bnd (f_Model_in v2 1 2147483646 D2) (fun x3 D4 => (if x3 = 0 then some ((-1), D4) else (if (D4 176 10) = 0 then some ((-4), D4) else lp_Model_years_35 FU v1 v2 0 D4)))))
set_option maxHeartbeats 4000000 in
theorem te_Model_years {Γ : GmT} {G : Dt → Nat → List (Nat × Value) → List Value → Prop} {rr : Int32} {DD : Dt} (C : Cx Γ "RiverTuesdaysModel" b_Model_years 8 6 (some .int) (some (.int rr)) DD G) {v1 : Int32} {v2 : Int32} {D : Dt} (hf : f_Model_years v1 v2 D = some (rr, DD)) : G D 0 [(0, .ref (Γ.2.1 176)), (1, .int v1), (2, .int v2)] [] := by
  unfold f_Model_years at hf
  refine r_iload_n (pc := 0) C 1 d_Model_years_0 rfl rfl ?_
  refine r_iconst (pc := 1) C (v := 1) d_Model_years_1 (by decide) ?_
  refine r_bipush (pc := 2) C (v := 40) d_Model_years_2 (by decide) ?_
  refine r_callSi (pc := 4) (As := [.int v1, .int 1, .int 40]) (rest := []) C ok_Model_in Lm_Model_118 ⟨by decide, by decide⟩ rfl rfl (Nat.le_of_ble_eq_true rfl) d_Model_years_4 hf (fun x D1 hc => c_Model_in Γ hc) (fun x1 D2 hf => ?_)
  refine r_if_eq (pc := 7) C (tgt := 21) d_Model_years_7 (by decide) hf (fun c7 hf => ?_) (fun c7 hf => ?_)
  · refine r_iconst (pc := 21) C (v := (-1)) d_Model_years_21 (by decide) ?_
    exact r_iret (pc := 22) C d_Model_years_22 hf
  · refine r_iload_n (pc := 10) C 2 d_Model_years_10 rfl rfl ?_
    refine r_iconst (pc := 11) C (v := 1) d_Model_years_11 (by decide) ?_
    refine r_ldcw (pc := 12) C Lc_Model_332 d_Model_years_12 ?_
    refine r_callSi (pc := 15) (As := [.int v2, .int 1, .int 2147483646]) (rest := []) C ok_Model_in Lm_Model_118 ⟨by decide, by decide⟩ rfl rfl (Nat.le_of_ble_eq_true rfl) d_Model_years_15 hf (fun x D1 hc => c_Model_in Γ hc) (fun x3 D4 hf => ?_)
    refine r_if_ne (pc := 18) C (tgt := 23) d_Model_years_18 (by decide) hf (fun c18 hf => ?_) (fun c18 hf => ?_)
    · refine r_aload_n (pc := 23) C 0 d_Model_years_23 rfl rfl ?_
      refine g_Model_n (pc := 24) C k_id176 Lf_Model_176 d_Model_years_24 ?_
      refine r_if_ne (pc := 27) C (tgt := 33) d_Model_years_27 (by decide) hf (fun c27 hf => ?_) (fun c27 hf => ?_)
      · refine r_iconst (pc := 33) C (v := 0) d_Model_years_33 (by decide) ?_
        refine r_istore_n (pc := 34) (lv' := [(3, .int 0), (0, .ref (Γ.2.1 176)), (1, .int v1), (2, .int v2)]) C d_Model_years_34 rfl (Nat.le_of_ble_eq_true rfl) rfl ?_
        exact r_lv (pc := 35) C [1, 2, 3, 0] rfl (tl_Model_years_35 C FU v1 v2 0 D4 hf)
      · refine r_bipush (pc := 30) C (v := (-4)) d_Model_years_30 (by decide) ?_
        exact r_iret (pc := 32) C d_Model_years_32 hf
    · refine r_iconst (pc := 21) C (v := (-1)) d_Model_years_21 (by decide) ?_
      exact r_iret (pc := 22) C d_Model_years_22 hf
theorem c_Model_years (Γ : GmT) {v1 : Int32} {v2 : Int32} {D : Dt} {rr : Int32} {DD : Dt} (hf : f_Model_years v1 v2 D = some (rr, DD)) : Mt Γ y_Model_years b_Model_years 8 (some .int) 6 [.ref (Γ.2.1 176), .int v1, .int v2] D (some (.int rr)) DD := Mt_of (by decide) (Nat.le_of_ble_eq_true rfl) (fun G C => te_Model_years C hf)
def s_Model_standsAll_8 (k8 : Int32 → Int32 → Dt → Option (Int32 × Dt)) (v1 : Int32) (v2 : Int32) (D : Dt) : Option (Int32 × Dt) :=
  (if (D 176 10) ≤ v2 then some (v1, D) else bnd (f_Model_v 0 (8 + v2) D) (fun x3 D4 => k8 (v1 + x3) (v2 + 1) D4))
def lp_Model_standsAll_8 (n : Nat) : Int32 → Int32 → Dt → Option (Int32 × Dt) := itr (fun _ _ _ => none) (s_Model_standsAll_8) n
set_option maxHeartbeats 4000000 in
theorem ts_Model_standsAll_8 {Γ : GmT} {G : Dt → Nat → List (Nat × Value) → List Value → Prop} {rr : Int32} {DD : Dt} (C : Cx Γ "RiverTuesdaysModel" b_Model_standsAll 3 3 (some .int) (some (.int rr)) DD G) {k8 : Int32 → Int32 → Dt → Option (Int32 × Dt)} (hk8 : ∀ (v1 : Int32) (v2 : Int32) (D : Dt), k8 v1 v2 D = some (rr, DD) → G D 8 [(0, .ref (Γ.2.1 176)), (1, .int v1), (2, .int v2)] []) {v1 : Int32} {v2 : Int32} {D : Dt} (hf : s_Model_standsAll_8 k8 v1 v2 D = some (rr, DD)) : G D 8 [(0, .ref (Γ.2.1 176)), (1, .int v1), (2, .int v2)] [] := by
  unfold s_Model_standsAll_8 at hf
  refine r_iload_n (pc := 8) C 2 d_Model_standsAll_8 rfl rfl ?_
  refine r_aload_n (pc := 9) C 0 d_Model_standsAll_9 rfl rfl ?_
  refine g_Model_n (pc := 10) C k_id176 Lf_Model_176 d_Model_standsAll_10 ?_
  refine r_icmp_ge (pc := 13) C (tgt := 34) d_Model_standsAll_13 (by decide) hf (fun c13 hf => ?_) (fun c13 hf => ?_)
  · refine r_iload_n (pc := 34) C 1 d_Model_standsAll_34 rfl rfl ?_
    exact r_iret (pc := 35) C d_Model_standsAll_35 hf
  · refine r_iload_n (pc := 16) C 1 d_Model_standsAll_16 rfl rfl ?_
    refine r_aload_n (pc := 17) C 0 d_Model_standsAll_17 rfl rfl ?_
    refine r_iconst (pc := 18) C (v := 0) d_Model_standsAll_18 (by decide) ?_
    refine r_bipush (pc := 19) C (v := 8) d_Model_standsAll_19 (by decide) ?_
    refine r_iload_n (pc := 21) C 2 d_Model_standsAll_21 rfl rfl ?_
    refine r_iadd (pc := 22) C d_Model_standsAll_22 ?_
    refine r_callVi (pc := 23) (As := [.int 0, .int (8 + v2)]) (rest := [.int v1]) C ok_Model_v Lm_Model_192 k_id176 (by decide) ⟨by decide, by decide⟩ rfl rfl (Nat.le_of_ble_eq_true rfl) d_Model_standsAll_23 hf (fun x D1 hc => c_Model_v Γ hc) (fun x3 D4 hf => ?_)
    refine r_iadd (pc := 26) C d_Model_standsAll_26 ?_
    refine r_istore_n (pc := 27) (lv' := [(1, .int (v1 + x3)), (0, .ref (Γ.2.1 176)), (2, .int v2)]) C d_Model_standsAll_27 rfl (Nat.le_of_ble_eq_true rfl) rfl ?_
    refine r_iinc (pc := 28) C (v := v2 + 1) (lv' := [(2, .int (v2 + 1)), (1, .int (v1 + x3)), (0, .ref (Γ.2.1 176))]) 2 d_Model_standsAll_28 rfl rfl (Nat.le_of_ble_eq_true rfl) rfl ?_
    refine r_goto (pc := 31) C (tgt := 8) d_Model_standsAll_31 (by decide) ?_
    exact r_lv (pc := 8) C [2, 1, 0] rfl (hk8 (v1 + x3) (v2 + 1) D4 hf)
theorem tl_Model_standsAll_8 {Γ : GmT} {G : Dt → Nat → List (Nat × Value) → List Value → Prop} {rr : Int32} {DD : Dt} (C : Cx Γ "RiverTuesdaysModel" b_Model_standsAll 3 3 (some .int) (some (.int rr)) DD G) : ∀ (n : Nat) (v1 : Int32) (v2 : Int32) (D : Dt), lp_Model_standsAll_8 n v1 v2 D = some (rr, DD) → G D 8 [(0, .ref (Γ.2.1 176)), (1, .int v1), (2, .int v2)] [] := by
  intro n
  induction n with
  | zero =>
    intro v1 v2 D hf
    exact absurd (show (none : Option (Int32 × Dt)) = some (rr, DD) from hf) (by simp)
  | succ n ih =>
    intro v1 v2 D hf
    exact ts_Model_standsAll_8 C (k8 := lp_Model_standsAll_8 n) ih hf
def f_Model_standsAll (D : Dt) : Option (Int32 × Dt) :=
  bnd (f_Model_standing 0 D) (fun x1 D2 => lp_Model_standsAll_8 FU x1 0 D2)
set_option maxHeartbeats 4000000 in
theorem te_Model_standsAll {Γ : GmT} {G : Dt → Nat → List (Nat × Value) → List Value → Prop} {rr : Int32} {DD : Dt} (C : Cx Γ "RiverTuesdaysModel" b_Model_standsAll 3 3 (some .int) (some (.int rr)) DD G) {D : Dt} (hf : f_Model_standsAll D = some (rr, DD)) : G D 0 [(0, .ref (Γ.2.1 176))] [] := by
  unfold f_Model_standsAll at hf
  refine r_aload_n (pc := 0) C 0 d_Model_standsAll_0 rfl rfl ?_
  refine r_iconst (pc := 1) C (v := 0) d_Model_standsAll_1 (by decide) ?_
  refine r_callVi (pc := 2) (As := [.int 0]) (rest := []) C ok_Model_standing Lm_Model_236 k_id176 (by decide) ⟨by decide, by decide⟩ rfl rfl (Nat.le_of_ble_eq_true rfl) d_Model_standsAll_2 hf (fun x D1 hc => c_Model_standing Γ hc) (fun x1 D2 hf => ?_)
  refine r_istore_n (pc := 5) (lv' := [(1, .int x1), (0, .ref (Γ.2.1 176))]) C d_Model_standsAll_5 rfl (Nat.le_of_ble_eq_true rfl) rfl ?_
  refine r_iconst (pc := 6) C (v := 0) d_Model_standsAll_6 (by decide) ?_
  refine r_istore_n (pc := 7) (lv' := [(2, .int 0), (1, .int x1), (0, .ref (Γ.2.1 176))]) C d_Model_standsAll_7 rfl (Nat.le_of_ble_eq_true rfl) rfl ?_
  exact r_lv (pc := 8) C [2, 1, 0] rfl (tl_Model_standsAll_8 C FU x1 0 D2 hf)
theorem c_Model_standsAll (Γ : GmT) {D : Dt} {rr : Int32} {DD : Dt} (hf : f_Model_standsAll D = some (rr, DD)) : Mt Γ y_Model_standsAll b_Model_standsAll 3 (some .int) 3 [.ref (Γ.2.1 176)] D (some (.int rr)) DD := Mt_of (by decide) (Nat.le_of_ble_eq_true rfl) (fun G C => te_Model_standsAll C hf)
def s_Model_common_13 (k13 : Int32 → Int32 → Dt → Option (Int32 × Dt)) (v1 : Int32) (v2 : Int32) (D : Dt) : Option (Int32 × Dt) :=
  (if v2 = 0 then some (v1, D) else (if v2 = 0 then none else k13 v2 (v1 % v2) D))
def lp_Model_common_13 (n : Nat) : Int32 → Int32 → Dt → Option (Int32 × Dt) := itr (fun _ _ _ => none) (s_Model_common_13) n
set_option maxHeartbeats 4000000 in
theorem ts_Model_common_13 {Γ : GmT} {G : Dt → Nat → List (Nat × Value) → List Value → Prop} {rr : Int32} {DD : Dt} (C : Cx Γ "RiverTuesdaysModel" b_Model_common 4 4 (some .int) (some (.int rr)) DD G) {k13 : Int32 → Int32 → Dt → Option (Int32 × Dt)} (hk13 : ∀ (v1 : Int32) (v2 : Int32) (D : Dt), k13 v1 v2 D = some (rr, DD) → G D 13 [(1, .int v1), (2, .int v2)] []) {v1 : Int32} {v2 : Int32} {D : Dt} (hf : s_Model_common_13 k13 v1 v2 D = some (rr, DD)) : G D 13 [(1, .int v1), (2, .int v2)] [] := by
  unfold s_Model_common_13 at hf
  refine r_iload_n (pc := 13) C 1 d_Model_common_13 rfl rfl ?_
  refine r_if_eq (pc := 14) C (tgt := 28) d_Model_common_14 (by decide) hf (fun c14 hf => ?_) (fun c14 hf => ?_)
  · refine r_iload_n (pc := 28) C 0 d_Model_common_28 rfl rfl ?_
    exact r_iret (pc := 29) C d_Model_common_29 hf
  · refine r_iload_n (pc := 17) C 0 d_Model_common_17 rfl rfl ?_
    refine r_iload_n (pc := 18) C 1 d_Model_common_18 rfl rfl ?_
    refine r_irem (pc := 19) C d_Model_common_19 hf (fun hf => ?_)
    refine r_istore_n (pc := 20) (lv' := [(3, .int (v1 % v2)), (1, .int v1), (2, .int v2)]) C d_Model_common_20 rfl (Nat.le_of_ble_eq_true rfl) rfl ?_
    refine r_iload_n (pc := 21) C 2 d_Model_common_21 rfl rfl ?_
    refine r_istore_n (pc := 22) (lv' := [(1, .int v2), (3, .int (v1 % v2)), (2, .int v2)]) C d_Model_common_22 rfl (Nat.le_of_ble_eq_true rfl) rfl ?_
    refine r_iload_n (pc := 23) C 1 d_Model_common_23 rfl rfl ?_
    refine r_istore_n (pc := 24) (lv' := [(2, .int (v1 % v2)), (1, .int v2), (3, .int (v1 % v2))]) C d_Model_common_24 rfl (Nat.le_of_ble_eq_true rfl) rfl ?_
    refine r_goto (pc := 25) C (tgt := 13) d_Model_common_25 (by decide) ?_
    exact r_lv (pc := 13) C [1, 0] rfl (hk13 v2 (v1 % v2) D hf)
theorem tl_Model_common_13 {Γ : GmT} {G : Dt → Nat → List (Nat × Value) → List Value → Prop} {rr : Int32} {DD : Dt} (C : Cx Γ "RiverTuesdaysModel" b_Model_common 4 4 (some .int) (some (.int rr)) DD G) : ∀ (n : Nat) (v1 : Int32) (v2 : Int32) (D : Dt), lp_Model_common_13 n v1 v2 D = some (rr, DD) → G D 13 [(1, .int v1), (2, .int v2)] [] := by
  intro n
  induction n with
  | zero =>
    intro v1 v2 D hf
    exact absurd (show (none : Option (Int32 × Dt)) = some (rr, DD) from hf) (by simp)
  | succ n ih =>
    intro v1 v2 D hf
    exact ts_Model_common_13 C (k13 := lp_Model_common_13 n) ih hf
def f_Model_common (D : Dt) : Option (Int32 × Dt) :=
  bnd (f_Model_standsAll D) (fun x1 D2 => bnd (f_Model_v 0 24 D2) (fun x3 D4 => lp_Model_common_13 FU x1 x3 D4))
set_option maxHeartbeats 4000000 in
theorem te_Model_common {Γ : GmT} {G : Dt → Nat → List (Nat × Value) → List Value → Prop} {rr : Int32} {DD : Dt} (C : Cx Γ "RiverTuesdaysModel" b_Model_common 4 4 (some .int) (some (.int rr)) DD G) {D : Dt} (hf : f_Model_common D = some (rr, DD)) : G D 0 [(0, .ref (Γ.2.1 176))] [] := by
  unfold f_Model_common at hf
  refine r_aload_n (pc := 0) C 0 d_Model_common_0 rfl rfl ?_
  refine r_callVi (pc := 1) (As := []) (rest := []) C ok_Model_standsAll Lm_Model_339 k_id176 (by decide) ⟨by decide, by decide⟩ rfl rfl (Nat.le_of_ble_eq_true rfl) d_Model_common_1 hf (fun x D1 hc => c_Model_standsAll Γ hc) (fun x1 D2 hf => ?_)
  refine r_istore_n (pc := 4) (lv' := [(1, .int x1), (0, .ref (Γ.2.1 176))]) C d_Model_common_4 rfl (Nat.le_of_ble_eq_true rfl) rfl ?_
  refine r_aload_n (pc := 5) C 1 d_Model_common_5 rfl rfl ?_
  refine r_iconst (pc := 6) C (v := 0) d_Model_common_6 (by decide) ?_
  refine r_bipush (pc := 7) C (v := 24) d_Model_common_7 (by decide) ?_
  refine r_callVi (pc := 9) (As := [.int 0, .int 24]) (rest := []) C ok_Model_v Lm_Model_192 k_id176 (by decide) ⟨by decide, by decide⟩ rfl rfl (Nat.le_of_ble_eq_true rfl) d_Model_common_9 hf (fun x D1 hc => c_Model_v Γ hc) (fun x3 D4 hf => ?_)
  refine r_istore_n (pc := 12) (lv' := [(2, .int x3), (1, .int x1), (0, .ref (Γ.2.1 176))]) C d_Model_common_12 rfl (Nat.le_of_ble_eq_true rfl) rfl ?_
  exact r_lv (pc := 13) C [1, 0] rfl (tl_Model_common_13 C FU x1 x3 D4 hf)
theorem c_Model_common (Γ : GmT) {D : Dt} {rr : Int32} {DD : Dt} (hf : f_Model_common D = some (rr, DD)) : Mt Γ y_Model_common b_Model_common 4 (some .int) 4 [.ref (Γ.2.1 176)] D (some (.int rr)) DD := Mt_of (by decide) (Nat.le_of_ble_eq_true rfl) (fun G C => te_Model_common C hf)
def f_Model_upper (D : Dt) : Option (Int64 × Dt) :=
  bnd (f_Model_v 0 24 D) (fun x1 D2 => (if x1 = 0 then some (0, D2) else bnd (f_Model_standsAll D2) (fun x3 D4 => bnd (f_Model_common D4) (fun x5 D6 => (if x5 = 0 then none else some ((x3 / x5).toInt64, D6))))))
set_option maxHeartbeats 4000000 in
theorem te_Model_upper {Γ : GmT} {G : Dt → Nat → List (Nat × Value) → List Value → Prop} {rr : Int64} {DD : Dt} (C : Cx Γ "RiverTuesdaysModel" b_Model_upper 1 5 (some .long) (some (.long rr)) DD G) {D : Dt} (hf : f_Model_upper D = some (rr, DD)) : G D 0 [(0, .ref (Γ.2.1 176))] [] := by
  unfold f_Model_upper at hf
  refine r_aload_n (pc := 0) C 0 d_Model_upper_0 rfl rfl ?_
  refine r_iconst (pc := 1) C (v := 0) d_Model_upper_1 (by decide) ?_
  refine r_bipush (pc := 2) C (v := 24) d_Model_upper_2 (by decide) ?_
  refine r_callVi (pc := 4) (As := [.int 0, .int 24]) (rest := []) C ok_Model_v Lm_Model_192 k_id176 (by decide) ⟨by decide, by decide⟩ rfl rfl (Nat.le_of_ble_eq_true rfl) d_Model_upper_4 hf (fun x D1 hc => c_Model_v Γ hc) (fun x1 D2 hf => ?_)
  refine r_if_ne (pc := 7) C (tgt := 14) d_Model_upper_7 (by decide) hf (fun c7 hf => ?_) (fun c7 hf => ?_)
  · refine r_aload_n (pc := 14) C 0 d_Model_upper_14 rfl rfl ?_
    refine r_callVi (pc := 15) (As := []) (rest := []) C ok_Model_standsAll Lm_Model_339 k_id176 (by decide) ⟨by decide, by decide⟩ rfl rfl (Nat.le_of_ble_eq_true rfl) d_Model_upper_15 hf (fun x D1 hc => c_Model_standsAll Γ hc) (fun x3 D4 hf => ?_)
    refine r_aload_n (pc := 18) C 0 d_Model_upper_18 rfl rfl ?_
    refine r_callVi (pc := 19) (As := []) (rest := [.int x3]) C ok_Model_common Lm_Model_343 k_id176 (by decide) ⟨by decide, by decide⟩ rfl rfl (Nat.le_of_ble_eq_true rfl) d_Model_upper_19 hf (fun x D1 hc => c_Model_common Γ hc) (fun x5 D6 hf => ?_)
    refine r_idiv (pc := 22) C d_Model_upper_22 hf (fun hf => ?_)
    refine r_i2l (pc := 23) C d_Model_upper_23 ?_
    exact r_lret (pc := 24) C d_Model_upper_24 hf
  · refine r_lconst (pc := 10) C (v := 0) d_Model_upper_10 (by decide) ?_
    refine r_goto (pc := 11) C (tgt := 24) d_Model_upper_11 (by decide) ?_
    exact r_lret (pc := 24) C d_Model_upper_24 hf
theorem c_Model_upper (Γ : GmT) {D : Dt} {rr : Int64} {DD : Dt} (hf : f_Model_upper D = some (rr, DD)) : Mt Γ y_Model_upper b_Model_upper 1 (some .long) 5 [.ref (Γ.2.1 176)] D (some (.long rr)) DD := Mt_of (by decide) (Nat.le_of_ble_eq_true rfl) (fun G C => te_Model_upper C hf)
def f_Model_lower (D : Dt) : Option (Int64 × Dt) :=
  bnd (f_Model_v 0 24 D) (fun x1 D2 => (if x1 = 0 then some (1, D2) else bnd (f_Model_v 0 24 D2) (fun x3 D4 => bnd (f_Model_common D4) (fun x5 D6 => (if x5 = 0 then none else some ((x3 / x5).toInt64, D6))))))
set_option maxHeartbeats 4000000 in
theorem te_Model_lower {Γ : GmT} {G : Dt → Nat → List (Nat × Value) → List Value → Prop} {rr : Int64} {DD : Dt} (C : Cx Γ "RiverTuesdaysModel" b_Model_lower 1 5 (some .long) (some (.long rr)) DD G) {D : Dt} (hf : f_Model_lower D = some (rr, DD)) : G D 0 [(0, .ref (Γ.2.1 176))] [] := by
  unfold f_Model_lower at hf
  refine r_aload_n (pc := 0) C 0 d_Model_lower_0 rfl rfl ?_
  refine r_iconst (pc := 1) C (v := 0) d_Model_lower_1 (by decide) ?_
  refine r_bipush (pc := 2) C (v := 24) d_Model_lower_2 (by decide) ?_
  refine r_callVi (pc := 4) (As := [.int 0, .int 24]) (rest := []) C ok_Model_v Lm_Model_192 k_id176 (by decide) ⟨by decide, by decide⟩ rfl rfl (Nat.le_of_ble_eq_true rfl) d_Model_lower_4 hf (fun x D1 hc => c_Model_v Γ hc) (fun x1 D2 hf => ?_)
  refine r_if_ne (pc := 7) C (tgt := 14) d_Model_lower_7 (by decide) hf (fun c7 hf => ?_) (fun c7 hf => ?_)
  · refine r_aload_n (pc := 14) C 0 d_Model_lower_14 rfl rfl ?_
    refine r_iconst (pc := 15) C (v := 0) d_Model_lower_15 (by decide) ?_
    refine r_bipush (pc := 16) C (v := 24) d_Model_lower_16 (by decide) ?_
    refine r_callVi (pc := 18) (As := [.int 0, .int 24]) (rest := []) C ok_Model_v Lm_Model_192 k_id176 (by decide) ⟨by decide, by decide⟩ rfl rfl (Nat.le_of_ble_eq_true rfl) d_Model_lower_18 hf (fun x D1 hc => c_Model_v Γ hc) (fun x3 D4 hf => ?_)
    refine r_aload_n (pc := 21) C 0 d_Model_lower_21 rfl rfl ?_
    refine r_callVi (pc := 22) (As := []) (rest := [.int x3]) C ok_Model_common Lm_Model_343 k_id176 (by decide) ⟨by decide, by decide⟩ rfl rfl (Nat.le_of_ble_eq_true rfl) d_Model_lower_22 hf (fun x D1 hc => c_Model_common Γ hc) (fun x5 D6 hf => ?_)
    refine r_idiv (pc := 25) C d_Model_lower_25 hf (fun hf => ?_)
    refine r_i2l (pc := 26) C d_Model_lower_26 ?_
    exact r_lret (pc := 27) C d_Model_lower_27 hf
  · refine r_lconst (pc := 10) C (v := 1) d_Model_lower_10 (by decide) ?_
    refine r_goto (pc := 11) C (tgt := 27) d_Model_lower_11 (by decide) ?_
    exact r_lret (pc := 27) C d_Model_lower_27 hf
theorem c_Model_lower (Γ : GmT) {D : Dt} {rr : Int64} {DD : Dt} (hf : f_Model_lower D = some (rr, DD)) : Mt Γ y_Model_lower b_Model_lower 1 (some .long) 5 [.ref (Γ.2.1 176)] D (some (.long rr)) DD := Mt_of (by decide) (Nat.le_of_ble_eq_true rfl) (fun G C => te_Model_lower C hf)
def b_Model_counted_190 (k164 : Int32 → Int32 → Int32 → Dt → Option (Int32 × Dt)) (v1 : Int32) (v3 : Int32) (s0 : Int32) (s1 : Int32) (D : Dt) : Option (Int32 × Dt) :=
  k164 v1 (s1 + s0) (v3 + 1) D
set_option maxHeartbeats 4000000 in
theorem tb_Model_counted_190 {Γ : GmT} {G : Dt → Nat → List (Nat × Value) → List Value → Prop} {rr : Int32} {DD : Dt} (C : Cx Γ "RiverTuesdaysModel" b_Model_counted 4 2 (some .int) (some (.int rr)) DD G) {k164 : Int32 → Int32 → Int32 → Dt → Option (Int32 × Dt)} (hk164 : ∀ (v1 : Int32) (v2 : Int32) (v3 : Int32) (D : Dt), k164 v1 v2 v3 D = some (rr, DD) → G D 164 [(0, .ref (Γ.2.1 176)), (1, .int v1), (2, .int v2), (3, .int v3)] []) {v1 : Int32} {v3 : Int32} {s0 : Int32} {s1 : Int32} {D : Dt} (hf : b_Model_counted_190 k164 v1 v3 s0 s1 D = some (rr, DD)) : G D 190 [(0, .ref (Γ.2.1 176)), (1, .int v1), (3, .int v3)] [.int s0, .int s1] := by
  unfold b_Model_counted_190 at hf
  refine r_iadd (pc := 190) C d_Model_counted_190 ?_
  refine r_istore_n (pc := 191) (lv' := [(2, .int (s1 + s0)), (0, .ref (Γ.2.1 176)), (1, .int v1), (3, .int v3)]) C d_Model_counted_191 rfl (Nat.le_of_ble_eq_true rfl) rfl ?_
  refine r_iinc (pc := 192) C (v := v3 + 1) (lv' := [(3, .int (v3 + 1)), (2, .int (s1 + s0)), (0, .ref (Γ.2.1 176)), (1, .int v1)]) 3 d_Model_counted_192 rfl rfl (Nat.le_of_ble_eq_true rfl) rfl ?_
  refine r_goto (pc := 195) C (tgt := 164) d_Model_counted_195 (by decide) ?_
  exact r_lv (pc := 164) C [2, 3, 1, 0] rfl (hk164 v1 (s1 + s0) (v3 + 1) D hf)
def b_Model_counted_189 (k164 : Int32 → Int32 → Int32 → Dt → Option (Int32 × Dt)) (v1 : Int32) (v3 : Int32) (s0 : Int32) (D : Dt) : Option (Int32 × Dt) :=
  b_Model_counted_190 k164 v1 v3 0 s0 D
set_option maxHeartbeats 4000000 in
theorem tb_Model_counted_189 {Γ : GmT} {G : Dt → Nat → List (Nat × Value) → List Value → Prop} {rr : Int32} {DD : Dt} (C : Cx Γ "RiverTuesdaysModel" b_Model_counted 4 2 (some .int) (some (.int rr)) DD G) {k164 : Int32 → Int32 → Int32 → Dt → Option (Int32 × Dt)} (hk164 : ∀ (v1 : Int32) (v2 : Int32) (v3 : Int32) (D : Dt), k164 v1 v2 v3 D = some (rr, DD) → G D 164 [(0, .ref (Γ.2.1 176)), (1, .int v1), (2, .int v2), (3, .int v3)] []) {v1 : Int32} {v3 : Int32} {s0 : Int32} {D : Dt} (hf : b_Model_counted_189 k164 v1 v3 s0 D = some (rr, DD)) : G D 189 [(0, .ref (Γ.2.1 176)), (1, .int v1), (3, .int v3)] [.int s0] := by
  unfold b_Model_counted_189 at hf
  refine r_iconst (pc := 189) C (v := 0) d_Model_counted_189 (by decide) ?_
  exact r_lv (pc := 190) C [0, 1, 2] rfl (tb_Model_counted_190 C hk164 hf)
def s_Model_counted_164 (k164 : Int32 → Int32 → Int32 → Dt → Option (Int32 × Dt)) (v1 : Int32) (v2 : Int32) (v3 : Int32) (D : Dt) : Option (Int32 × Dt) :=
  (if 4 ≤ v3 then (if v1 = 0 then some (D 176 10, D) else (if v1 = 1 then some (D 176 26, D) else some (v2, D))) else (if v1 = 7 then (if inb v3 4 = true then (if (D 181 v3.toNatClampNeg) < 0 then b_Model_counted_189 k164 v1 v3 v2 D else b_Model_counted_190 k164 v1 v3 1 v2 D) else none) else b_Model_counted_189 k164 v1 v3 v2 D))
def lp_Model_counted_164 (n : Nat) : Int32 → Int32 → Int32 → Dt → Option (Int32 × Dt) := itr (fun _ _ _ _ => none) (s_Model_counted_164) n
set_option maxHeartbeats 4000000 in
theorem ts_Model_counted_164 {Γ : GmT} {G : Dt → Nat → List (Nat × Value) → List Value → Prop} {rr : Int32} {DD : Dt} (C : Cx Γ "RiverTuesdaysModel" b_Model_counted 4 2 (some .int) (some (.int rr)) DD G) {k164 : Int32 → Int32 → Int32 → Dt → Option (Int32 × Dt)} (hk164 : ∀ (v1 : Int32) (v2 : Int32) (v3 : Int32) (D : Dt), k164 v1 v2 v3 D = some (rr, DD) → G D 164 [(0, .ref (Γ.2.1 176)), (1, .int v1), (2, .int v2), (3, .int v3)] []) {v1 : Int32} {v2 : Int32} {v3 : Int32} {D : Dt} (hf : s_Model_counted_164 k164 v1 v2 v3 D = some (rr, DD)) : G D 164 [(0, .ref (Γ.2.1 176)), (1, .int v1), (2, .int v2), (3, .int v3)] [] := by
  unfold s_Model_counted_164 at hf
  refine r_iload_n (pc := 164) C 3 d_Model_counted_164 rfl rfl ?_
  refine r_iconst (pc := 165) C (v := 4) d_Model_counted_165 (by decide) ?_
  refine r_icmp_ge (pc := 166) C (tgt := 198) d_Model_counted_166 (by decide) hf (fun c166 hf => ?_) (fun c166 hf => ?_)
  · refine r_iload_n (pc := 198) C 1 d_Model_counted_198 rfl rfl ?_
    refine r_if_ne (pc := 199) C (tgt := 209) d_Model_counted_199 (by decide) hf (fun c199 hf => ?_) (fun c199 hf => ?_)
    · refine r_iload_n (pc := 209) C 1 d_Model_counted_209 rfl rfl ?_
      refine r_iconst (pc := 210) C (v := 1) d_Model_counted_210 (by decide) ?_
      refine r_icmp_ne (pc := 211) C (tgt := 221) d_Model_counted_211 (by decide) hf (fun c211 hf => ?_) (fun c211 hf => ?_)
      · refine r_iload_n (pc := 221) C 2 d_Model_counted_221 rfl rfl ?_
        exact r_iret (pc := 222) C d_Model_counted_222 hf
      · refine r_aload_n (pc := 214) C 0 d_Model_counted_214 rfl rfl ?_
        refine g_Model_hourMany (pc := 215) C k_id176 Lf_Model_189 d_Model_counted_215 ?_
        refine r_goto (pc := 218) C (tgt := 222) d_Model_counted_218 (by decide) ?_
        exact r_iret (pc := 222) C d_Model_counted_222 hf
    · refine r_aload_n (pc := 202) C 0 d_Model_counted_202 rfl rfl ?_
      refine g_Model_n (pc := 203) C k_id176 Lf_Model_176 d_Model_counted_203 ?_
      refine r_goto (pc := 206) C (tgt := 222) d_Model_counted_206 (by decide) ?_
      exact r_iret (pc := 222) C d_Model_counted_222 hf
  · refine r_iload_n (pc := 169) C 2 d_Model_counted_169 rfl rfl ?_
    refine r_iload_n (pc := 170) C 1 d_Model_counted_170 rfl rfl ?_
    refine r_bipush (pc := 171) C (v := 7) d_Model_counted_171 (by decide) ?_
    refine r_icmp_ne (pc := 173) C (tgt := 189) d_Model_counted_173 (by decide) hf (fun c173 hf => ?_) (fun c173 hf => ?_)
    · exact r_lv (pc := 189) C [0, 1, 3] rfl (tb_Model_counted_189 C hk164 hf)
    · refine r_aload_n (pc := 176) C 0 d_Model_counted_176 rfl rfl ?_
      refine g_Model_textSizes (pc := 177) C k_id176 Lf_Model_22 d_Model_counted_177 ?_
      refine r_iload_n (pc := 180) C 3 d_Model_counted_180 rfl rfl ?_
      refine r_iald (pc := 181) C kq_Model_textSizes d_Model_counted_181 hf (fun hf => ?_)
      refine r_if_lt (pc := 182) C (tgt := 189) d_Model_counted_182 (by decide) hf (fun c182 hf => ?_) (fun c182 hf => ?_)
      · exact r_lv (pc := 189) C [0, 1, 3] rfl (tb_Model_counted_189 C hk164 hf)
      · refine r_iconst (pc := 185) C (v := 1) d_Model_counted_185 (by decide) ?_
        refine r_goto (pc := 186) C (tgt := 190) d_Model_counted_186 (by decide) ?_
        exact r_lv (pc := 190) C [0, 1, 3] rfl (tb_Model_counted_190 C hk164 hf)
theorem tl_Model_counted_164 {Γ : GmT} {G : Dt → Nat → List (Nat × Value) → List Value → Prop} {rr : Int32} {DD : Dt} (C : Cx Γ "RiverTuesdaysModel" b_Model_counted 4 2 (some .int) (some (.int rr)) DD G) : ∀ (n : Nat) (v1 : Int32) (v2 : Int32) (v3 : Int32) (D : Dt), lp_Model_counted_164 n v1 v2 v3 D = some (rr, DD) → G D 164 [(0, .ref (Γ.2.1 176)), (1, .int v1), (2, .int v2), (3, .int v3)] [] := by
  intro n
  induction n with
  | zero =>
    intro v1 v2 v3 D hf
    exact absurd (show (none : Option (Int32 × Dt)) = some (rr, DD) from hf) (by simp)
  | succ n ih =>
    intro v1 v2 v3 D hf
    exact ts_Model_counted_164 C (k164 := lp_Model_counted_164 n) ih hf
def b_Model_counted_154 (k127 : Int32 → Int32 → Int32 → Dt → Option (Int32 × Dt)) (v1 : Int32) (v3 : Int32) (s0 : Int32) (s1 : Int32) (D : Dt) : Option (Int32 × Dt) :=
  k127 v1 (s1 + s0) (v3 + 1) D
set_option maxHeartbeats 4000000 in
theorem tb_Model_counted_154 {Γ : GmT} {G : Dt → Nat → List (Nat × Value) → List Value → Prop} {rr : Int32} {DD : Dt} (C : Cx Γ "RiverTuesdaysModel" b_Model_counted 4 2 (some .int) (some (.int rr)) DD G) {k127 : Int32 → Int32 → Int32 → Dt → Option (Int32 × Dt)} (hk127 : ∀ (v1 : Int32) (v2 : Int32) (v3 : Int32) (D : Dt), k127 v1 v2 v3 D = some (rr, DD) → G D 127 [(0, .ref (Γ.2.1 176)), (1, .int v1), (2, .int v2), (3, .int v3)] []) {v1 : Int32} {v3 : Int32} {s0 : Int32} {s1 : Int32} {D : Dt} (hf : b_Model_counted_154 k127 v1 v3 s0 s1 D = some (rr, DD)) : G D 154 [(0, .ref (Γ.2.1 176)), (1, .int v1), (3, .int v3)] [.int s0, .int s1] := by
  unfold b_Model_counted_154 at hf
  refine r_iadd (pc := 154) C d_Model_counted_154 ?_
  refine r_istore_n (pc := 155) (lv' := [(2, .int (s1 + s0)), (0, .ref (Γ.2.1 176)), (1, .int v1), (3, .int v3)]) C d_Model_counted_155 rfl (Nat.le_of_ble_eq_true rfl) rfl ?_
  refine r_iinc (pc := 156) C (v := v3 + 1) (lv' := [(3, .int (v3 + 1)), (2, .int (s1 + s0)), (0, .ref (Γ.2.1 176)), (1, .int v1)]) 3 d_Model_counted_156 rfl rfl (Nat.le_of_ble_eq_true rfl) rfl ?_
  refine r_goto (pc := 159) C (tgt := 127) d_Model_counted_159 (by decide) ?_
  exact r_lv (pc := 127) C [2, 3, 1, 0] rfl (hk127 v1 (s1 + s0) (v3 + 1) D hf)
def b_Model_counted_153 (k127 : Int32 → Int32 → Int32 → Dt → Option (Int32 × Dt)) (v1 : Int32) (v3 : Int32) (s0 : Int32) (D : Dt) : Option (Int32 × Dt) :=
  b_Model_counted_154 k127 v1 v3 0 s0 D
set_option maxHeartbeats 4000000 in
theorem tb_Model_counted_153 {Γ : GmT} {G : Dt → Nat → List (Nat × Value) → List Value → Prop} {rr : Int32} {DD : Dt} (C : Cx Γ "RiverTuesdaysModel" b_Model_counted 4 2 (some .int) (some (.int rr)) DD G) {k127 : Int32 → Int32 → Int32 → Dt → Option (Int32 × Dt)} (hk127 : ∀ (v1 : Int32) (v2 : Int32) (v3 : Int32) (D : Dt), k127 v1 v2 v3 D = some (rr, DD) → G D 127 [(0, .ref (Γ.2.1 176)), (1, .int v1), (2, .int v2), (3, .int v3)] []) {v1 : Int32} {v3 : Int32} {s0 : Int32} {D : Dt} (hf : b_Model_counted_153 k127 v1 v3 s0 D = some (rr, DD)) : G D 153 [(0, .ref (Γ.2.1 176)), (1, .int v1), (3, .int v3)] [.int s0] := by
  unfold b_Model_counted_153 at hf
  refine r_iconst (pc := 153) C (v := 0) d_Model_counted_153 (by decide) ?_
  exact r_lv (pc := 154) C [0, 1, 2] rfl (tb_Model_counted_154 C hk127 hf)
def s_Model_counted_127 (k127 : Int32 → Int32 → Int32 → Dt → Option (Int32 × Dt)) (v1 : Int32) (v2 : Int32) (v3 : Int32) (D : Dt) : Option (Int32 × Dt) :=
  (if 6 ≤ v3 then lp_Model_counted_164 FU v1 v2 0 D else (if v1 = 6 then (if inb v3 6 = true then (if (D 178 v3.toNatClampNeg) < 0 then b_Model_counted_153 k127 v1 v3 v2 D else b_Model_counted_154 k127 v1 v3 1 v2 D) else none) else b_Model_counted_153 k127 v1 v3 v2 D))
def lp_Model_counted_127 (n : Nat) : Int32 → Int32 → Int32 → Dt → Option (Int32 × Dt) := itr (fun _ _ _ _ => none) (s_Model_counted_127) n
set_option maxHeartbeats 4000000 in
theorem ts_Model_counted_127 {Γ : GmT} {G : Dt → Nat → List (Nat × Value) → List Value → Prop} {rr : Int32} {DD : Dt} (C : Cx Γ "RiverTuesdaysModel" b_Model_counted 4 2 (some .int) (some (.int rr)) DD G) {k127 : Int32 → Int32 → Int32 → Dt → Option (Int32 × Dt)} (hk127 : ∀ (v1 : Int32) (v2 : Int32) (v3 : Int32) (D : Dt), k127 v1 v2 v3 D = some (rr, DD) → G D 127 [(0, .ref (Γ.2.1 176)), (1, .int v1), (2, .int v2), (3, .int v3)] []) {v1 : Int32} {v2 : Int32} {v3 : Int32} {D : Dt} (hf : s_Model_counted_127 k127 v1 v2 v3 D = some (rr, DD)) : G D 127 [(0, .ref (Γ.2.1 176)), (1, .int v1), (2, .int v2), (3, .int v3)] [] := by
  unfold s_Model_counted_127 at hf
  refine r_iload_n (pc := 127) C 3 d_Model_counted_127 rfl rfl ?_
  refine r_bipush (pc := 128) C (v := 6) d_Model_counted_128 (by decide) ?_
  refine r_icmp_ge (pc := 130) C (tgt := 162) d_Model_counted_130 (by decide) hf (fun c130 hf => ?_) (fun c130 hf => ?_)
  · refine r_iconst (pc := 162) C (v := 0) d_Model_counted_162 (by decide) ?_
    refine r_istore_n (pc := 163) (lv' := [(3, .int 0), (0, .ref (Γ.2.1 176)), (1, .int v1), (2, .int v2)]) C d_Model_counted_163 rfl (Nat.le_of_ble_eq_true rfl) rfl ?_
    exact r_lv (pc := 164) C [1, 2, 3, 0] rfl (tl_Model_counted_164 C FU v1 v2 0 D hf)
  · refine r_iload_n (pc := 133) C 2 d_Model_counted_133 rfl rfl ?_
    refine r_iload_n (pc := 134) C 1 d_Model_counted_134 rfl rfl ?_
    refine r_bipush (pc := 135) C (v := 6) d_Model_counted_135 (by decide) ?_
    refine r_icmp_ne (pc := 137) C (tgt := 153) d_Model_counted_137 (by decide) hf (fun c137 hf => ?_) (fun c137 hf => ?_)
    · exact r_lv (pc := 153) C [0, 1, 3] rfl (tb_Model_counted_153 C hk127 hf)
    · refine r_aload_n (pc := 140) C 0 d_Model_counted_140 rfl rfl ?_
      refine g_Model_sizes (pc := 141) C k_id176 Lf_Model_13 d_Model_counted_141 ?_
      refine r_iload_n (pc := 144) C 3 d_Model_counted_144 rfl rfl ?_
      refine r_iald (pc := 145) C kq_Model_sizes d_Model_counted_145 hf (fun hf => ?_)
      refine r_if_lt (pc := 146) C (tgt := 153) d_Model_counted_146 (by decide) hf (fun c146 hf => ?_) (fun c146 hf => ?_)
      · exact r_lv (pc := 153) C [0, 1, 3] rfl (tb_Model_counted_153 C hk127 hf)
      · refine r_iconst (pc := 149) C (v := 1) d_Model_counted_149 (by decide) ?_
        refine r_goto (pc := 150) C (tgt := 154) d_Model_counted_150 (by decide) ?_
        exact r_lv (pc := 154) C [0, 1, 3] rfl (tb_Model_counted_154 C hk127 hf)
theorem tl_Model_counted_127 {Γ : GmT} {G : Dt → Nat → List (Nat × Value) → List Value → Prop} {rr : Int32} {DD : Dt} (C : Cx Γ "RiverTuesdaysModel" b_Model_counted 4 2 (some .int) (some (.int rr)) DD G) : ∀ (n : Nat) (v1 : Int32) (v2 : Int32) (v3 : Int32) (D : Dt), lp_Model_counted_127 n v1 v2 v3 D = some (rr, DD) → G D 127 [(0, .ref (Γ.2.1 176)), (1, .int v1), (2, .int v2), (3, .int v3)] [] := by
  intro n
  induction n with
  | zero =>
    intro v1 v2 v3 D hf
    exact absurd (show (none : Option (Int32 × Dt)) = some (rr, DD) from hf) (by simp)
  | succ n ih =>
    intro v1 v2 v3 D hf
    exact ts_Model_counted_127 C (k127 := lp_Model_counted_127 n) ih hf
def b_Model_counted_117 (k93 : Int32 → Int32 → Int32 → Dt → Option (Int32 × Dt)) (v1 : Int32) (v3 : Int32) (s0 : Int32) (s1 : Int32) (D : Dt) : Option (Int32 × Dt) :=
  k93 v1 (s1 + s0) (v3 + 1) D
set_option maxHeartbeats 4000000 in
theorem tb_Model_counted_117 {Γ : GmT} {G : Dt → Nat → List (Nat × Value) → List Value → Prop} {rr : Int32} {DD : Dt} (C : Cx Γ "RiverTuesdaysModel" b_Model_counted 4 2 (some .int) (some (.int rr)) DD G) {k93 : Int32 → Int32 → Int32 → Dt → Option (Int32 × Dt)} (hk93 : ∀ (v1 : Int32) (v2 : Int32) (v3 : Int32) (D : Dt), k93 v1 v2 v3 D = some (rr, DD) → G D 93 [(0, .ref (Γ.2.1 176)), (1, .int v1), (2, .int v2), (3, .int v3)] []) {v1 : Int32} {v3 : Int32} {s0 : Int32} {s1 : Int32} {D : Dt} (hf : b_Model_counted_117 k93 v1 v3 s0 s1 D = some (rr, DD)) : G D 117 [(0, .ref (Γ.2.1 176)), (1, .int v1), (3, .int v3)] [.int s0, .int s1] := by
  unfold b_Model_counted_117 at hf
  refine r_iadd (pc := 117) C d_Model_counted_117 ?_
  refine r_istore_n (pc := 118) (lv' := [(2, .int (s1 + s0)), (0, .ref (Γ.2.1 176)), (1, .int v1), (3, .int v3)]) C d_Model_counted_118 rfl (Nat.le_of_ble_eq_true rfl) rfl ?_
  refine r_iinc (pc := 119) C (v := v3 + 1) (lv' := [(3, .int (v3 + 1)), (2, .int (s1 + s0)), (0, .ref (Γ.2.1 176)), (1, .int v1)]) 3 d_Model_counted_119 rfl rfl (Nat.le_of_ble_eq_true rfl) rfl ?_
  refine r_goto (pc := 122) C (tgt := 93) d_Model_counted_122 (by decide) ?_
  exact r_lv (pc := 93) C [2, 3, 1, 0] rfl (hk93 v1 (s1 + s0) (v3 + 1) D hf)
def b_Model_counted_116 (k93 : Int32 → Int32 → Int32 → Dt → Option (Int32 × Dt)) (v1 : Int32) (v3 : Int32) (s0 : Int32) (D : Dt) : Option (Int32 × Dt) :=
  b_Model_counted_117 k93 v1 v3 0 s0 D
set_option maxHeartbeats 4000000 in
theorem tb_Model_counted_116 {Γ : GmT} {G : Dt → Nat → List (Nat × Value) → List Value → Prop} {rr : Int32} {DD : Dt} (C : Cx Γ "RiverTuesdaysModel" b_Model_counted 4 2 (some .int) (some (.int rr)) DD G) {k93 : Int32 → Int32 → Int32 → Dt → Option (Int32 × Dt)} (hk93 : ∀ (v1 : Int32) (v2 : Int32) (v3 : Int32) (D : Dt), k93 v1 v2 v3 D = some (rr, DD) → G D 93 [(0, .ref (Γ.2.1 176)), (1, .int v1), (2, .int v2), (3, .int v3)] []) {v1 : Int32} {v3 : Int32} {s0 : Int32} {D : Dt} (hf : b_Model_counted_116 k93 v1 v3 s0 D = some (rr, DD)) : G D 116 [(0, .ref (Γ.2.1 176)), (1, .int v1), (3, .int v3)] [.int s0] := by
  unfold b_Model_counted_116 at hf
  refine r_iconst (pc := 116) C (v := 0) d_Model_counted_116 (by decide) ?_
  exact r_lv (pc := 117) C [0, 1, 2] rfl (tb_Model_counted_117 C hk93 hf)
def s_Model_counted_93 (k93 : Int32 → Int32 → Int32 → Dt → Option (Int32 × Dt)) (v1 : Int32) (v2 : Int32) (v3 : Int32) (D : Dt) : Option (Int32 × Dt) :=
  (if 3 ≤ v3 then lp_Model_counted_127 FU v1 v2 0 D else (if v1 = 5 then bnd (f_Model_isThere v3 D) (fun x1 D2 => (if x1 = 0 then b_Model_counted_116 k93 v1 v3 v2 D2 else b_Model_counted_117 k93 v1 v3 1 v2 D2)) else b_Model_counted_116 k93 v1 v3 v2 D))
def lp_Model_counted_93 (n : Nat) : Int32 → Int32 → Int32 → Dt → Option (Int32 × Dt) := itr (fun _ _ _ _ => none) (s_Model_counted_93) n
set_option maxHeartbeats 4000000 in
theorem ts_Model_counted_93 {Γ : GmT} {G : Dt → Nat → List (Nat × Value) → List Value → Prop} {rr : Int32} {DD : Dt} (C : Cx Γ "RiverTuesdaysModel" b_Model_counted 4 2 (some .int) (some (.int rr)) DD G) {k93 : Int32 → Int32 → Int32 → Dt → Option (Int32 × Dt)} (hk93 : ∀ (v1 : Int32) (v2 : Int32) (v3 : Int32) (D : Dt), k93 v1 v2 v3 D = some (rr, DD) → G D 93 [(0, .ref (Γ.2.1 176)), (1, .int v1), (2, .int v2), (3, .int v3)] []) {v1 : Int32} {v2 : Int32} {v3 : Int32} {D : Dt} (hf : s_Model_counted_93 k93 v1 v2 v3 D = some (rr, DD)) : G D 93 [(0, .ref (Γ.2.1 176)), (1, .int v1), (2, .int v2), (3, .int v3)] [] := by
  unfold s_Model_counted_93 at hf
  refine r_iload_n (pc := 93) C 3 d_Model_counted_93 rfl rfl ?_
  refine r_iconst (pc := 94) C (v := 3) d_Model_counted_94 (by decide) ?_
  refine r_icmp_ge (pc := 95) C (tgt := 125) d_Model_counted_95 (by decide) hf (fun c95 hf => ?_) (fun c95 hf => ?_)
  · refine r_iconst (pc := 125) C (v := 0) d_Model_counted_125 (by decide) ?_
    refine r_istore_n (pc := 126) (lv' := [(3, .int 0), (0, .ref (Γ.2.1 176)), (1, .int v1), (2, .int v2)]) C d_Model_counted_126 rfl (Nat.le_of_ble_eq_true rfl) rfl ?_
    exact r_lv (pc := 127) C [1, 2, 3, 0] rfl (tl_Model_counted_127 C FU v1 v2 0 D hf)
  · refine r_iload_n (pc := 98) C 2 d_Model_counted_98 rfl rfl ?_
    refine r_iload_n (pc := 99) C 1 d_Model_counted_99 rfl rfl ?_
    refine r_iconst (pc := 100) C (v := 5) d_Model_counted_100 (by decide) ?_
    refine r_icmp_ne (pc := 101) C (tgt := 116) d_Model_counted_101 (by decide) hf (fun c101 hf => ?_) (fun c101 hf => ?_)
    · exact r_lv (pc := 116) C [0, 1, 3] rfl (tb_Model_counted_116 C hk93 hf)
    · refine r_aload_n (pc := 104) C 0 d_Model_counted_104 rfl rfl ?_
      refine r_iload_n (pc := 105) C 3 d_Model_counted_105 rfl rfl ?_
      refine r_callVi (pc := 106) (As := [.int v3]) (rest := [.int v2]) C ok_Model_isThere Lm_Model_239 k_id176 (by decide) ⟨by decide, by decide⟩ rfl rfl (Nat.le_of_ble_eq_true rfl) d_Model_counted_106 hf (fun x D1 hc => c_Model_isThere Γ hc) (fun x1 D2 hf => ?_)
      refine r_if_eq (pc := 109) C (tgt := 116) d_Model_counted_109 (by decide) hf (fun c109 hf => ?_) (fun c109 hf => ?_)
      · exact r_lv (pc := 116) C [0, 1, 3] rfl (tb_Model_counted_116 C hk93 hf)
      · refine r_iconst (pc := 112) C (v := 1) d_Model_counted_112 (by decide) ?_
        refine r_goto (pc := 113) C (tgt := 117) d_Model_counted_113 (by decide) ?_
        exact r_lv (pc := 117) C [0, 1, 3] rfl (tb_Model_counted_117 C hk93 hf)
theorem tl_Model_counted_93 {Γ : GmT} {G : Dt → Nat → List (Nat × Value) → List Value → Prop} {rr : Int32} {DD : Dt} (C : Cx Γ "RiverTuesdaysModel" b_Model_counted 4 2 (some .int) (some (.int rr)) DD G) : ∀ (n : Nat) (v1 : Int32) (v2 : Int32) (v3 : Int32) (D : Dt), lp_Model_counted_93 n v1 v2 v3 D = some (rr, DD) → G D 93 [(0, .ref (Γ.2.1 176)), (1, .int v1), (2, .int v2), (3, .int v3)] [] := by
  intro n
  induction n with
  | zero =>
    intro v1 v2 v3 D hf
    exact absurd (show (none : Option (Int32 × Dt)) = some (rr, DD) from hf) (by simp)
  | succ n ih =>
    intro v1 v2 v3 D hf
    exact ts_Model_counted_93 C (k93 := lp_Model_counted_93 n) ih hf
def b_Model_counted_83 (k4 : Int32 → Int32 → Int32 → Dt → Option (Int32 × Dt)) (v1 : Int32) (v3 : Int32) (s0 : Int32) (s1 : Int32) (D : Dt) : Option (Int32 × Dt) :=
  k4 v1 (s1 + s0) (v3 + 1) D
set_option maxHeartbeats 4000000 in
theorem tb_Model_counted_83 {Γ : GmT} {G : Dt → Nat → List (Nat × Value) → List Value → Prop} {rr : Int32} {DD : Dt} (C : Cx Γ "RiverTuesdaysModel" b_Model_counted 4 2 (some .int) (some (.int rr)) DD G) {k4 : Int32 → Int32 → Int32 → Dt → Option (Int32 × Dt)} (hk4 : ∀ (v1 : Int32) (v2 : Int32) (v3 : Int32) (D : Dt), k4 v1 v2 v3 D = some (rr, DD) → G D 4 [(0, .ref (Γ.2.1 176)), (1, .int v1), (2, .int v2), (3, .int v3)] []) {v1 : Int32} {v3 : Int32} {s0 : Int32} {s1 : Int32} {D : Dt} (hf : b_Model_counted_83 k4 v1 v3 s0 s1 D = some (rr, DD)) : G D 83 [(0, .ref (Γ.2.1 176)), (1, .int v1), (3, .int v3)] [.int s0, .int s1] := by
  unfold b_Model_counted_83 at hf
  refine r_iadd (pc := 83) C d_Model_counted_83 ?_
  refine r_istore_n (pc := 84) (lv' := [(2, .int (s1 + s0)), (0, .ref (Γ.2.1 176)), (1, .int v1), (3, .int v3)]) C d_Model_counted_84 rfl (Nat.le_of_ble_eq_true rfl) rfl ?_
  refine r_iinc (pc := 85) C (v := v3 + 1) (lv' := [(3, .int (v3 + 1)), (2, .int (s1 + s0)), (0, .ref (Γ.2.1 176)), (1, .int v1)]) 3 d_Model_counted_85 rfl rfl (Nat.le_of_ble_eq_true rfl) rfl ?_
  refine r_goto (pc := 88) C (tgt := 4) d_Model_counted_88 (by decide) ?_
  exact r_lv (pc := 4) C [2, 3, 1, 0] rfl (hk4 v1 (s1 + s0) (v3 + 1) D hf)
def b_Model_counted_82 (k4 : Int32 → Int32 → Int32 → Dt → Option (Int32 × Dt)) (v1 : Int32) (v3 : Int32) (s0 : Int32) (D : Dt) : Option (Int32 × Dt) :=
  b_Model_counted_83 k4 v1 v3 0 s0 D
set_option maxHeartbeats 4000000 in
theorem tb_Model_counted_82 {Γ : GmT} {G : Dt → Nat → List (Nat × Value) → List Value → Prop} {rr : Int32} {DD : Dt} (C : Cx Γ "RiverTuesdaysModel" b_Model_counted 4 2 (some .int) (some (.int rr)) DD G) {k4 : Int32 → Int32 → Int32 → Dt → Option (Int32 × Dt)} (hk4 : ∀ (v1 : Int32) (v2 : Int32) (v3 : Int32) (D : Dt), k4 v1 v2 v3 D = some (rr, DD) → G D 4 [(0, .ref (Γ.2.1 176)), (1, .int v1), (2, .int v2), (3, .int v3)] []) {v1 : Int32} {v3 : Int32} {s0 : Int32} {D : Dt} (hf : b_Model_counted_82 k4 v1 v3 s0 D = some (rr, DD)) : G D 82 [(0, .ref (Γ.2.1 176)), (1, .int v1), (3, .int v3)] [.int s0] := by
  unfold b_Model_counted_82 at hf
  refine r_iconst (pc := 82) C (v := 0) d_Model_counted_82 (by decide) ?_
  exact r_lv (pc := 83) C [0, 1, 2] rfl (tb_Model_counted_83 C hk4 hf)
def b_Model_counted_78 (k4 : Int32 → Int32 → Int32 → Dt → Option (Int32 × Dt)) (v1 : Int32) (v3 : Int32) (s0 : Int32) (D : Dt) : Option (Int32 × Dt) :=
  b_Model_counted_83 k4 v1 v3 1 s0 D
set_option maxHeartbeats 4000000 in
theorem tb_Model_counted_78 {Γ : GmT} {G : Dt → Nat → List (Nat × Value) → List Value → Prop} {rr : Int32} {DD : Dt} (C : Cx Γ "RiverTuesdaysModel" b_Model_counted 4 2 (some .int) (some (.int rr)) DD G) {k4 : Int32 → Int32 → Int32 → Dt → Option (Int32 × Dt)} (hk4 : ∀ (v1 : Int32) (v2 : Int32) (v3 : Int32) (D : Dt), k4 v1 v2 v3 D = some (rr, DD) → G D 4 [(0, .ref (Γ.2.1 176)), (1, .int v1), (2, .int v2), (3, .int v3)] []) {v1 : Int32} {v3 : Int32} {s0 : Int32} {D : Dt} (hf : b_Model_counted_78 k4 v1 v3 s0 D = some (rr, DD)) : G D 78 [(0, .ref (Γ.2.1 176)), (1, .int v1), (3, .int v3)] [.int s0] := by
  unfold b_Model_counted_78 at hf
  refine r_iconst (pc := 78) C (v := 1) d_Model_counted_78 (by decide) ?_
  refine r_goto (pc := 79) C (tgt := 83) d_Model_counted_79 (by decide) ?_
  exact r_lv (pc := 83) C [0, 1, 2] rfl (tb_Model_counted_83 C hk4 hf)
def b_Model_counted_63 (k4 : Int32 → Int32 → Int32 → Dt → Option (Int32 × Dt)) (v1 : Int32) (v3 : Int32) (s0 : Int32) (D : Dt) : Option (Int32 × Dt) :=
  (if v1 = 4 then (if inb v3 8 = true then (if (D 187 v3.toNatClampNeg) = 1 then b_Model_counted_78 k4 v1 v3 s0 D else b_Model_counted_82 k4 v1 v3 s0 D) else none) else b_Model_counted_82 k4 v1 v3 s0 D)
set_option maxHeartbeats 4000000 in
theorem tb_Model_counted_63 {Γ : GmT} {G : Dt → Nat → List (Nat × Value) → List Value → Prop} {rr : Int32} {DD : Dt} (C : Cx Γ "RiverTuesdaysModel" b_Model_counted 4 2 (some .int) (some (.int rr)) DD G) {k4 : Int32 → Int32 → Int32 → Dt → Option (Int32 × Dt)} (hk4 : ∀ (v1 : Int32) (v2 : Int32) (v3 : Int32) (D : Dt), k4 v1 v2 v3 D = some (rr, DD) → G D 4 [(0, .ref (Γ.2.1 176)), (1, .int v1), (2, .int v2), (3, .int v3)] []) {v1 : Int32} {v3 : Int32} {s0 : Int32} {D : Dt} (hf : b_Model_counted_63 k4 v1 v3 s0 D = some (rr, DD)) : G D 63 [(0, .ref (Γ.2.1 176)), (1, .int v1), (3, .int v3)] [.int s0] := by
  unfold b_Model_counted_63 at hf
  refine r_iload_n (pc := 63) C 1 d_Model_counted_63 rfl rfl ?_
  refine r_iconst (pc := 64) C (v := 4) d_Model_counted_64 (by decide) ?_
  refine r_icmp_ne (pc := 65) C (tgt := 82) d_Model_counted_65 (by decide) hf (fun c65 hf => ?_) (fun c65 hf => ?_)
  · exact r_lv (pc := 82) C [0, 1, 2] rfl (tb_Model_counted_82 C hk4 hf)
  · refine r_aload_n (pc := 68) C 0 d_Model_counted_68 rfl rfl ?_
    refine g_Model_shutNow (pc := 69) C k_id176 Lf_Model_41 d_Model_counted_69 ?_
    refine r_iload_n (pc := 72) C 2 d_Model_counted_72 rfl rfl ?_
    refine r_iald (pc := 73) C kq_Model_shutNow d_Model_counted_73 hf (fun hf => ?_)
    refine r_iconst (pc := 74) C (v := 1) d_Model_counted_74 (by decide) ?_
    refine r_icmp_ne (pc := 75) C (tgt := 82) d_Model_counted_75 (by decide) hf (fun c75 hf => ?_) (fun c75 hf => ?_)
    · exact r_lv (pc := 82) C [0, 1, 2] rfl (tb_Model_counted_82 C hk4 hf)
    · exact r_lv (pc := 78) C [0, 1, 2] rfl (tb_Model_counted_78 C hk4 hf)
def b_Model_counted_38 (k4 : Int32 → Int32 → Int32 → Dt → Option (Int32 × Dt)) (v1 : Int32) (v3 : Int32) (s0 : Int32) (D : Dt) : Option (Int32 × Dt) :=
  (if v1 = 3 then (if inb v3 8 = true then (if (D 183 v3.toNatClampNeg) = 3 then b_Model_counted_78 k4 v1 v3 s0 D else (if inb v3 8 = true then (if (D 183 v3.toNatClampNeg) = 5 then b_Model_counted_78 k4 v1 v3 s0 D else b_Model_counted_63 k4 v1 v3 s0 D) else none)) else none) else b_Model_counted_63 k4 v1 v3 s0 D)
set_option maxHeartbeats 4000000 in
theorem tb_Model_counted_38 {Γ : GmT} {G : Dt → Nat → List (Nat × Value) → List Value → Prop} {rr : Int32} {DD : Dt} (C : Cx Γ "RiverTuesdaysModel" b_Model_counted 4 2 (some .int) (some (.int rr)) DD G) {k4 : Int32 → Int32 → Int32 → Dt → Option (Int32 × Dt)} (hk4 : ∀ (v1 : Int32) (v2 : Int32) (v3 : Int32) (D : Dt), k4 v1 v2 v3 D = some (rr, DD) → G D 4 [(0, .ref (Γ.2.1 176)), (1, .int v1), (2, .int v2), (3, .int v3)] []) {v1 : Int32} {v3 : Int32} {s0 : Int32} {D : Dt} (hf : b_Model_counted_38 k4 v1 v3 s0 D = some (rr, DD)) : G D 38 [(0, .ref (Γ.2.1 176)), (1, .int v1), (3, .int v3)] [.int s0] := by
  unfold b_Model_counted_38 at hf
  refine r_iload_n (pc := 38) C 1 d_Model_counted_38 rfl rfl ?_
  refine r_iconst (pc := 39) C (v := 3) d_Model_counted_39 (by decide) ?_
  refine r_icmp_ne (pc := 40) C (tgt := 63) d_Model_counted_40 (by decide) hf (fun c40 hf => ?_) (fun c40 hf => ?_)
  · exact r_lv (pc := 63) C [0, 1, 2] rfl (tb_Model_counted_63 C hk4 hf)
  · refine r_aload_n (pc := 43) C 0 d_Model_counted_43 rfl rfl ?_
    refine g_Model_kinds (pc := 44) C k_id176 Lf_Model_29 d_Model_counted_44 ?_
    refine r_iload_n (pc := 47) C 2 d_Model_counted_47 rfl rfl ?_
    refine r_iald (pc := 48) C kq_Model_kinds d_Model_counted_48 hf (fun hf => ?_)
    refine r_iconst (pc := 49) C (v := 3) d_Model_counted_49 (by decide) ?_
    refine r_icmp_eq (pc := 50) C (tgt := 78) d_Model_counted_50 (by decide) hf (fun c50 hf => ?_) (fun c50 hf => ?_)
    · exact r_lv (pc := 78) C [0, 1, 2] rfl (tb_Model_counted_78 C hk4 hf)
    · refine r_aload_n (pc := 53) C 0 d_Model_counted_53 rfl rfl ?_
      refine g_Model_kinds (pc := 54) C k_id176 Lf_Model_29 d_Model_counted_54 ?_
      refine r_iload_n (pc := 57) C 2 d_Model_counted_57 rfl rfl ?_
      refine r_iald (pc := 58) C kq_Model_kinds d_Model_counted_58 hf (fun hf => ?_)
      refine r_iconst (pc := 59) C (v := 5) d_Model_counted_59 (by decide) ?_
      refine r_icmp_eq (pc := 60) C (tgt := 78) d_Model_counted_60 (by decide) hf (fun c60 hf => ?_) (fun c60 hf => ?_)
      · exact r_lv (pc := 78) C [0, 1, 2] rfl (tb_Model_counted_78 C hk4 hf)
      · exact r_lv (pc := 63) C [0, 1, 2] rfl (tb_Model_counted_63 C hk4 hf)
def s_Model_counted_4 (k4 : Int32 → Int32 → Int32 → Dt → Option (Int32 × Dt)) (v1 : Int32) (v2 : Int32) (v3 : Int32) (D : Dt) : Option (Int32 × Dt) :=
  (if (D 176 10) ≤ v3 then lp_Model_counted_93 FU v1 v2 0 D else (if v1 = 2 then (if inb v3 8 = true then (if (D 183 v3.toNatClampNeg) = 1 then b_Model_counted_78 k4 v1 v3 v2 D else (if inb v3 8 = true then (if (D 183 v3.toNatClampNeg) = 4 then b_Model_counted_78 k4 v1 v3 v2 D else b_Model_counted_38 k4 v1 v3 v2 D) else none)) else none) else b_Model_counted_38 k4 v1 v3 v2 D))
def lp_Model_counted_4 (n : Nat) : Int32 → Int32 → Int32 → Dt → Option (Int32 × Dt) := itr (fun _ _ _ _ => none) (s_Model_counted_4) n
set_option maxHeartbeats 4000000 in
theorem ts_Model_counted_4 {Γ : GmT} {G : Dt → Nat → List (Nat × Value) → List Value → Prop} {rr : Int32} {DD : Dt} (C : Cx Γ "RiverTuesdaysModel" b_Model_counted 4 2 (some .int) (some (.int rr)) DD G) {k4 : Int32 → Int32 → Int32 → Dt → Option (Int32 × Dt)} (hk4 : ∀ (v1 : Int32) (v2 : Int32) (v3 : Int32) (D : Dt), k4 v1 v2 v3 D = some (rr, DD) → G D 4 [(0, .ref (Γ.2.1 176)), (1, .int v1), (2, .int v2), (3, .int v3)] []) {v1 : Int32} {v2 : Int32} {v3 : Int32} {D : Dt} (hf : s_Model_counted_4 k4 v1 v2 v3 D = some (rr, DD)) : G D 4 [(0, .ref (Γ.2.1 176)), (1, .int v1), (2, .int v2), (3, .int v3)] [] := by
  unfold s_Model_counted_4 at hf
  refine r_iload_n (pc := 4) C 3 d_Model_counted_4 rfl rfl ?_
  refine r_aload_n (pc := 5) C 0 d_Model_counted_5 rfl rfl ?_
  refine g_Model_n (pc := 6) C k_id176 Lf_Model_176 d_Model_counted_6 ?_
  refine r_icmp_ge (pc := 9) C (tgt := 91) d_Model_counted_9 (by decide) hf (fun c9 hf => ?_) (fun c9 hf => ?_)
  · refine r_iconst (pc := 91) C (v := 0) d_Model_counted_91 (by decide) ?_
    refine r_istore_n (pc := 92) (lv' := [(3, .int 0), (0, .ref (Γ.2.1 176)), (1, .int v1), (2, .int v2)]) C d_Model_counted_92 rfl (Nat.le_of_ble_eq_true rfl) rfl ?_
    exact r_lv (pc := 93) C [1, 2, 3, 0] rfl (tl_Model_counted_93 C FU v1 v2 0 D hf)
  · refine r_iload_n (pc := 12) C 2 d_Model_counted_12 rfl rfl ?_
    refine r_iload_n (pc := 13) C 1 d_Model_counted_13 rfl rfl ?_
    refine r_iconst (pc := 14) C (v := 2) d_Model_counted_14 (by decide) ?_
    refine r_icmp_ne (pc := 15) C (tgt := 38) d_Model_counted_15 (by decide) hf (fun c15 hf => ?_) (fun c15 hf => ?_)
    · exact r_lv (pc := 38) C [0, 1, 3] rfl (tb_Model_counted_38 C hk4 hf)
    · refine r_aload_n (pc := 18) C 0 d_Model_counted_18 rfl rfl ?_
      refine g_Model_kinds (pc := 19) C k_id176 Lf_Model_29 d_Model_counted_19 ?_
      refine r_iload_n (pc := 22) C 3 d_Model_counted_22 rfl rfl ?_
      refine r_iald (pc := 23) C kq_Model_kinds d_Model_counted_23 hf (fun hf => ?_)
      refine r_iconst (pc := 24) C (v := 1) d_Model_counted_24 (by decide) ?_
      refine r_icmp_eq (pc := 25) C (tgt := 78) d_Model_counted_25 (by decide) hf (fun c25 hf => ?_) (fun c25 hf => ?_)
      · exact r_lv (pc := 78) C [0, 1, 3] rfl (tb_Model_counted_78 C hk4 hf)
      · refine r_aload_n (pc := 28) C 0 d_Model_counted_28 rfl rfl ?_
        refine g_Model_kinds (pc := 29) C k_id176 Lf_Model_29 d_Model_counted_29 ?_
        refine r_iload_n (pc := 32) C 3 d_Model_counted_32 rfl rfl ?_
        refine r_iald (pc := 33) C kq_Model_kinds d_Model_counted_33 hf (fun hf => ?_)
        refine r_iconst (pc := 34) C (v := 4) d_Model_counted_34 (by decide) ?_
        refine r_icmp_eq (pc := 35) C (tgt := 78) d_Model_counted_35 (by decide) hf (fun c35 hf => ?_) (fun c35 hf => ?_)
        · exact r_lv (pc := 78) C [0, 1, 3] rfl (tb_Model_counted_78 C hk4 hf)
        · exact r_lv (pc := 38) C [0, 1, 3] rfl (tb_Model_counted_38 C hk4 hf)
theorem tl_Model_counted_4 {Γ : GmT} {G : Dt → Nat → List (Nat × Value) → List Value → Prop} {rr : Int32} {DD : Dt} (C : Cx Γ "RiverTuesdaysModel" b_Model_counted 4 2 (some .int) (some (.int rr)) DD G) : ∀ (n : Nat) (v1 : Int32) (v2 : Int32) (v3 : Int32) (D : Dt), lp_Model_counted_4 n v1 v2 v3 D = some (rr, DD) → G D 4 [(0, .ref (Γ.2.1 176)), (1, .int v1), (2, .int v2), (3, .int v3)] [] := by
  intro n
  induction n with
  | zero =>
    intro v1 v2 v3 D hf
    exact absurd (show (none : Option (Int32 × Dt)) = some (rr, DD) from hf) (by simp)
  | succ n ih =>
    intro v1 v2 v3 D hf
    exact ts_Model_counted_4 C (k4 := lp_Model_counted_4 n) ih hf
def f_Model_counted (v1 : Int32) (D : Dt) : Option (Int32 × Dt) :=
  lp_Model_counted_4 FU v1 0 0 D
set_option maxHeartbeats 4000000 in
theorem te_Model_counted {Γ : GmT} {G : Dt → Nat → List (Nat × Value) → List Value → Prop} {rr : Int32} {DD : Dt} (C : Cx Γ "RiverTuesdaysModel" b_Model_counted 4 2 (some .int) (some (.int rr)) DD G) {v1 : Int32} {D : Dt} (hf : f_Model_counted v1 D = some (rr, DD)) : G D 0 [(0, .ref (Γ.2.1 176)), (1, .int v1)] [] := by
  unfold f_Model_counted at hf
  refine r_iconst (pc := 0) C (v := 0) d_Model_counted_0 (by decide) ?_
  refine r_istore_n (pc := 1) (lv' := [(2, .int 0), (0, .ref (Γ.2.1 176)), (1, .int v1)]) C d_Model_counted_1 rfl (Nat.le_of_ble_eq_true rfl) rfl ?_
  refine r_iconst (pc := 2) C (v := 0) d_Model_counted_2 (by decide) ?_
  refine r_istore_n (pc := 3) (lv' := [(3, .int 0), (2, .int 0), (0, .ref (Γ.2.1 176)), (1, .int v1)]) C d_Model_counted_3 rfl (Nat.le_of_ble_eq_true rfl) rfl ?_
  exact r_lv (pc := 4) C [2, 3, 1, 0] rfl (tl_Model_counted_4 C FU v1 0 0 D hf)
theorem c_Model_counted (Γ : GmT) {v1 : Int32} {D : Dt} {rr : Int32} {DD : Dt} (hf : f_Model_counted v1 D = some (rr, DD)) : Mt Γ y_Model_counted b_Model_counted 4 (some .int) 2 [.ref (Γ.2.1 176), .int v1] D (some (.int rr)) DD := Mt_of (by decide) (Nat.le_of_ble_eq_true rfl) (fun G C => te_Model_counted C hf)
def f_Model_count (v1 : Int32) (D : Dt) : Option (Int32 × Dt) :=
  bnd (f_Model_in v1 0 7 D) (fun x1 D2 => (if x1 = 0 then some ((-1), D2) else bnd (f_Model_counted v1 D2) (fun x3 D4 => some (x3, D4))))
set_option maxHeartbeats 4000000 in
theorem te_Model_count {Γ : GmT} {G : Dt → Nat → List (Nat × Value) → List Value → Prop} {rr : Int32} {DD : Dt} (C : Cx Γ "RiverTuesdaysModel" b_Model_count 2 3 (some .int) (some (.int rr)) DD G) {v1 : Int32} {D : Dt} (hf : f_Model_count v1 D = some (rr, DD)) : G D 0 [(0, .ref (Γ.2.1 176)), (1, .int v1)] [] := by
  unfold f_Model_count at hf
  refine r_iload_n (pc := 0) C 1 d_Model_count_0 rfl rfl ?_
  refine r_iconst (pc := 1) C (v := 0) d_Model_count_1 (by decide) ?_
  refine r_bipush (pc := 2) C (v := 7) d_Model_count_2 (by decide) ?_
  refine r_callSi (pc := 4) (As := [.int v1, .int 0, .int 7]) (rest := []) C ok_Model_in Lm_Model_118 ⟨by decide, by decide⟩ rfl rfl (Nat.le_of_ble_eq_true rfl) d_Model_count_4 hf (fun x D1 hc => c_Model_in Γ hc) (fun x1 D2 hf => ?_)
  refine r_if_eq (pc := 7) C (tgt := 18) d_Model_count_7 (by decide) hf (fun c7 hf => ?_) (fun c7 hf => ?_)
  · refine r_iconst (pc := 18) C (v := (-1)) d_Model_count_18 (by decide) ?_
    exact r_iret (pc := 19) C d_Model_count_19 hf
  · refine r_aload_n (pc := 10) C 0 d_Model_count_10 rfl rfl ?_
    refine r_iload_n (pc := 11) C 1 d_Model_count_11 rfl rfl ?_
    refine r_callVi (pc := 12) (As := [.int v1]) (rest := []) C ok_Model_counted Lm_Model_346 k_id176 (by decide) ⟨by decide, by decide⟩ rfl rfl (Nat.le_of_ble_eq_true rfl) d_Model_count_12 hf (fun x D1 hc => c_Model_counted Γ hc) (fun x3 D4 hf => ?_)
    refine r_goto (pc := 15) C (tgt := 19) d_Model_count_15 (by decide) ?_
    exact r_iret (pc := 19) C d_Model_count_19 hf
theorem c_Model_count (Γ : GmT) {v1 : Int32} {D : Dt} {rr : Int32} {DD : Dt} (hf : f_Model_count v1 D = some (rr, DD)) : Mt Γ y_Model_count b_Model_count 2 (some .int) 3 [.ref (Γ.2.1 176), .int v1] D (some (.int rr)) DD := Mt_of (by decide) (Nat.le_of_ble_eq_true rfl) (fun G C => te_Model_count C hf)
def f_Model_mix (v1 : Int64) (D : Dt) : Option (Unit × Dt) :=
  nm (wrL D 176 ((31 * (i64 (D 176 57) (D 176 58))) + v1)) (fun D1 => some ((), D1))
set_option maxHeartbeats 4000000 in
theorem te_Model_mix {Γ : GmT} {G : Dt → Nat → List (Nat × Value) → List Value → Prop} {rr : Unit} {DD : Dt} (C : Cx Γ "RiverTuesdaysModel" b_Model_mix 3 1 none none DD G) {v1 : Int64} {D : Dt} (hf : f_Model_mix v1 D = some (rr, DD)) : G D 0 [(0, .ref (Γ.2.1 176)), (1, .long v1)] [] := by
  unfold f_Model_mix at hf
  refine r_aload_n (pc := 0) C 0 d_Model_mix_0 rfl rfl ?_
  refine r_ldc2 (pc := 1) C Lc_Model_349 d_Model_mix_1 ?_
  refine r_aload_n (pc := 4) C 0 d_Model_mix_4 rfl rfl ?_
  refine g_Model_hash (pc := 5) C k_id176 Lf_Model_351 d_Model_mix_5 ?_
  refine r_lmul (pc := 8) C d_Model_mix_8 ?_
  refine r_lload_n (pc := 9) C 1 d_Model_mix_9 rfl rfl ?_
  refine r_ladd (pc := 10) C d_Model_mix_10 ?_
  refine p_Model_hash (pc := 11) C k_id176 Lf_Model_351 d_Model_mix_11 ?_
  refine r_nmD hf (fun D1 hf => ?_)
  exact r_vret (pc := 14) C d_Model_mix_14 hf
theorem c_Model_mix (Γ : GmT) {v1 : Int64} {D : Dt} {rr : Unit} {DD : Dt} (hf : f_Model_mix v1 D = some (rr, DD)) : Mt Γ y_Model_mix b_Model_mix 3 none 1 [.ref (Γ.2.1 176), .long v1] D none DD := Mt_of (by decide) (Nat.le_of_ble_eq_true rfl) (fun G C => te_Model_mix C hf)
def b_Model_mixStreet_156 (k129 : Int32 → Dt → Option (Unit × Dt)) (v1 : Int32) (s0 : Int64) (D : Dt) : Option (Unit × Dt) :=
  bnd (f_Model_mix s0 D) (fun x15 D16 => k129 (v1 + 1) D16)
set_option maxHeartbeats 4000000 in
theorem tb_Model_mixStreet_156 {Γ : GmT} {G : Dt → Nat → List (Nat × Value) → List Value → Prop} {rr : Unit} {DD : Dt} (C : Cx Γ "RiverTuesdaysModel" b_Model_mixStreet 3 3 none none DD G) {k129 : Int32 → Dt → Option (Unit × Dt)} (hk129 : ∀ (v1 : Int32) (D : Dt), k129 v1 D = some (rr, DD) → G D 129 [(0, .ref (Γ.2.1 176)), (1, .int v1)] []) {v1 : Int32} {s0 : Int64} {D : Dt} (hf : b_Model_mixStreet_156 k129 v1 s0 D = some (rr, DD)) : G D 156 [(0, .ref (Γ.2.1 176)), (1, .int v1)] [.long s0, .ref (Γ.2.1 176)] := by
  unfold b_Model_mixStreet_156 at hf
  refine r_callVv (pc := 156) (As := [.long s0]) (rest := []) C ok_Model_mix Lm_Model_355 k_id176 (by decide) ⟨by decide, by decide⟩ rfl rfl (Nat.le_of_ble_eq_true rfl) d_Model_mixStreet_156 hf (fun x D1 hc => c_Model_mix Γ hc) (fun x15 D16 hf => ?_)
  refine r_iinc (pc := 159) C (v := v1 + 1) (lv' := [(1, .int (v1 + 1)), (0, .ref (Γ.2.1 176))]) 1 d_Model_mixStreet_159 rfl rfl (Nat.le_of_ble_eq_true rfl) rfl ?_
  refine r_goto (pc := 162) C (tgt := 129) d_Model_mixStreet_162 (by decide) ?_
  exact r_lv (pc := 129) C [1, 0] rfl (hk129 (v1 + 1) D16 hf)
def s_Model_mixStreet_129 (k129 : Int32 → Dt → Option (Unit × Dt)) (v1 : Int32) (D : Dt) : Option (Unit × Dt) :=
  (if 3 ≤ v1 then some ((), D) else bnd (f_Model_isThere v1 D) (fun x13 D14 => (if x13 = 0 then b_Model_mixStreet_156 k129 v1 (-1) D14 else (if inb v1 3 = true then b_Model_mixStreet_156 k129 v1 ((D14 193 v1.toNatClampNeg).toInt64) D14 else none))))
def lp_Model_mixStreet_129 (n : Nat) : Int32 → Dt → Option (Unit × Dt) := itr (fun _ _ => none) (s_Model_mixStreet_129) n
set_option maxHeartbeats 4000000 in
theorem ts_Model_mixStreet_129 {Γ : GmT} {G : Dt → Nat → List (Nat × Value) → List Value → Prop} {rr : Unit} {DD : Dt} (C : Cx Γ "RiverTuesdaysModel" b_Model_mixStreet 3 3 none none DD G) {k129 : Int32 → Dt → Option (Unit × Dt)} (hk129 : ∀ (v1 : Int32) (D : Dt), k129 v1 D = some (rr, DD) → G D 129 [(0, .ref (Γ.2.1 176)), (1, .int v1)] []) {v1 : Int32} {D : Dt} (hf : s_Model_mixStreet_129 k129 v1 D = some (rr, DD)) : G D 129 [(0, .ref (Γ.2.1 176)), (1, .int v1)] [] := by
  unfold s_Model_mixStreet_129 at hf
  refine r_iload_n (pc := 129) C 1 d_Model_mixStreet_129 rfl rfl ?_
  refine r_iconst (pc := 130) C (v := 3) d_Model_mixStreet_130 (by decide) ?_
  refine r_icmp_ge (pc := 131) C (tgt := 165) d_Model_mixStreet_131 (by decide) hf (fun c131 hf => ?_) (fun c131 hf => ?_)
  · exact r_vret (pc := 165) C d_Model_mixStreet_165 hf
  · refine r_aload_n (pc := 134) C 0 d_Model_mixStreet_134 rfl rfl ?_
    refine r_aload_n (pc := 135) C 0 d_Model_mixStreet_135 rfl rfl ?_
    refine r_iload_n (pc := 136) C 1 d_Model_mixStreet_136 rfl rfl ?_
    refine r_callVi (pc := 137) (As := [.int v1]) (rest := [.ref (Γ.2.1 176)]) C ok_Model_isThere Lm_Model_239 k_id176 (by decide) ⟨by decide, by decide⟩ rfl rfl (Nat.le_of_ble_eq_true rfl) d_Model_mixStreet_137 hf (fun x D1 hc => c_Model_isThere Γ hc) (fun x13 D14 hf => ?_)
    refine r_if_eq (pc := 140) C (tgt := 153) d_Model_mixStreet_140 (by decide) hf (fun c140 hf => ?_) (fun c140 hf => ?_)
    · refine r_ldc2 (pc := 153) C Lc_Model_359 d_Model_mixStreet_153 ?_
      exact r_lv (pc := 156) C [0, 1] rfl (tb_Model_mixStreet_156 C hk129 hf)
    · refine r_aload_n (pc := 143) C 0 d_Model_mixStreet_143 rfl rfl ?_
      refine g_Model_keptHours (pc := 144) C k_id176 Lf_Model_59 d_Model_mixStreet_144 ?_
      refine r_iload_n (pc := 147) C 1 d_Model_mixStreet_147 rfl rfl ?_
      refine r_iald (pc := 148) C kq_Model_keptHours d_Model_mixStreet_148 hf (fun hf => ?_)
      refine r_i2l (pc := 149) C d_Model_mixStreet_149 ?_
      refine r_goto (pc := 150) C (tgt := 156) d_Model_mixStreet_150 (by decide) ?_
      exact r_lv (pc := 156) C [0, 1] rfl (tb_Model_mixStreet_156 C hk129 hf)
theorem tl_Model_mixStreet_129 {Γ : GmT} {G : Dt → Nat → List (Nat × Value) → List Value → Prop} {rr : Unit} {DD : Dt} (C : Cx Γ "RiverTuesdaysModel" b_Model_mixStreet 3 3 none none DD G) : ∀ (n : Nat) (v1 : Int32) (D : Dt), lp_Model_mixStreet_129 n v1 D = some (rr, DD) → G D 129 [(0, .ref (Γ.2.1 176)), (1, .int v1)] [] := by
  intro n
  induction n with
  | zero =>
    intro v1 D hf
    exact absurd (show (none : Option (Unit × Dt)) = some (rr, DD) from hf) (by simp)
  | succ n ih =>
    intro v1 D hf
    exact ts_Model_mixStreet_129 C (k129 := lp_Model_mixStreet_129 n) ih hf
def s_Model_mixStreet_96 (k96 : Int32 → Dt → Option (Unit × Dt)) (v1 : Int32) (D : Dt) : Option (Unit × Dt) :=
  (if (D 176 26) ≤ v1 then lp_Model_mixStreet_129 FU 0 D else (if inb ((27 * v1) + 26) 1620 = true then bnd (f_Model_mix ((D 192 ((27 * v1) + 26).toNatClampNeg).toInt64) D) (fun x17 D18 => k96 (v1 + 1) D18) else none))
def lp_Model_mixStreet_96 (n : Nat) : Int32 → Dt → Option (Unit × Dt) := itr (fun _ _ => none) (s_Model_mixStreet_96) n
set_option maxHeartbeats 4000000 in
theorem ts_Model_mixStreet_96 {Γ : GmT} {G : Dt → Nat → List (Nat × Value) → List Value → Prop} {rr : Unit} {DD : Dt} (C : Cx Γ "RiverTuesdaysModel" b_Model_mixStreet 3 3 none none DD G) {k96 : Int32 → Dt → Option (Unit × Dt)} (hk96 : ∀ (v1 : Int32) (D : Dt), k96 v1 D = some (rr, DD) → G D 96 [(0, .ref (Γ.2.1 176)), (1, .int v1)] []) {v1 : Int32} {D : Dt} (hf : s_Model_mixStreet_96 k96 v1 D = some (rr, DD)) : G D 96 [(0, .ref (Γ.2.1 176)), (1, .int v1)] [] := by
  unfold s_Model_mixStreet_96 at hf
  refine r_iload_n (pc := 96) C 1 d_Model_mixStreet_96 rfl rfl ?_
  refine r_aload_n (pc := 97) C 0 d_Model_mixStreet_97 rfl rfl ?_
  refine g_Model_hourMany (pc := 98) C k_id176 Lf_Model_189 d_Model_mixStreet_98 ?_
  refine r_icmp_ge (pc := 101) C (tgt := 127) d_Model_mixStreet_101 (by decide) hf (fun c101 hf => ?_) (fun c101 hf => ?_)
  · refine r_iconst (pc := 127) C (v := 0) d_Model_mixStreet_127 (by decide) ?_
    refine r_istore_n (pc := 128) (lv' := [(1, .int 0), (0, .ref (Γ.2.1 176))]) C d_Model_mixStreet_128 rfl (Nat.le_of_ble_eq_true rfl) rfl ?_
    exact r_lv (pc := 129) C [1, 0] rfl (tl_Model_mixStreet_129 C FU 0 D hf)
  · refine r_aload_n (pc := 104) C 0 d_Model_mixStreet_104 rfl rfl ?_
    refine r_aload_n (pc := 105) C 0 d_Model_mixStreet_105 rfl rfl ?_
    refine g_Model_hours (pc := 106) C k_id176 Lf_Model_56 d_Model_mixStreet_106 ?_
    refine r_bipush (pc := 109) C (v := 27) d_Model_mixStreet_109 (by decide) ?_
    refine r_iload_n (pc := 111) C 1 d_Model_mixStreet_111 rfl rfl ?_
    refine r_imul (pc := 112) C d_Model_mixStreet_112 ?_
    refine r_bipush (pc := 113) C (v := 26) d_Model_mixStreet_113 (by decide) ?_
    refine r_iadd (pc := 115) C d_Model_mixStreet_115 ?_
    refine r_iald (pc := 116) C kq_Model_hours d_Model_mixStreet_116 hf (fun hf => ?_)
    refine r_i2l (pc := 117) C d_Model_mixStreet_117 ?_
    refine r_callVv (pc := 118) (As := [.long ((D 192 ((27 * v1) + 26).toNatClampNeg).toInt64)]) (rest := []) C ok_Model_mix Lm_Model_355 k_id176 (by decide) ⟨by decide, by decide⟩ rfl rfl (Nat.le_of_ble_eq_true rfl) d_Model_mixStreet_118 hf (fun x D1 hc => c_Model_mix Γ hc) (fun x17 D18 hf => ?_)
    refine r_iinc (pc := 121) C (v := v1 + 1) (lv' := [(1, .int (v1 + 1)), (0, .ref (Γ.2.1 176))]) 1 d_Model_mixStreet_121 rfl rfl (Nat.le_of_ble_eq_true rfl) rfl ?_
    refine r_goto (pc := 124) C (tgt := 96) d_Model_mixStreet_124 (by decide) ?_
    exact r_lv (pc := 96) C [1, 0] rfl (hk96 (v1 + 1) D18 hf)
theorem tl_Model_mixStreet_96 {Γ : GmT} {G : Dt → Nat → List (Nat × Value) → List Value → Prop} {rr : Unit} {DD : Dt} (C : Cx Γ "RiverTuesdaysModel" b_Model_mixStreet 3 3 none none DD G) : ∀ (n : Nat) (v1 : Int32) (D : Dt), lp_Model_mixStreet_96 n v1 D = some (rr, DD) → G D 96 [(0, .ref (Γ.2.1 176)), (1, .int v1)] [] := by
  intro n
  induction n with
  | zero =>
    intro v1 D hf
    exact absurd (show (none : Option (Unit × Dt)) = some (rr, DD) from hf) (by simp)
  | succ n ih =>
    intro v1 D hf
    exact ts_Model_mixStreet_96 C (k96 := lp_Model_mixStreet_96 n) ih hf
def s_Model_mixStreet_54 (k44 : Int32 → Dt → Option (Unit × Dt)) (k54 : Int32 → Int32 → Dt → Option (Unit × Dt)) (v1 : Int32) (v2 : Int32) (D : Dt) : Option (Unit × Dt) :=
  (if 7 ≤ v2 then (if inb v1 8 = true then bnd (f_Model_mix ((D 187 v1.toNatClampNeg).toInt64) D) (fun x19 D20 => k44 (v1 + 1) D20) else none) else bnd (f_Model_houseTells v1 v2 D) (fun x21 D22 => bnd (f_Model_mix (x21.toInt64) D22) (fun x23 D24 => k54 v1 (v2 + 1) D24)))
def lp_Model_mixStreet_54 (k44 : Int32 → Dt → Option (Unit × Dt)) (n : Nat) : Int32 → Int32 → Dt → Option (Unit × Dt) := itr (fun _ _ _ => none) (s_Model_mixStreet_54 k44) n
set_option maxHeartbeats 4000000 in
theorem ts_Model_mixStreet_54 {Γ : GmT} {G : Dt → Nat → List (Nat × Value) → List Value → Prop} {rr : Unit} {DD : Dt} (C : Cx Γ "RiverTuesdaysModel" b_Model_mixStreet 3 3 none none DD G) {k44 : Int32 → Dt → Option (Unit × Dt)} (hk44 : ∀ (v1 : Int32) (D : Dt), k44 v1 D = some (rr, DD) → G D 44 [(0, .ref (Γ.2.1 176)), (1, .int v1)] []) {k54 : Int32 → Int32 → Dt → Option (Unit × Dt)} (hk54 : ∀ (v1 : Int32) (v2 : Int32) (D : Dt), k54 v1 v2 D = some (rr, DD) → G D 54 [(0, .ref (Γ.2.1 176)), (1, .int v1), (2, .int v2)] []) {v1 : Int32} {v2 : Int32} {D : Dt} (hf : s_Model_mixStreet_54 k44 k54 v1 v2 D = some (rr, DD)) : G D 54 [(0, .ref (Γ.2.1 176)), (1, .int v1), (2, .int v2)] [] := by
  unfold s_Model_mixStreet_54 at hf
  refine r_iload_n (pc := 54) C 2 d_Model_mixStreet_54 rfl rfl ?_
  refine r_bipush (pc := 55) C (v := 7) d_Model_mixStreet_55 (by decide) ?_
  refine r_icmp_ge (pc := 57) C (tgt := 77) d_Model_mixStreet_57 (by decide) hf (fun c57 hf => ?_) (fun c57 hf => ?_)
  · refine r_aload_n (pc := 77) C 0 d_Model_mixStreet_77 rfl rfl ?_
    refine r_aload_n (pc := 78) C 0 d_Model_mixStreet_78 rfl rfl ?_
    refine g_Model_shutNow (pc := 79) C k_id176 Lf_Model_41 d_Model_mixStreet_79 ?_
    refine r_iload_n (pc := 82) C 1 d_Model_mixStreet_82 rfl rfl ?_
    refine r_iald (pc := 83) C kq_Model_shutNow d_Model_mixStreet_83 hf (fun hf => ?_)
    refine r_i2l (pc := 84) C d_Model_mixStreet_84 ?_
    refine r_callVv (pc := 85) (As := [.long ((D 187 v1.toNatClampNeg).toInt64)]) (rest := []) C ok_Model_mix Lm_Model_355 k_id176 (by decide) ⟨by decide, by decide⟩ rfl rfl (Nat.le_of_ble_eq_true rfl) d_Model_mixStreet_85 hf (fun x D1 hc => c_Model_mix Γ hc) (fun x19 D20 hf => ?_)
    refine r_iinc (pc := 88) C (v := v1 + 1) (lv' := [(1, .int (v1 + 1)), (0, .ref (Γ.2.1 176)), (2, .int v2)]) 1 d_Model_mixStreet_88 rfl rfl (Nat.le_of_ble_eq_true rfl) rfl ?_
    refine r_goto (pc := 91) C (tgt := 44) d_Model_mixStreet_91 (by decide) ?_
    exact r_lv (pc := 44) C [1, 0] rfl (hk44 (v1 + 1) D20 hf)
  · refine r_aload_n (pc := 60) C 0 d_Model_mixStreet_60 rfl rfl ?_
    refine r_aload_n (pc := 61) C 0 d_Model_mixStreet_61 rfl rfl ?_
    refine r_iload_n (pc := 62) C 1 d_Model_mixStreet_62 rfl rfl ?_
    refine r_iload_n (pc := 63) C 2 d_Model_mixStreet_63 rfl rfl ?_
    refine r_callVi (pc := 64) (As := [.int v1, .int v2]) (rest := [.ref (Γ.2.1 176)]) C ok_Model_houseTells Lm_Model_219 k_id176 (by decide) ⟨by decide, by decide⟩ rfl rfl (Nat.le_of_ble_eq_true rfl) d_Model_mixStreet_64 hf (fun x D1 hc => c_Model_houseTells Γ hc) (fun x21 D22 hf => ?_)
    refine r_i2l (pc := 67) C d_Model_mixStreet_67 ?_
    refine r_callVv (pc := 68) (As := [.long (x21.toInt64)]) (rest := []) C ok_Model_mix Lm_Model_355 k_id176 (by decide) ⟨by decide, by decide⟩ rfl rfl (Nat.le_of_ble_eq_true rfl) d_Model_mixStreet_68 hf (fun x D1 hc => c_Model_mix Γ hc) (fun x23 D24 hf => ?_)
    refine r_iinc (pc := 71) C (v := v2 + 1) (lv' := [(2, .int (v2 + 1)), (0, .ref (Γ.2.1 176)), (1, .int v1)]) 2 d_Model_mixStreet_71 rfl rfl (Nat.le_of_ble_eq_true rfl) rfl ?_
    refine r_goto (pc := 74) C (tgt := 54) d_Model_mixStreet_74 (by decide) ?_
    exact r_lv (pc := 54) C [1, 2, 0] rfl (hk54 v1 (v2 + 1) D24 hf)
theorem tl_Model_mixStreet_54 {Γ : GmT} {G : Dt → Nat → List (Nat × Value) → List Value → Prop} {rr : Unit} {DD : Dt} (C : Cx Γ "RiverTuesdaysModel" b_Model_mixStreet 3 3 none none DD G) {k44 : Int32 → Dt → Option (Unit × Dt)} (hk44 : ∀ (v1 : Int32) (D : Dt), k44 v1 D = some (rr, DD) → G D 44 [(0, .ref (Γ.2.1 176)), (1, .int v1)] []) : ∀ (n : Nat) (v1 : Int32) (v2 : Int32) (D : Dt), lp_Model_mixStreet_54 k44 n v1 v2 D = some (rr, DD) → G D 54 [(0, .ref (Γ.2.1 176)), (1, .int v1), (2, .int v2)] [] := by
  intro n
  induction n with
  | zero =>
    intro v1 v2 D hf
    exact absurd (show (none : Option (Unit × Dt)) = some (rr, DD) from hf) (by simp)
  | succ n ih =>
    intro v1 v2 D hf
    exact ts_Model_mixStreet_54 C hk44 (k54 := lp_Model_mixStreet_54 k44 n) ih hf
def s_Model_mixStreet_44 (k44 : Int32 → Dt → Option (Unit × Dt)) (v1 : Int32) (D : Dt) : Option (Unit × Dt) :=
  (if (D 176 10) ≤ v1 then lp_Model_mixStreet_96 FU 0 D else lp_Model_mixStreet_54 k44 FU v1 0 D)
def lp_Model_mixStreet_44 (n : Nat) : Int32 → Dt → Option (Unit × Dt) := itr (fun _ _ => none) (s_Model_mixStreet_44) n
set_option maxHeartbeats 4000000 in
theorem ts_Model_mixStreet_44 {Γ : GmT} {G : Dt → Nat → List (Nat × Value) → List Value → Prop} {rr : Unit} {DD : Dt} (C : Cx Γ "RiverTuesdaysModel" b_Model_mixStreet 3 3 none none DD G) {k44 : Int32 → Dt → Option (Unit × Dt)} (hk44 : ∀ (v1 : Int32) (D : Dt), k44 v1 D = some (rr, DD) → G D 44 [(0, .ref (Γ.2.1 176)), (1, .int v1)] []) {v1 : Int32} {D : Dt} (hf : s_Model_mixStreet_44 k44 v1 D = some (rr, DD)) : G D 44 [(0, .ref (Γ.2.1 176)), (1, .int v1)] [] := by
  unfold s_Model_mixStreet_44 at hf
  refine r_iload_n (pc := 44) C 1 d_Model_mixStreet_44 rfl rfl ?_
  refine r_aload_n (pc := 45) C 0 d_Model_mixStreet_45 rfl rfl ?_
  refine g_Model_n (pc := 46) C k_id176 Lf_Model_176 d_Model_mixStreet_46 ?_
  refine r_icmp_ge (pc := 49) C (tgt := 94) d_Model_mixStreet_49 (by decide) hf (fun c49 hf => ?_) (fun c49 hf => ?_)
  · refine r_iconst (pc := 94) C (v := 0) d_Model_mixStreet_94 (by decide) ?_
    refine r_istore_n (pc := 95) (lv' := [(1, .int 0), (0, .ref (Γ.2.1 176))]) C d_Model_mixStreet_95 rfl (Nat.le_of_ble_eq_true rfl) rfl ?_
    exact r_lv (pc := 96) C [1, 0] rfl (tl_Model_mixStreet_96 C FU 0 D hf)
  · refine r_iconst (pc := 52) C (v := 0) d_Model_mixStreet_52 (by decide) ?_
    refine r_istore_n (pc := 53) (lv' := [(2, .int 0), (0, .ref (Γ.2.1 176)), (1, .int v1)]) C d_Model_mixStreet_53 rfl (Nat.le_of_ble_eq_true rfl) rfl ?_
    exact r_lv (pc := 54) C [1, 2, 0] rfl (tl_Model_mixStreet_54 C hk44 FU v1 0 D hf)
theorem tl_Model_mixStreet_44 {Γ : GmT} {G : Dt → Nat → List (Nat × Value) → List Value → Prop} {rr : Unit} {DD : Dt} (C : Cx Γ "RiverTuesdaysModel" b_Model_mixStreet 3 3 none none DD G) : ∀ (n : Nat) (v1 : Int32) (D : Dt), lp_Model_mixStreet_44 n v1 D = some (rr, DD) → G D 44 [(0, .ref (Γ.2.1 176)), (1, .int v1)] [] := by
  intro n
  induction n with
  | zero =>
    intro v1 D hf
    exact absurd (show (none : Option (Unit × Dt)) = some (rr, DD) from hf) (by simp)
  | succ n ih =>
    intro v1 D hf
    exact ts_Model_mixStreet_44 C (k44 := lp_Model_mixStreet_44 n) ih hf
def f_Model_mixStreet (D : Dt) : Option (Unit × Dt) :=
  bnd (f_Model_mix ((D 176 8).toInt64) D) (fun x1 D2 => bnd (f_Model_mix ((D2 176 9).toInt64) D2) (fun x3 D4 => bnd (f_Model_v 0 24 D4) (fun x5 D6 => bnd (f_Model_mix (x5.toInt64) D6) (fun x7 D8 => bnd (f_Model_v 0 25 D8) (fun x9 D10 => bnd (f_Model_mix (x9.toInt64) D10) (fun x11 D12 => lp_Model_mixStreet_44 FU 0 D12))))))
set_option maxHeartbeats 4000000 in
theorem te_Model_mixStreet {Γ : GmT} {G : Dt → Nat → List (Nat × Value) → List Value → Prop} {rr : Unit} {DD : Dt} (C : Cx Γ "RiverTuesdaysModel" b_Model_mixStreet 3 3 none none DD G) {D : Dt} (hf : f_Model_mixStreet D = some (rr, DD)) : G D 0 [(0, .ref (Γ.2.1 176))] [] := by
  unfold f_Model_mixStreet at hf
  refine r_aload_n (pc := 0) C 0 d_Model_mixStreet_0 rfl rfl ?_
  refine r_aload_n (pc := 1) C 0 d_Model_mixStreet_1 rfl rfl ?_
  refine g_Model_flowNow (pc := 2) C k_id176 Lf_Model_179 d_Model_mixStreet_2 ?_
  refine r_i2l (pc := 5) C d_Model_mixStreet_5 ?_
  refine r_callVv (pc := 6) (As := [.long ((D 176 8).toInt64)]) (rest := []) C ok_Model_mix Lm_Model_355 k_id176 (by decide) ⟨by decide, by decide⟩ rfl rfl (Nat.le_of_ble_eq_true rfl) d_Model_mixStreet_6 hf (fun x D1 hc => c_Model_mix Γ hc) (fun x1 D2 hf => ?_)
  refine r_aload_n (pc := 9) C 0 d_Model_mixStreet_9 rfl rfl ?_
  refine r_aload_n (pc := 10) C 0 d_Model_mixStreet_10 rfl rfl ?_
  refine g_Model_sea (pc := 11) C k_id176 Lf_Model_182 d_Model_mixStreet_11 ?_
  refine r_i2l (pc := 14) C d_Model_mixStreet_14 ?_
  refine r_callVv (pc := 15) (As := [.long ((D2 176 9).toInt64)]) (rest := []) C ok_Model_mix Lm_Model_355 k_id176 (by decide) ⟨by decide, by decide⟩ rfl rfl (Nat.le_of_ble_eq_true rfl) d_Model_mixStreet_15 hf (fun x D1 hc => c_Model_mix Γ hc) (fun x3 D4 hf => ?_)
  refine r_aload_n (pc := 18) C 0 d_Model_mixStreet_18 rfl rfl ?_
  refine r_aload_n (pc := 19) C 0 d_Model_mixStreet_19 rfl rfl ?_
  refine r_iconst (pc := 20) C (v := 0) d_Model_mixStreet_20 (by decide) ?_
  refine r_bipush (pc := 21) C (v := 24) d_Model_mixStreet_21 (by decide) ?_
  refine r_callVi (pc := 23) (As := [.int 0, .int 24]) (rest := [.ref (Γ.2.1 176)]) C ok_Model_v Lm_Model_192 k_id176 (by decide) ⟨by decide, by decide⟩ rfl rfl (Nat.le_of_ble_eq_true rfl) d_Model_mixStreet_23 hf (fun x D1 hc => c_Model_v Γ hc) (fun x5 D6 hf => ?_)
  refine r_i2l (pc := 26) C d_Model_mixStreet_26 ?_
  refine r_callVv (pc := 27) (As := [.long (x5.toInt64)]) (rest := []) C ok_Model_mix Lm_Model_355 k_id176 (by decide) ⟨by decide, by decide⟩ rfl rfl (Nat.le_of_ble_eq_true rfl) d_Model_mixStreet_27 hf (fun x D1 hc => c_Model_mix Γ hc) (fun x7 D8 hf => ?_)
  refine r_aload_n (pc := 30) C 0 d_Model_mixStreet_30 rfl rfl ?_
  refine r_aload_n (pc := 31) C 0 d_Model_mixStreet_31 rfl rfl ?_
  refine r_iconst (pc := 32) C (v := 0) d_Model_mixStreet_32 (by decide) ?_
  refine r_bipush (pc := 33) C (v := 25) d_Model_mixStreet_33 (by decide) ?_
  refine r_callVi (pc := 35) (As := [.int 0, .int 25]) (rest := [.ref (Γ.2.1 176)]) C ok_Model_v Lm_Model_192 k_id176 (by decide) ⟨by decide, by decide⟩ rfl rfl (Nat.le_of_ble_eq_true rfl) d_Model_mixStreet_35 hf (fun x D1 hc => c_Model_v Γ hc) (fun x9 D10 hf => ?_)
  refine r_i2l (pc := 38) C d_Model_mixStreet_38 ?_
  refine r_callVv (pc := 39) (As := [.long (x9.toInt64)]) (rest := []) C ok_Model_mix Lm_Model_355 k_id176 (by decide) ⟨by decide, by decide⟩ rfl rfl (Nat.le_of_ble_eq_true rfl) d_Model_mixStreet_39 hf (fun x D1 hc => c_Model_mix Γ hc) (fun x11 D12 hf => ?_)
  refine r_iconst (pc := 42) C (v := 0) d_Model_mixStreet_42 (by decide) ?_
  refine r_istore_n (pc := 43) (lv' := [(1, .int 0), (0, .ref (Γ.2.1 176))]) C d_Model_mixStreet_43 rfl (Nat.le_of_ble_eq_true rfl) rfl ?_
  exact r_lv (pc := 44) C [1, 0] rfl (tl_Model_mixStreet_44 C FU 0 D12 hf)
theorem c_Model_mixStreet (Γ : GmT) {D : Dt} {rr : Unit} {DD : Dt} (hf : f_Model_mixStreet D = some (rr, DD)) : Mt Γ y_Model_mixStreet b_Model_mixStreet 3 none 3 [.ref (Γ.2.1 176)] D none DD := Mt_of (by decide) (Nat.le_of_ble_eq_true rfl) (fun G C => te_Model_mixStreet C hf)
def s_Model_digest_109 (k91 : Int32 → Dt → Option (Int64 × Dt)) (k109 : Int32 → Int32 → Dt → Option (Int64 × Dt)) (v1 : Int32) (v2 : Int32) (D : Dt) : Option (Int64 × Dt) :=
  (if inb v1 4 = true then (if (D 181 v1.toNatClampNeg) ≤ v2 then k91 (v1 + 1) D else bnd (f_Model_byteAt v1 v2 D) (fun x6 D7 => bnd (f_Model_mix (x6.toInt64) D7) (fun x8 D9 => k109 v1 (v2 + 1) D9))) else none)
def lp_Model_digest_109 (k91 : Int32 → Dt → Option (Int64 × Dt)) (n : Nat) : Int32 → Int32 → Dt → Option (Int64 × Dt) := itr (fun _ _ _ => none) (s_Model_digest_109 k91) n
set_option maxHeartbeats 4000000 in
theorem ts_Model_digest_109 {Γ : GmT} {G : Dt → Nat → List (Nat × Value) → List Value → Prop} {rr : Int64} {DD : Dt} (C : Cx Γ "RiverTuesdaysModel" b_Model_digest 3 4 (some .long) (some (.long rr)) DD G) {k91 : Int32 → Dt → Option (Int64 × Dt)} (hk91 : ∀ (v1 : Int32) (D : Dt), k91 v1 D = some (rr, DD) → G D 91 [(0, .ref (Γ.2.1 176)), (1, .int v1)] []) {k109 : Int32 → Int32 → Dt → Option (Int64 × Dt)} (hk109 : ∀ (v1 : Int32) (v2 : Int32) (D : Dt), k109 v1 v2 D = some (rr, DD) → G D 109 [(0, .ref (Γ.2.1 176)), (1, .int v1), (2, .int v2)] []) {v1 : Int32} {v2 : Int32} {D : Dt} (hf : s_Model_digest_109 k91 k109 v1 v2 D = some (rr, DD)) : G D 109 [(0, .ref (Γ.2.1 176)), (1, .int v1), (2, .int v2)] [] := by
  unfold s_Model_digest_109 at hf
  refine r_iload_n (pc := 109) C 2 d_Model_digest_109 rfl rfl ?_
  refine r_aload_n (pc := 110) C 0 d_Model_digest_110 rfl rfl ?_
  refine g_Model_textSizes (pc := 111) C k_id176 Lf_Model_22 d_Model_digest_111 ?_
  refine r_iload_n (pc := 114) C 1 d_Model_digest_114 rfl rfl ?_
  refine r_iald (pc := 115) C kq_Model_textSizes d_Model_digest_115 hf (fun hf => ?_)
  refine r_icmp_ge (pc := 116) C (tgt := 136) d_Model_digest_116 (by decide) hf (fun c116 hf => ?_) (fun c116 hf => ?_)
  · refine r_iinc (pc := 136) C (v := v1 + 1) (lv' := [(1, .int (v1 + 1)), (0, .ref (Γ.2.1 176)), (2, .int v2)]) 1 d_Model_digest_136 rfl rfl (Nat.le_of_ble_eq_true rfl) rfl ?_
    refine r_goto (pc := 139) C (tgt := 91) d_Model_digest_139 (by decide) ?_
    exact r_lv (pc := 91) C [1, 0] rfl (hk91 (v1 + 1) D hf)
  · refine r_aload_n (pc := 119) C 0 d_Model_digest_119 rfl rfl ?_
    refine r_aload_n (pc := 120) C 0 d_Model_digest_120 rfl rfl ?_
    refine r_iload_n (pc := 121) C 1 d_Model_digest_121 rfl rfl ?_
    refine r_iload_n (pc := 122) C 2 d_Model_digest_122 rfl rfl ?_
    refine r_callVi (pc := 123) (As := [.int v1, .int v2]) (rest := [.ref (Γ.2.1 176)]) C ok_Model_byteAt Lm_Model_146 k_id176 (by decide) ⟨by decide, by decide⟩ rfl rfl (Nat.le_of_ble_eq_true rfl) d_Model_digest_123 hf (fun x D1 hc => c_Model_byteAt Γ hc) (fun x6 D7 hf => ?_)
    refine r_i2l (pc := 126) C d_Model_digest_126 ?_
    refine r_callVv (pc := 127) (As := [.long (x6.toInt64)]) (rest := []) C ok_Model_mix Lm_Model_355 k_id176 (by decide) ⟨by decide, by decide⟩ rfl rfl (Nat.le_of_ble_eq_true rfl) d_Model_digest_127 hf (fun x D1 hc => c_Model_mix Γ hc) (fun x8 D9 hf => ?_)
    refine r_iinc (pc := 130) C (v := v2 + 1) (lv' := [(2, .int (v2 + 1)), (0, .ref (Γ.2.1 176)), (1, .int v1)]) 2 d_Model_digest_130 rfl rfl (Nat.le_of_ble_eq_true rfl) rfl ?_
    refine r_goto (pc := 133) C (tgt := 109) d_Model_digest_133 (by decide) ?_
    exact r_lv (pc := 109) C [1, 2, 0] rfl (hk109 v1 (v2 + 1) D9 hf)
theorem tl_Model_digest_109 {Γ : GmT} {G : Dt → Nat → List (Nat × Value) → List Value → Prop} {rr : Int64} {DD : Dt} (C : Cx Γ "RiverTuesdaysModel" b_Model_digest 3 4 (some .long) (some (.long rr)) DD G) {k91 : Int32 → Dt → Option (Int64 × Dt)} (hk91 : ∀ (v1 : Int32) (D : Dt), k91 v1 D = some (rr, DD) → G D 91 [(0, .ref (Γ.2.1 176)), (1, .int v1)] []) : ∀ (n : Nat) (v1 : Int32) (v2 : Int32) (D : Dt), lp_Model_digest_109 k91 n v1 v2 D = some (rr, DD) → G D 109 [(0, .ref (Γ.2.1 176)), (1, .int v1), (2, .int v2)] [] := by
  intro n
  induction n with
  | zero =>
    intro v1 v2 D hf
    exact absurd (show (none : Option (Int64 × Dt)) = some (rr, DD) from hf) (by simp)
  | succ n ih =>
    intro v1 v2 D hf
    exact ts_Model_digest_109 C hk91 (k109 := lp_Model_digest_109 k91 n) ih hf
def s_Model_digest_91 (k91 : Int32 → Dt → Option (Int64 × Dt)) (v1 : Int32) (D : Dt) : Option (Int64 × Dt) :=
  (if 4 ≤ v1 then some (i64 (D 176 57) (D 176 58), D) else (if inb v1 4 = true then bnd (f_Model_mix ((D 181 v1.toNatClampNeg).toInt64) D) (fun x4 D5 => lp_Model_digest_109 k91 FU v1 0 D5) else none))
def lp_Model_digest_91 (n : Nat) : Int32 → Dt → Option (Int64 × Dt) := itr (fun _ _ => none) (s_Model_digest_91) n
set_option maxHeartbeats 4000000 in
theorem ts_Model_digest_91 {Γ : GmT} {G : Dt → Nat → List (Nat × Value) → List Value → Prop} {rr : Int64} {DD : Dt} (C : Cx Γ "RiverTuesdaysModel" b_Model_digest 3 4 (some .long) (some (.long rr)) DD G) {k91 : Int32 → Dt → Option (Int64 × Dt)} (hk91 : ∀ (v1 : Int32) (D : Dt), k91 v1 D = some (rr, DD) → G D 91 [(0, .ref (Γ.2.1 176)), (1, .int v1)] []) {v1 : Int32} {D : Dt} (hf : s_Model_digest_91 k91 v1 D = some (rr, DD)) : G D 91 [(0, .ref (Γ.2.1 176)), (1, .int v1)] [] := by
  unfold s_Model_digest_91 at hf
  refine r_iload_n (pc := 91) C 1 d_Model_digest_91 rfl rfl ?_
  refine r_iconst (pc := 92) C (v := 4) d_Model_digest_92 (by decide) ?_
  refine r_icmp_ge (pc := 93) C (tgt := 142) d_Model_digest_93 (by decide) hf (fun c93 hf => ?_) (fun c93 hf => ?_)
  · refine r_aload_n (pc := 142) C 0 d_Model_digest_142 rfl rfl ?_
    refine g_Model_hash (pc := 143) C k_id176 Lf_Model_351 d_Model_digest_143 ?_
    exact r_lret (pc := 146) C d_Model_digest_146 hf
  · refine r_aload_n (pc := 96) C 0 d_Model_digest_96 rfl rfl ?_
    refine r_aload_n (pc := 97) C 0 d_Model_digest_97 rfl rfl ?_
    refine g_Model_textSizes (pc := 98) C k_id176 Lf_Model_22 d_Model_digest_98 ?_
    refine r_iload_n (pc := 101) C 1 d_Model_digest_101 rfl rfl ?_
    refine r_iald (pc := 102) C kq_Model_textSizes d_Model_digest_102 hf (fun hf => ?_)
    refine r_i2l (pc := 103) C d_Model_digest_103 ?_
    refine r_callVv (pc := 104) (As := [.long ((D 181 v1.toNatClampNeg).toInt64)]) (rest := []) C ok_Model_mix Lm_Model_355 k_id176 (by decide) ⟨by decide, by decide⟩ rfl rfl (Nat.le_of_ble_eq_true rfl) d_Model_digest_104 hf (fun x D1 hc => c_Model_mix Γ hc) (fun x4 D5 hf => ?_)
    refine r_iconst (pc := 107) C (v := 0) d_Model_digest_107 (by decide) ?_
    refine r_istore_n (pc := 108) (lv' := [(2, .int 0), (0, .ref (Γ.2.1 176)), (1, .int v1)]) C d_Model_digest_108 rfl (Nat.le_of_ble_eq_true rfl) rfl ?_
    exact r_lv (pc := 109) C [1, 2, 0] rfl (tl_Model_digest_109 C hk91 FU v1 0 D5 hf)
theorem tl_Model_digest_91 {Γ : GmT} {G : Dt → Nat → List (Nat × Value) → List Value → Prop} {rr : Int64} {DD : Dt} (C : Cx Γ "RiverTuesdaysModel" b_Model_digest 3 4 (some .long) (some (.long rr)) DD G) : ∀ (n : Nat) (v1 : Int32) (D : Dt), lp_Model_digest_91 n v1 D = some (rr, DD) → G D 91 [(0, .ref (Γ.2.1 176)), (1, .int v1)] [] := by
  intro n
  induction n with
  | zero =>
    intro v1 D hf
    exact absurd (show (none : Option (Int64 × Dt)) = some (rr, DD) from hf) (by simp)
  | succ n ih =>
    intro v1 D hf
    exact ts_Model_digest_91 C (k91 := lp_Model_digest_91 n) ih hf
def s_Model_digest_56 (k37 : Int32 → Dt → Option (Int64 × Dt)) (k56 : Int32 → Int32 → Dt → Option (Int64 × Dt)) (v1 : Int32) (v2 : Int32) (D : Dt) : Option (Int64 × Dt) :=
  (if inb v1 6 = true then (if (D 178 v1.toNatClampNeg) ≤ v2 then k37 (v1 + 1) D else bnd (f_Model_rowAt v1 v2 D) (fun x12 D13 => bnd (f_Model_mix (x12.toInt64) D13) (fun x14 D15 => k56 v1 (v2 + 1) D15))) else none)
def lp_Model_digest_56 (k37 : Int32 → Dt → Option (Int64 × Dt)) (n : Nat) : Int32 → Int32 → Dt → Option (Int64 × Dt) := itr (fun _ _ _ => none) (s_Model_digest_56 k37) n
set_option maxHeartbeats 4000000 in
theorem ts_Model_digest_56 {Γ : GmT} {G : Dt → Nat → List (Nat × Value) → List Value → Prop} {rr : Int64} {DD : Dt} (C : Cx Γ "RiverTuesdaysModel" b_Model_digest 3 4 (some .long) (some (.long rr)) DD G) {k37 : Int32 → Dt → Option (Int64 × Dt)} (hk37 : ∀ (v1 : Int32) (D : Dt), k37 v1 D = some (rr, DD) → G D 37 [(0, .ref (Γ.2.1 176)), (1, .int v1)] []) {k56 : Int32 → Int32 → Dt → Option (Int64 × Dt)} (hk56 : ∀ (v1 : Int32) (v2 : Int32) (D : Dt), k56 v1 v2 D = some (rr, DD) → G D 56 [(0, .ref (Γ.2.1 176)), (1, .int v1), (2, .int v2)] []) {v1 : Int32} {v2 : Int32} {D : Dt} (hf : s_Model_digest_56 k37 k56 v1 v2 D = some (rr, DD)) : G D 56 [(0, .ref (Γ.2.1 176)), (1, .int v1), (2, .int v2)] [] := by
  unfold s_Model_digest_56 at hf
  refine r_iload_n (pc := 56) C 2 d_Model_digest_56 rfl rfl ?_
  refine r_aload_n (pc := 57) C 0 d_Model_digest_57 rfl rfl ?_
  refine g_Model_sizes (pc := 58) C k_id176 Lf_Model_13 d_Model_digest_58 ?_
  refine r_iload_n (pc := 61) C 1 d_Model_digest_61 rfl rfl ?_
  refine r_iald (pc := 62) C kq_Model_sizes d_Model_digest_62 hf (fun hf => ?_)
  refine r_icmp_ge (pc := 63) C (tgt := 83) d_Model_digest_63 (by decide) hf (fun c63 hf => ?_) (fun c63 hf => ?_)
  · refine r_iinc (pc := 83) C (v := v1 + 1) (lv' := [(1, .int (v1 + 1)), (0, .ref (Γ.2.1 176)), (2, .int v2)]) 1 d_Model_digest_83 rfl rfl (Nat.le_of_ble_eq_true rfl) rfl ?_
    refine r_goto (pc := 86) C (tgt := 37) d_Model_digest_86 (by decide) ?_
    exact r_lv (pc := 37) C [1, 0] rfl (hk37 (v1 + 1) D hf)
  · refine r_aload_n (pc := 66) C 0 d_Model_digest_66 rfl rfl ?_
    refine r_aload_n (pc := 67) C 0 d_Model_digest_67 rfl rfl ?_
    refine r_iload_n (pc := 68) C 1 d_Model_digest_68 rfl rfl ?_
    refine r_iload_n (pc := 69) C 2 d_Model_digest_69 rfl rfl ?_
    refine r_callVi (pc := 70) (As := [.int v1, .int v2]) (rest := [.ref (Γ.2.1 176)]) C ok_Model_rowAt Lm_Model_133 k_id176 (by decide) ⟨by decide, by decide⟩ rfl rfl (Nat.le_of_ble_eq_true rfl) d_Model_digest_70 hf (fun x D1 hc => c_Model_rowAt Γ hc) (fun x12 D13 hf => ?_)
    refine r_i2l (pc := 73) C d_Model_digest_73 ?_
    refine r_callVv (pc := 74) (As := [.long (x12.toInt64)]) (rest := []) C ok_Model_mix Lm_Model_355 k_id176 (by decide) ⟨by decide, by decide⟩ rfl rfl (Nat.le_of_ble_eq_true rfl) d_Model_digest_74 hf (fun x D1 hc => c_Model_mix Γ hc) (fun x14 D15 hf => ?_)
    refine r_iinc (pc := 77) C (v := v2 + 1) (lv' := [(2, .int (v2 + 1)), (0, .ref (Γ.2.1 176)), (1, .int v1)]) 2 d_Model_digest_77 rfl rfl (Nat.le_of_ble_eq_true rfl) rfl ?_
    refine r_goto (pc := 80) C (tgt := 56) d_Model_digest_80 (by decide) ?_
    exact r_lv (pc := 56) C [1, 2, 0] rfl (hk56 v1 (v2 + 1) D15 hf)
theorem tl_Model_digest_56 {Γ : GmT} {G : Dt → Nat → List (Nat × Value) → List Value → Prop} {rr : Int64} {DD : Dt} (C : Cx Γ "RiverTuesdaysModel" b_Model_digest 3 4 (some .long) (some (.long rr)) DD G) {k37 : Int32 → Dt → Option (Int64 × Dt)} (hk37 : ∀ (v1 : Int32) (D : Dt), k37 v1 D = some (rr, DD) → G D 37 [(0, .ref (Γ.2.1 176)), (1, .int v1)] []) : ∀ (n : Nat) (v1 : Int32) (v2 : Int32) (D : Dt), lp_Model_digest_56 k37 n v1 v2 D = some (rr, DD) → G D 56 [(0, .ref (Γ.2.1 176)), (1, .int v1), (2, .int v2)] [] := by
  intro n
  induction n with
  | zero =>
    intro v1 v2 D hf
    exact absurd (show (none : Option (Int64 × Dt)) = some (rr, DD) from hf) (by simp)
  | succ n ih =>
    intro v1 v2 D hf
    exact ts_Model_digest_56 C hk37 (k56 := lp_Model_digest_56 k37 n) ih hf
def s_Model_digest_37 (k37 : Int32 → Dt → Option (Int64 × Dt)) (v1 : Int32) (D : Dt) : Option (Int64 × Dt) :=
  (if 6 ≤ v1 then lp_Model_digest_91 FU 0 D else (if inb v1 6 = true then bnd (f_Model_mix ((D 178 v1.toNatClampNeg).toInt64) D) (fun x10 D11 => lp_Model_digest_56 k37 FU v1 0 D11) else none))
def lp_Model_digest_37 (n : Nat) : Int32 → Dt → Option (Int64 × Dt) := itr (fun _ _ => none) (s_Model_digest_37) n
set_option maxHeartbeats 4000000 in
theorem ts_Model_digest_37 {Γ : GmT} {G : Dt → Nat → List (Nat × Value) → List Value → Prop} {rr : Int64} {DD : Dt} (C : Cx Γ "RiverTuesdaysModel" b_Model_digest 3 4 (some .long) (some (.long rr)) DD G) {k37 : Int32 → Dt → Option (Int64 × Dt)} (hk37 : ∀ (v1 : Int32) (D : Dt), k37 v1 D = some (rr, DD) → G D 37 [(0, .ref (Γ.2.1 176)), (1, .int v1)] []) {v1 : Int32} {D : Dt} (hf : s_Model_digest_37 k37 v1 D = some (rr, DD)) : G D 37 [(0, .ref (Γ.2.1 176)), (1, .int v1)] [] := by
  unfold s_Model_digest_37 at hf
  refine r_iload_n (pc := 37) C 1 d_Model_digest_37 rfl rfl ?_
  refine r_bipush (pc := 38) C (v := 6) d_Model_digest_38 (by decide) ?_
  refine r_icmp_ge (pc := 40) C (tgt := 89) d_Model_digest_40 (by decide) hf (fun c40 hf => ?_) (fun c40 hf => ?_)
  · refine r_iconst (pc := 89) C (v := 0) d_Model_digest_89 (by decide) ?_
    refine r_istore_n (pc := 90) (lv' := [(1, .int 0), (0, .ref (Γ.2.1 176))]) C d_Model_digest_90 rfl (Nat.le_of_ble_eq_true rfl) rfl ?_
    exact r_lv (pc := 91) C [1, 0] rfl (tl_Model_digest_91 C FU 0 D hf)
  · refine r_aload_n (pc := 43) C 0 d_Model_digest_43 rfl rfl ?_
    refine r_aload_n (pc := 44) C 0 d_Model_digest_44 rfl rfl ?_
    refine g_Model_sizes (pc := 45) C k_id176 Lf_Model_13 d_Model_digest_45 ?_
    refine r_iload_n (pc := 48) C 1 d_Model_digest_48 rfl rfl ?_
    refine r_iald (pc := 49) C kq_Model_sizes d_Model_digest_49 hf (fun hf => ?_)
    refine r_i2l (pc := 50) C d_Model_digest_50 ?_
    refine r_callVv (pc := 51) (As := [.long ((D 178 v1.toNatClampNeg).toInt64)]) (rest := []) C ok_Model_mix Lm_Model_355 k_id176 (by decide) ⟨by decide, by decide⟩ rfl rfl (Nat.le_of_ble_eq_true rfl) d_Model_digest_51 hf (fun x D1 hc => c_Model_mix Γ hc) (fun x10 D11 hf => ?_)
    refine r_iconst (pc := 54) C (v := 0) d_Model_digest_54 (by decide) ?_
    refine r_istore_n (pc := 55) (lv' := [(2, .int 0), (0, .ref (Γ.2.1 176)), (1, .int v1)]) C d_Model_digest_55 rfl (Nat.le_of_ble_eq_true rfl) rfl ?_
    exact r_lv (pc := 56) C [1, 2, 0] rfl (tl_Model_digest_56 C hk37 FU v1 0 D11 hf)
theorem tl_Model_digest_37 {Γ : GmT} {G : Dt → Nat → List (Nat × Value) → List Value → Prop} {rr : Int64} {DD : Dt} (C : Cx Γ "RiverTuesdaysModel" b_Model_digest 3 4 (some .long) (some (.long rr)) DD G) : ∀ (n : Nat) (v1 : Int32) (D : Dt), lp_Model_digest_37 n v1 D = some (rr, DD) → G D 37 [(0, .ref (Γ.2.1 176)), (1, .int v1)] [] := by
  intro n
  induction n with
  | zero =>
    intro v1 D hf
    exact absurd (show (none : Option (Int64 × Dt)) = some (rr, DD) from hf) (by simp)
  | succ n ih =>
    intro v1 D hf
    exact ts_Model_digest_37 C (k37 := lp_Model_digest_37 n) ih hf
def s_Model_digest_9 (k9 : Int32 → Dt → Option (Int64 × Dt)) (v1 : Int32) (D : Dt) : Option (Int64 × Dt) :=
  (if 8 ≤ v1 then bnd (f_Model_mixStreet D) (fun x2 D3 => lp_Model_digest_37 FU 0 D3) else bnd (f_Model_counted v1 D) (fun x16 D17 => bnd (f_Model_mix (x16.toInt64) D17) (fun x18 D19 => k9 (v1 + 1) D19)))
def lp_Model_digest_9 (n : Nat) : Int32 → Dt → Option (Int64 × Dt) := itr (fun _ _ => none) (s_Model_digest_9) n
set_option maxHeartbeats 4000000 in
theorem ts_Model_digest_9 {Γ : GmT} {G : Dt → Nat → List (Nat × Value) → List Value → Prop} {rr : Int64} {DD : Dt} (C : Cx Γ "RiverTuesdaysModel" b_Model_digest 3 4 (some .long) (some (.long rr)) DD G) {k9 : Int32 → Dt → Option (Int64 × Dt)} (hk9 : ∀ (v1 : Int32) (D : Dt), k9 v1 D = some (rr, DD) → G D 9 [(0, .ref (Γ.2.1 176)), (1, .int v1)] []) {v1 : Int32} {D : Dt} (hf : s_Model_digest_9 k9 v1 D = some (rr, DD)) : G D 9 [(0, .ref (Γ.2.1 176)), (1, .int v1)] [] := by
  unfold s_Model_digest_9 at hf
  refine r_iload_n (pc := 9) C 1 d_Model_digest_9 rfl rfl ?_
  refine r_bipush (pc := 10) C (v := 8) d_Model_digest_10 (by decide) ?_
  refine r_icmp_ge (pc := 12) C (tgt := 31) d_Model_digest_12 (by decide) hf (fun c12 hf => ?_) (fun c12 hf => ?_)
  · refine r_aload_n (pc := 31) C 0 d_Model_digest_31 rfl rfl ?_
    refine r_callVv (pc := 32) (As := []) (rest := []) C ok_Model_mixStreet Lm_Model_363 k_id176 (by decide) ⟨by decide, by decide⟩ rfl rfl (Nat.le_of_ble_eq_true rfl) d_Model_digest_32 hf (fun x D1 hc => c_Model_mixStreet Γ hc) (fun x2 D3 hf => ?_)
    refine r_iconst (pc := 35) C (v := 0) d_Model_digest_35 (by decide) ?_
    refine r_istore_n (pc := 36) (lv' := [(1, .int 0), (0, .ref (Γ.2.1 176))]) C d_Model_digest_36 rfl (Nat.le_of_ble_eq_true rfl) rfl ?_
    exact r_lv (pc := 37) C [1, 0] rfl (tl_Model_digest_37 C FU 0 D3 hf)
  · refine r_aload_n (pc := 15) C 0 d_Model_digest_15 rfl rfl ?_
    refine r_aload_n (pc := 16) C 0 d_Model_digest_16 rfl rfl ?_
    refine r_iload_n (pc := 17) C 1 d_Model_digest_17 rfl rfl ?_
    refine r_callVi (pc := 18) (As := [.int v1]) (rest := [.ref (Γ.2.1 176)]) C ok_Model_counted Lm_Model_346 k_id176 (by decide) ⟨by decide, by decide⟩ rfl rfl (Nat.le_of_ble_eq_true rfl) d_Model_digest_18 hf (fun x D1 hc => c_Model_counted Γ hc) (fun x16 D17 hf => ?_)
    refine r_i2l (pc := 21) C d_Model_digest_21 ?_
    refine r_callVv (pc := 22) (As := [.long (x16.toInt64)]) (rest := []) C ok_Model_mix Lm_Model_355 k_id176 (by decide) ⟨by decide, by decide⟩ rfl rfl (Nat.le_of_ble_eq_true rfl) d_Model_digest_22 hf (fun x D1 hc => c_Model_mix Γ hc) (fun x18 D19 hf => ?_)
    refine r_iinc (pc := 25) C (v := v1 + 1) (lv' := [(1, .int (v1 + 1)), (0, .ref (Γ.2.1 176))]) 1 d_Model_digest_25 rfl rfl (Nat.le_of_ble_eq_true rfl) rfl ?_
    refine r_goto (pc := 28) C (tgt := 9) d_Model_digest_28 (by decide) ?_
    exact r_lv (pc := 9) C [1, 0] rfl (hk9 (v1 + 1) D19 hf)
theorem tl_Model_digest_9 {Γ : GmT} {G : Dt → Nat → List (Nat × Value) → List Value → Prop} {rr : Int64} {DD : Dt} (C : Cx Γ "RiverTuesdaysModel" b_Model_digest 3 4 (some .long) (some (.long rr)) DD G) : ∀ (n : Nat) (v1 : Int32) (D : Dt), lp_Model_digest_9 n v1 D = some (rr, DD) → G D 9 [(0, .ref (Γ.2.1 176)), (1, .int v1)] [] := by
  intro n
  induction n with
  | zero =>
    intro v1 D hf
    exact absurd (show (none : Option (Int64 × Dt)) = some (rr, DD) from hf) (by simp)
  | succ n ih =>
    intro v1 D hf
    exact ts_Model_digest_9 C (k9 := lp_Model_digest_9 n) ih hf
def f_Model_digest (D : Dt) : Option (Int64 × Dt) :=
  nm (wrL D 176 17) (fun D1 => lp_Model_digest_9 FU 0 D1)
set_option maxHeartbeats 4000000 in
theorem te_Model_digest {Γ : GmT} {G : Dt → Nat → List (Nat × Value) → List Value → Prop} {rr : Int64} {DD : Dt} (C : Cx Γ "RiverTuesdaysModel" b_Model_digest 3 4 (some .long) (some (.long rr)) DD G) {D : Dt} (hf : f_Model_digest D = some (rr, DD)) : G D 0 [(0, .ref (Γ.2.1 176))] [] := by
  unfold f_Model_digest at hf
  refine r_aload_n (pc := 0) C 0 d_Model_digest_0 rfl rfl ?_
  refine r_ldc2 (pc := 1) C Lc_Model_361 d_Model_digest_1 ?_
  refine p_Model_hash (pc := 4) C k_id176 Lf_Model_351 d_Model_digest_4 ?_
  refine r_nmD hf (fun D1 hf => ?_)
  refine r_iconst (pc := 7) C (v := 0) d_Model_digest_7 (by decide) ?_
  refine r_istore_n (pc := 8) (lv' := [(1, .int 0), (0, .ref (Γ.2.1 176))]) C d_Model_digest_8 rfl (Nat.le_of_ble_eq_true rfl) rfl ?_
  exact r_lv (pc := 9) C [1, 0] rfl (tl_Model_digest_9 C FU 0 D1 hf)
theorem c_Model_digest (Γ : GmT) {D : Dt} {rr : Int64} {DD : Dt} (hf : f_Model_digest D = some (rr, DD)) : Mt Γ y_Model_digest b_Model_digest 3 (some .long) 4 [.ref (Γ.2.1 176)] D (some (.long rr)) DD := Mt_of (by decide) (Nat.le_of_ble_eq_true rfl) (fun G C => te_Model_digest C hf)
