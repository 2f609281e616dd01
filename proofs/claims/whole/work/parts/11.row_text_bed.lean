/-! 11.row_text_bed: printed by wip/whole/gen/gmeth.py out of the bytecode -/
abbrev b_Row_isThere : ByteArray := prog_5_method_2_code
abbrev y_Row_isThere : MethodName := ⟨"RiverTuesdays$Row", "isThere", "()Z"⟩
theorem ok_Row_isThere : okV y_Row_isThere b_Row_isThere 1 (some .boolean) 0 3 := ⟨mGW (List.mem_of_getElem? (i := 410) (by decide +kernel)) rfl, mGW (List.mem_of_getElem? (i := 411) (by decide +kernel)) rfl, mGW (List.mem_of_getElem? (i := 81) (by decide +kernel)) rfl, mGW (List.mem_of_getElem? (i := 412) (by decide +kernel)) rfl, ⟨by decide, by decide, by decide +kernel⟩, rfl⟩
theorem d_Row_isThere_0 : decode b_Row_isThere 0 = .ok (.aload_n 0, 1) := by decide +kernel
theorem d_Row_isThere_1 : decode b_Row_isThere 1 = .ok (.getfield 15, 3) := by decide +kernel
theorem d_Row_isThere_4 : decode b_Row_isThere 4 = .ok (.iconst (-1), 1) := by decide +kernel
theorem d_Row_isThere_5 : decode b_Row_isThere 5 = .ok (.if_icmp .eq 7, 3) := by decide +kernel
theorem d_Row_isThere_8 : decode b_Row_isThere 8 = .ok (.iconst 1, 1) := by decide +kernel
theorem d_Row_isThere_9 : decode b_Row_isThere 9 = .ok (.goto 4, 3) := by decide +kernel
theorem d_Row_isThere_12 : decode b_Row_isThere 12 = .ok (.iconst 0, 1) := by decide +kernel
theorem d_Row_isThere_13 : decode b_Row_isThere 13 = .ok (.ireturn, 1) := by decide +kernel
abbrev b_Row_begin : ByteArray := prog_5_method_3_code
abbrev y_Row_begin : MethodName := ⟨"RiverTuesdays$Row", "begin", "(I)V"⟩
theorem ok_Row_begin : okV y_Row_begin b_Row_begin 2 none 1 3 := ⟨mGW (List.mem_of_getElem? (i := 391) (by decide +kernel)) rfl, mGW (List.mem_of_getElem? (i := 392) (by decide +kernel)) rfl, mGW (List.mem_of_getElem? (i := 81) (by decide +kernel)) rfl, mGW (List.mem_of_getElem? (i := 393) (by decide +kernel)) rfl, ⟨by decide, by decide, by decide +kernel⟩, rfl⟩
theorem d_Row_begin_0 : decode b_Row_begin 0 = .ok (.aload_n 0, 1) := by decide +kernel
theorem d_Row_begin_1 : decode b_Row_begin 1 = .ok (.getfield 9, 3) := by decide +kernel
theorem d_Row_begin_4 : decode b_Row_begin 4 = .ok (.iconst 0, 1) := by decide +kernel
theorem d_Row_begin_5 : decode b_Row_begin 5 = .ok (.invokestatic 19, 3) := by decide +kernel
theorem d_Row_begin_8 : decode b_Row_begin 8 = .ok (.aload_n 0, 1) := by decide +kernel
theorem d_Row_begin_9 : decode b_Row_begin 9 = .ok (.iload_n 1, 1) := by decide +kernel
theorem d_Row_begin_10 : decode b_Row_begin 10 = .ok (.putfield 15, 3) := by decide +kernel
theorem d_Row_begin_13 : decode b_Row_begin 13 = .ok (.return_, 1) := by decide +kernel
abbrev b_Row_takeFrom : ByteArray := prog_5_method_4_code
abbrev y_Row_takeFrom : MethodName := ⟨"RiverTuesdays$Row", "takeFrom", "([II)V"⟩
theorem ok_Row_takeFrom : okV y_Row_takeFrom b_Row_takeFrom 3 none 2 3 := ⟨mGW (List.mem_of_getElem? (i := 759) (by decide +kernel)) rfl, mGW (List.mem_of_getElem? (i := 760) (by decide +kernel)) rfl, mGW (List.mem_of_getElem? (i := 81) (by decide +kernel)) rfl, mGW (List.mem_of_getElem? (i := 761) (by decide +kernel)) rfl, ⟨by decide, by decide, by decide +kernel⟩, rfl⟩
theorem d_Row_takeFrom_0 : decode b_Row_takeFrom 0 = .ok (.aload_n 1, 1) := by decide +kernel
theorem d_Row_takeFrom_1 : decode b_Row_takeFrom 1 = .ok (.iconst 0, 1) := by decide +kernel
theorem d_Row_takeFrom_2 : decode b_Row_takeFrom 2 = .ok (.aload_n 0, 1) := by decide +kernel
theorem d_Row_takeFrom_3 : decode b_Row_takeFrom 3 = .ok (.getfield 9, 3) := by decide +kernel
theorem d_Row_takeFrom_6 : decode b_Row_takeFrom 6 = .ok (.iconst 0, 1) := by decide +kernel
theorem d_Row_takeFrom_7 : decode b_Row_takeFrom 7 = .ok (.iload_n 2, 1) := by decide +kernel
theorem d_Row_takeFrom_8 : decode b_Row_takeFrom 8 = .ok (.invokestatic 25, 3) := by decide +kernel
theorem d_Row_takeFrom_11 : decode b_Row_takeFrom 11 = .ok (.aload_n 0, 1) := by decide +kernel
theorem d_Row_takeFrom_12 : decode b_Row_takeFrom 12 = .ok (.iload_n 2, 1) := by decide +kernel
theorem d_Row_takeFrom_13 : decode b_Row_takeFrom 13 = .ok (.putfield 15, 3) := by decide +kernel
theorem d_Row_takeFrom_16 : decode b_Row_takeFrom 16 = .ok (.return_, 1) := by decide +kernel
abbrev b_Row_hasRun : ByteArray := prog_5_method_5_code
abbrev y_Row_hasRun : MethodName := ⟨"RiverTuesdays$Row", "hasRun", "(II)Z"⟩
theorem ok_Row_hasRun : okV y_Row_hasRun b_Row_hasRun 3 (some .boolean) 2 3 := ⟨mGW (List.mem_of_getElem? (i := 430) (by decide +kernel)) rfl, mGW (List.mem_of_getElem? (i := 431) (by decide +kernel)) rfl, mGW (List.mem_of_getElem? (i := 81) (by decide +kernel)) rfl, mGW (List.mem_of_getElem? (i := 432) (by decide +kernel)) rfl, ⟨by decide, by decide, by decide +kernel⟩, rfl⟩
theorem d_Row_hasRun_0 : decode b_Row_hasRun 0 = .ok (.iload_n 1, 1) := by decide +kernel
theorem d_Row_hasRun_1 : decode b_Row_hasRun 1 = .ok (.ifCond .lt 25, 3) := by decide +kernel
theorem d_Row_hasRun_4 : decode b_Row_hasRun 4 = .ok (.iload_n 1, 1) := by decide +kernel
theorem d_Row_hasRun_5 : decode b_Row_hasRun 5 = .ok (.aload_n 0, 1) := by decide +kernel
theorem d_Row_hasRun_6 : decode b_Row_hasRun 6 = .ok (.getfield 15, 3) := by decide +kernel
theorem d_Row_hasRun_9 : decode b_Row_hasRun 9 = .ok (.if_icmp .gt 17, 3) := by decide +kernel
theorem d_Row_hasRun_12 : decode b_Row_hasRun 12 = .ok (.iload_n 2, 1) := by decide +kernel
theorem d_Row_hasRun_13 : decode b_Row_hasRun 13 = .ok (.aload_n 0, 1) := by decide +kernel
theorem d_Row_hasRun_14 : decode b_Row_hasRun 14 = .ok (.getfield 15, 3) := by decide +kernel
theorem d_Row_hasRun_17 : decode b_Row_hasRun 17 = .ok (.iload_n 1, 1) := by decide +kernel
theorem d_Row_hasRun_18 : decode b_Row_hasRun 18 = .ok (.isub, 1) := by decide +kernel
theorem d_Row_hasRun_19 : decode b_Row_hasRun 19 = .ok (.if_icmp .gt 7, 3) := by decide +kernel
theorem d_Row_hasRun_22 : decode b_Row_hasRun 22 = .ok (.iconst 1, 1) := by decide +kernel
theorem d_Row_hasRun_23 : decode b_Row_hasRun 23 = .ok (.goto 4, 3) := by decide +kernel
theorem d_Row_hasRun_26 : decode b_Row_hasRun 26 = .ok (.iconst 0, 1) := by decide +kernel
theorem d_Row_hasRun_27 : decode b_Row_hasRun 27 = .ok (.ireturn, 1) := by decide +kernel
abbrev b_Row_isAllWithin : ByteArray := prog_5_method_6_code
abbrev y_Row_isAllWithin : MethodName := ⟨"RiverTuesdays$Row", "isAllWithin", "(II)Z"⟩
theorem ok_Row_isAllWithin : okV y_Row_isAllWithin b_Row_isAllWithin 4 (some .boolean) 2 3 := ⟨mGW (List.mem_of_getElem? (i := 886) (by decide +kernel)) rfl, mGW (List.mem_of_getElem? (i := 887) (by decide +kernel)) rfl, mGW (List.mem_of_getElem? (i := 81) (by decide +kernel)) rfl, mGW (List.mem_of_getElem? (i := 888) (by decide +kernel)) rfl, ⟨by decide, by decide, by decide +kernel⟩, rfl⟩
theorem d_Row_isAllWithin_0 : decode b_Row_isAllWithin 0 = .ok (.iconst 0, 1) := by decide +kernel
theorem d_Row_isAllWithin_1 : decode b_Row_isAllWithin 1 = .ok (.istore_n 3, 1) := by decide +kernel
theorem d_Row_isAllWithin_2 : decode b_Row_isAllWithin 2 = .ok (.iload_n 3, 1) := by decide +kernel
theorem d_Row_isAllWithin_3 : decode b_Row_isAllWithin 3 = .ok (.aload_n 0, 1) := by decide +kernel
theorem d_Row_isAllWithin_4 : decode b_Row_isAllWithin 4 = .ok (.getfield 15, 3) := by decide +kernel
theorem d_Row_isAllWithin_7 : decode b_Row_isAllWithin 7 = .ok (.if_icmp .ge 25, 3) := by decide +kernel
theorem d_Row_isAllWithin_10 : decode b_Row_isAllWithin 10 = .ok (.aload_n 0, 1) := by decide +kernel
theorem d_Row_isAllWithin_11 : decode b_Row_isAllWithin 11 = .ok (.getfield 9, 3) := by decide +kernel
theorem d_Row_isAllWithin_14 : decode b_Row_isAllWithin 14 = .ok (.iload_n 3, 1) := by decide +kernel
theorem d_Row_isAllWithin_15 : decode b_Row_isAllWithin 15 = .ok (.iaload, 1) := by decide +kernel
theorem d_Row_isAllWithin_16 : decode b_Row_isAllWithin 16 = .ok (.iload_n 1, 1) := by decide +kernel
theorem d_Row_isAllWithin_17 : decode b_Row_isAllWithin 17 = .ok (.iload_n 2, 1) := by decide +kernel
theorem d_Row_isAllWithin_18 : decode b_Row_isAllWithin 18 = .ok (.invokestatic 31, 3) := by decide +kernel
theorem d_Row_isAllWithin_21 : decode b_Row_isAllWithin 21 = .ok (.ifCond .ne 5, 3) := by decide +kernel
theorem d_Row_isAllWithin_24 : decode b_Row_isAllWithin 24 = .ok (.iconst 0, 1) := by decide +kernel
theorem d_Row_isAllWithin_25 : decode b_Row_isAllWithin 25 = .ok (.ireturn, 1) := by decide +kernel
theorem d_Row_isAllWithin_26 : decode b_Row_isAllWithin 26 = .ok (.iinc 3 1, 3) := by decide +kernel
theorem d_Row_isAllWithin_29 : decode b_Row_isAllWithin 29 = .ok (.goto (-27), 3) := by decide +kernel
theorem d_Row_isAllWithin_32 : decode b_Row_isAllWithin 32 = .ok (.iconst 1, 1) := by decide +kernel
theorem d_Row_isAllWithin_33 : decode b_Row_isAllWithin 33 = .ok (.ireturn, 1) := by decide +kernel
abbrev b_Row_sum : ByteArray := prog_5_method_7_code
abbrev y_Row_sum : MethodName := ⟨"RiverTuesdays$Row", "sum", "()J"⟩
theorem ok_Row_sum : okV y_Row_sum b_Row_sum 4 (some .long) 0 3 := ⟨mGW (List.mem_of_getElem? (i := 441) (by decide +kernel)) rfl, mGW (List.mem_of_getElem? (i := 442) (by decide +kernel)) rfl, mGW (List.mem_of_getElem? (i := 81) (by decide +kernel)) rfl, mGW (List.mem_of_getElem? (i := 443) (by decide +kernel)) rfl, ⟨by decide, by decide, by decide +kernel⟩, rfl⟩
theorem d_Row_sum_0 : decode b_Row_sum 0 = .ok (.lconst 0, 1) := by decide +kernel
theorem d_Row_sum_1 : decode b_Row_sum 1 = .ok (.lstore_n 1, 1) := by decide +kernel
theorem d_Row_sum_2 : decode b_Row_sum 2 = .ok (.iconst 0, 1) := by decide +kernel
theorem d_Row_sum_3 : decode b_Row_sum 3 = .ok (.istore_n 3, 1) := by decide +kernel
theorem d_Row_sum_4 : decode b_Row_sum 4 = .ok (.iload_n 3, 1) := by decide +kernel
theorem d_Row_sum_5 : decode b_Row_sum 5 = .ok (.aload_n 0, 1) := by decide +kernel
theorem d_Row_sum_6 : decode b_Row_sum 6 = .ok (.getfield 15, 3) := by decide +kernel
theorem d_Row_sum_9 : decode b_Row_sum 9 = .ok (.if_icmp .ge 19, 3) := by decide +kernel
theorem d_Row_sum_12 : decode b_Row_sum 12 = .ok (.lload_n 1, 1) := by decide +kernel
theorem d_Row_sum_13 : decode b_Row_sum 13 = .ok (.aload_n 0, 1) := by decide +kernel
theorem d_Row_sum_14 : decode b_Row_sum 14 = .ok (.getfield 9, 3) := by decide +kernel
theorem d_Row_sum_17 : decode b_Row_sum 17 = .ok (.iload_n 3, 1) := by decide +kernel
theorem d_Row_sum_18 : decode b_Row_sum 18 = .ok (.iaload, 1) := by decide +kernel
theorem d_Row_sum_19 : decode b_Row_sum 19 = .ok (.i2l, 1) := by decide +kernel
theorem d_Row_sum_20 : decode b_Row_sum 20 = .ok (.ladd, 1) := by decide +kernel
theorem d_Row_sum_21 : decode b_Row_sum 21 = .ok (.lstore_n 1, 1) := by decide +kernel
theorem d_Row_sum_22 : decode b_Row_sum 22 = .ok (.iinc 3 1, 3) := by decide +kernel
theorem d_Row_sum_25 : decode b_Row_sum 25 = .ok (.goto (-21), 3) := by decide +kernel
theorem d_Row_sum_28 : decode b_Row_sum 28 = .ok (.lload_n 1, 1) := by decide +kernel
theorem d_Row_sum_29 : decode b_Row_sum 29 = .ok (.lreturn, 1) := by decide +kernel
abbrev b_Row_greatest : ByteArray := prog_5_method_8_code
abbrev y_Row_greatest : MethodName := ⟨"RiverTuesdays$Row", "greatest", "()I"⟩
theorem ok_Row_greatest : okV y_Row_greatest b_Row_greatest 3 (some .int) 0 3 := ⟨mGW (List.mem_of_getElem? (i := 764) (by decide +kernel)) rfl, mGW (List.mem_of_getElem? (i := 765) (by decide +kernel)) rfl, mGW (List.mem_of_getElem? (i := 81) (by decide +kernel)) rfl, mGW (List.mem_of_getElem? (i := 766) (by decide +kernel)) rfl, ⟨by decide, by decide, by decide +kernel⟩, rfl⟩
theorem d_Row_greatest_0 : decode b_Row_greatest 0 = .ok (.iconst 0, 1) := by decide +kernel
theorem d_Row_greatest_1 : decode b_Row_greatest 1 = .ok (.istore_n 1, 1) := by decide +kernel
theorem d_Row_greatest_2 : decode b_Row_greatest 2 = .ok (.iconst 0, 1) := by decide +kernel
theorem d_Row_greatest_3 : decode b_Row_greatest 3 = .ok (.istore_n 2, 1) := by decide +kernel
theorem d_Row_greatest_4 : decode b_Row_greatest 4 = .ok (.iload_n 2, 1) := by decide +kernel
theorem d_Row_greatest_5 : decode b_Row_greatest 5 = .ok (.aload_n 0, 1) := by decide +kernel
theorem d_Row_greatest_6 : decode b_Row_greatest 6 = .ok (.getfield 15, 3) := by decide +kernel
theorem d_Row_greatest_9 : decode b_Row_greatest 9 = .ok (.if_icmp .ge 20, 3) := by decide +kernel
theorem d_Row_greatest_12 : decode b_Row_greatest 12 = .ok (.iload_n 1, 1) := by decide +kernel
theorem d_Row_greatest_13 : decode b_Row_greatest 13 = .ok (.aload_n 0, 1) := by decide +kernel
theorem d_Row_greatest_14 : decode b_Row_greatest 14 = .ok (.getfield 9, 3) := by decide +kernel
theorem d_Row_greatest_17 : decode b_Row_greatest 17 = .ok (.iload_n 2, 1) := by decide +kernel
theorem d_Row_greatest_18 : decode b_Row_greatest 18 = .ok (.iaload, 1) := by decide +kernel
theorem d_Row_greatest_19 : decode b_Row_greatest 19 = .ok (.invokestatic 35, 3) := by decide +kernel
theorem d_Row_greatest_22 : decode b_Row_greatest 22 = .ok (.istore_n 1, 1) := by decide +kernel
theorem d_Row_greatest_23 : decode b_Row_greatest 23 = .ok (.iinc 2 1, 3) := by decide +kernel
theorem d_Row_greatest_26 : decode b_Row_greatest 26 = .ok (.goto (-22), 3) := by decide +kernel
theorem d_Row_greatest_29 : decode b_Row_greatest 29 = .ok (.iload_n 1, 1) := by decide +kernel
theorem d_Row_greatest_30 : decode b_Row_greatest 30 = .ok (.ireturn, 1) := by decide +kernel
abbrev b_Row_foldedInto : ByteArray := prog_5_method_9_code
abbrev y_Row_foldedInto : MethodName := ⟨"RiverTuesdays$Row", "foldedInto", "(J)J"⟩
theorem ok_Row_foldedInto : okV y_Row_foldedInto b_Row_foldedInto 4 (some .long) 1 3 := ⟨mGW (List.mem_of_getElem? (i := 1027) (by decide +kernel)) rfl, mGW (List.mem_of_getElem? (i := 1028) (by decide +kernel)) rfl, mGW (List.mem_of_getElem? (i := 81) (by decide +kernel)) rfl, mGW (List.mem_of_getElem? (i := 1029) (by decide +kernel)) rfl, ⟨by decide, by decide, by decide +kernel⟩, rfl⟩
theorem d_Row_foldedInto_0 : decode b_Row_foldedInto 0 = .ok (.ldc2_w 41, 3) := by decide +kernel
theorem d_Row_foldedInto_3 : decode b_Row_foldedInto 3 = .ok (.lload_n 1, 1) := by decide +kernel
theorem d_Row_foldedInto_4 : decode b_Row_foldedInto 4 = .ok (.lmul, 1) := by decide +kernel
theorem d_Row_foldedInto_5 : decode b_Row_foldedInto 5 = .ok (.aload_n 0, 1) := by decide +kernel
theorem d_Row_foldedInto_6 : decode b_Row_foldedInto 6 = .ok (.getfield 15, 3) := by decide +kernel
theorem d_Row_foldedInto_9 : decode b_Row_foldedInto 9 = .ok (.i2l, 1) := by decide +kernel
theorem d_Row_foldedInto_10 : decode b_Row_foldedInto 10 = .ok (.ladd, 1) := by decide +kernel
theorem d_Row_foldedInto_11 : decode b_Row_foldedInto 11 = .ok (.lstore_n 1, 1) := by decide +kernel
theorem d_Row_foldedInto_12 : decode b_Row_foldedInto 12 = .ok (.iconst 0, 1) := by decide +kernel
theorem d_Row_foldedInto_13 : decode b_Row_foldedInto 13 = .ok (.istore_n 3, 1) := by decide +kernel
theorem d_Row_foldedInto_14 : decode b_Row_foldedInto 14 = .ok (.iload_n 3, 1) := by decide +kernel
theorem d_Row_foldedInto_15 : decode b_Row_foldedInto 15 = .ok (.aload_n 0, 1) := by decide +kernel
theorem d_Row_foldedInto_16 : decode b_Row_foldedInto 16 = .ok (.getfield 15, 3) := by decide +kernel
theorem d_Row_foldedInto_19 : decode b_Row_foldedInto 19 = .ok (.if_icmp .ge 23, 3) := by decide +kernel
theorem d_Row_foldedInto_22 : decode b_Row_foldedInto 22 = .ok (.ldc2_w 41, 3) := by decide +kernel
theorem d_Row_foldedInto_25 : decode b_Row_foldedInto 25 = .ok (.lload_n 1, 1) := by decide +kernel
theorem d_Row_foldedInto_26 : decode b_Row_foldedInto 26 = .ok (.lmul, 1) := by decide +kernel
theorem d_Row_foldedInto_27 : decode b_Row_foldedInto 27 = .ok (.aload_n 0, 1) := by decide +kernel
theorem d_Row_foldedInto_28 : decode b_Row_foldedInto 28 = .ok (.getfield 9, 3) := by decide +kernel
theorem d_Row_foldedInto_31 : decode b_Row_foldedInto 31 = .ok (.iload_n 3, 1) := by decide +kernel
theorem d_Row_foldedInto_32 : decode b_Row_foldedInto 32 = .ok (.iaload, 1) := by decide +kernel
theorem d_Row_foldedInto_33 : decode b_Row_foldedInto 33 = .ok (.i2l, 1) := by decide +kernel
theorem d_Row_foldedInto_34 : decode b_Row_foldedInto 34 = .ok (.ladd, 1) := by decide +kernel
theorem d_Row_foldedInto_35 : decode b_Row_foldedInto 35 = .ok (.lstore_n 1, 1) := by decide +kernel
theorem d_Row_foldedInto_36 : decode b_Row_foldedInto 36 = .ok (.iinc 3 1, 3) := by decide +kernel
theorem d_Row_foldedInto_39 : decode b_Row_foldedInto 39 = .ok (.goto (-25), 3) := by decide +kernel
theorem d_Row_foldedInto_42 : decode b_Row_foldedInto 42 = .ok (.lload_n 1, 1) := by decide +kernel
theorem d_Row_foldedInto_43 : decode b_Row_foldedInto 43 = .ok (.lreturn, 1) := by decide +kernel
abbrev b_Text_isThere : ByteArray := prog_7_method_2_code
abbrev y_Text_isThere : MethodName := ⟨"RiverTuesdays$Text", "isThere", "()Z"⟩
theorem ok_Text_isThere : okV y_Text_isThere b_Text_isThere 1 (some .boolean) 0 5 := ⟨mGW (List.mem_of_getElem? (i := 467) (by decide +kernel)) rfl, mGW (List.mem_of_getElem? (i := 468) (by decide +kernel)) rfl, mGW (List.mem_of_getElem? (i := 82) (by decide +kernel)) rfl, mGW (List.mem_of_getElem? (i := 469) (by decide +kernel)) rfl, ⟨by decide, by decide, by decide +kernel⟩, rfl⟩
theorem d_Text_isThere_0 : decode b_Text_isThere 0 = .ok (.aload_n 0, 1) := by decide +kernel
theorem d_Text_isThere_1 : decode b_Text_isThere 1 = .ok (.getfield 15, 3) := by decide +kernel
theorem d_Text_isThere_4 : decode b_Text_isThere 4 = .ok (.iconst (-1), 1) := by decide +kernel
theorem d_Text_isThere_5 : decode b_Text_isThere 5 = .ok (.if_icmp .eq 7, 3) := by decide +kernel
theorem d_Text_isThere_8 : decode b_Text_isThere 8 = .ok (.iconst 1, 1) := by decide +kernel
theorem d_Text_isThere_9 : decode b_Text_isThere 9 = .ok (.goto 4, 3) := by decide +kernel
theorem d_Text_isThere_12 : decode b_Text_isThere 12 = .ok (.iconst 0, 1) := by decide +kernel
theorem d_Text_isThere_13 : decode b_Text_isThere 13 = .ok (.ireturn, 1) := by decide +kernel
abbrev b_Text_begin : ByteArray := prog_7_method_3_code
abbrev y_Text_begin : MethodName := ⟨"RiverTuesdays$Text", "begin", "(I)V"⟩
theorem ok_Text_begin : okV y_Text_begin b_Text_begin 2 none 1 5 := ⟨mGW (List.mem_of_getElem? (i := 452) (by decide +kernel)) rfl, mGW (List.mem_of_getElem? (i := 453) (by decide +kernel)) rfl, mGW (List.mem_of_getElem? (i := 82) (by decide +kernel)) rfl, mGW (List.mem_of_getElem? (i := 454) (by decide +kernel)) rfl, ⟨by decide, by decide, by decide +kernel⟩, rfl⟩
theorem d_Text_begin_0 : decode b_Text_begin 0 = .ok (.aload_n 0, 1) := by decide +kernel
theorem d_Text_begin_1 : decode b_Text_begin 1 = .ok (.getfield 9, 3) := by decide +kernel
theorem d_Text_begin_4 : decode b_Text_begin 4 = .ok (.bipush 32, 2) := by decide +kernel
theorem d_Text_begin_6 : decode b_Text_begin 6 = .ok (.invokestatic 19, 3) := by decide +kernel
theorem d_Text_begin_9 : decode b_Text_begin 9 = .ok (.aload_n 0, 1) := by decide +kernel
theorem d_Text_begin_10 : decode b_Text_begin 10 = .ok (.iload_n 1, 1) := by decide +kernel
theorem d_Text_begin_11 : decode b_Text_begin 11 = .ok (.putfield 15, 3) := by decide +kernel
theorem d_Text_begin_14 : decode b_Text_begin 14 = .ok (.return_, 1) := by decide +kernel
abbrev b_Text_behindBlanks : ByteArray := prog_7_method_4_code
abbrev y_Text_behindBlanks : MethodName := ⟨"RiverTuesdays$Text", "behindBlanks", "(I)I"⟩
theorem ok_Text_behindBlanks : okV y_Text_behindBlanks b_Text_behindBlanks 3 (some .int) 1 5 := ⟨mGW (List.mem_of_getElem? (i := 480) (by decide +kernel)) rfl, mGW (List.mem_of_getElem? (i := 481) (by decide +kernel)) rfl, mGW (List.mem_of_getElem? (i := 82) (by decide +kernel)) rfl, mGW (List.mem_of_getElem? (i := 482) (by decide +kernel)) rfl, ⟨by decide, by decide, by decide +kernel⟩, rfl⟩
theorem d_Text_behindBlanks_0 : decode b_Text_behindBlanks 0 = .ok (.iload_n 1, 1) := by decide +kernel
theorem d_Text_behindBlanks_1 : decode b_Text_behindBlanks 1 = .ok (.istore_n 2, 1) := by decide +kernel
theorem d_Text_behindBlanks_2 : decode b_Text_behindBlanks 2 = .ok (.iload_n 2, 1) := by decide +kernel
theorem d_Text_behindBlanks_3 : decode b_Text_behindBlanks 3 = .ok (.aload_n 0, 1) := by decide +kernel
theorem d_Text_behindBlanks_4 : decode b_Text_behindBlanks 4 = .ok (.getfield 15, 3) := by decide +kernel
theorem d_Text_behindBlanks_7 : decode b_Text_behindBlanks 7 = .ok (.if_icmp .ge 20, 3) := by decide +kernel
theorem d_Text_behindBlanks_10 : decode b_Text_behindBlanks 10 = .ok (.aload_n 0, 1) := by decide +kernel
theorem d_Text_behindBlanks_11 : decode b_Text_behindBlanks 11 = .ok (.getfield 9, 3) := by decide +kernel
theorem d_Text_behindBlanks_14 : decode b_Text_behindBlanks 14 = .ok (.iload_n 2, 1) := by decide +kernel
theorem d_Text_behindBlanks_15 : decode b_Text_behindBlanks 15 = .ok (.baload, 1) := by decide +kernel
theorem d_Text_behindBlanks_16 : decode b_Text_behindBlanks 16 = .ok (.bipush 32, 2) := by decide +kernel
theorem d_Text_behindBlanks_18 : decode b_Text_behindBlanks 18 = .ok (.if_icmp .ne 9, 3) := by decide +kernel
theorem d_Text_behindBlanks_21 : decode b_Text_behindBlanks 21 = .ok (.iinc 2 1, 3) := by decide +kernel
theorem d_Text_behindBlanks_24 : decode b_Text_behindBlanks 24 = .ok (.goto (-22), 3) := by decide +kernel
theorem d_Text_behindBlanks_27 : decode b_Text_behindBlanks 27 = .ok (.iload_n 2, 1) := by decide +kernel
theorem d_Text_behindBlanks_28 : decode b_Text_behindBlanks 28 = .ok (.ireturn, 1) := by decide +kernel
abbrev b_Text_figureAt : ByteArray := prog_7_method_5_code
abbrev y_Text_figureAt : MethodName := ⟨"RiverTuesdays$Text", "figureAt", "(I)I"⟩
theorem ok_Text_figureAt : okV y_Text_figureAt b_Text_figureAt 3 (some .int) 1 5 := ⟨mGW (List.mem_of_getElem? (i := 484) (by decide +kernel)) rfl, mGW (List.mem_of_getElem? (i := 485) (by decide +kernel)) rfl, mGW (List.mem_of_getElem? (i := 82) (by decide +kernel)) rfl, mGW (List.mem_of_getElem? (i := 486) (by decide +kernel)) rfl, ⟨by decide, by decide, by decide +kernel⟩, rfl⟩
theorem d_Text_figureAt_0 : decode b_Text_figureAt 0 = .ok (.iload_n 1, 1) := by decide +kernel
theorem d_Text_figureAt_1 : decode b_Text_figureAt 1 = .ok (.aload_n 0, 1) := by decide +kernel
theorem d_Text_figureAt_2 : decode b_Text_figureAt 2 = .ok (.getfield 15, 3) := by decide +kernel
theorem d_Text_figureAt_5 : decode b_Text_figureAt 5 = .ok (.if_icmp .ge 29, 3) := by decide +kernel
theorem d_Text_figureAt_8 : decode b_Text_figureAt 8 = .ok (.aload_n 0, 1) := by decide +kernel
theorem d_Text_figureAt_9 : decode b_Text_figureAt 9 = .ok (.getfield 9, 3) := by decide +kernel
theorem d_Text_figureAt_12 : decode b_Text_figureAt 12 = .ok (.iload_n 1, 1) := by decide +kernel
theorem d_Text_figureAt_13 : decode b_Text_figureAt 13 = .ok (.baload, 1) := by decide +kernel
theorem d_Text_figureAt_14 : decode b_Text_figureAt 14 = .ok (.bipush 48, 2) := by decide +kernel
theorem d_Text_figureAt_16 : decode b_Text_figureAt 16 = .ok (.if_icmp .lt 18, 3) := by decide +kernel
theorem d_Text_figureAt_19 : decode b_Text_figureAt 19 = .ok (.aload_n 0, 1) := by decide +kernel
theorem d_Text_figureAt_20 : decode b_Text_figureAt 20 = .ok (.getfield 9, 3) := by decide +kernel
theorem d_Text_figureAt_23 : decode b_Text_figureAt 23 = .ok (.iload_n 1, 1) := by decide +kernel
theorem d_Text_figureAt_24 : decode b_Text_figureAt 24 = .ok (.baload, 1) := by decide +kernel
theorem d_Text_figureAt_25 : decode b_Text_figureAt 25 = .ok (.bipush 57, 2) := by decide +kernel
theorem d_Text_figureAt_27 : decode b_Text_figureAt 27 = .ok (.if_icmp .gt 7, 3) := by decide +kernel
theorem d_Text_figureAt_30 : decode b_Text_figureAt 30 = .ok (.iconst 1, 1) := by decide +kernel
theorem d_Text_figureAt_31 : decode b_Text_figureAt 31 = .ok (.goto 4, 3) := by decide +kernel
theorem d_Text_figureAt_34 : decode b_Text_figureAt 34 = .ok (.iconst 0, 1) := by decide +kernel
theorem d_Text_figureAt_35 : decode b_Text_figureAt 35 = .ok (.istore_n 2, 1) := by decide +kernel
theorem d_Text_figureAt_36 : decode b_Text_figureAt 36 = .ok (.iload_n 2, 1) := by decide +kernel
theorem d_Text_figureAt_37 : decode b_Text_figureAt 37 = .ok (.ifCond .eq 15, 3) := by decide +kernel
theorem d_Text_figureAt_40 : decode b_Text_figureAt 40 = .ok (.aload_n 0, 1) := by decide +kernel
theorem d_Text_figureAt_41 : decode b_Text_figureAt 41 = .ok (.getfield 9, 3) := by decide +kernel
theorem d_Text_figureAt_44 : decode b_Text_figureAt 44 = .ok (.iload_n 1, 1) := by decide +kernel
theorem d_Text_figureAt_45 : decode b_Text_figureAt 45 = .ok (.baload, 1) := by decide +kernel
theorem d_Text_figureAt_46 : decode b_Text_figureAt 46 = .ok (.bipush 48, 2) := by decide +kernel
theorem d_Text_figureAt_48 : decode b_Text_figureAt 48 = .ok (.isub, 1) := by decide +kernel
theorem d_Text_figureAt_49 : decode b_Text_figureAt 49 = .ok (.goto 4, 3) := by decide +kernel
theorem d_Text_figureAt_52 : decode b_Text_figureAt 52 = .ok (.iconst (-1), 1) := by decide +kernel
theorem d_Text_figureAt_53 : decode b_Text_figureAt 53 = .ok (.ireturn, 1) := by decide +kernel
abbrev b_Text_kindAt : ByteArray := prog_7_method_6_code
abbrev y_Text_kindAt : MethodName := ⟨"RiverTuesdays$Text", "kindAt", "(I)I"⟩
theorem ok_Text_kindAt : okV y_Text_kindAt b_Text_kindAt 2 (some .int) 1 5 := ⟨mGW (List.mem_of_getElem? (i := 496) (by decide +kernel)) rfl, mGW (List.mem_of_getElem? (i := 497) (by decide +kernel)) rfl, mGW (List.mem_of_getElem? (i := 82) (by decide +kernel)) rfl, mGW (List.mem_of_getElem? (i := 498) (by decide +kernel)) rfl, ⟨by decide, by decide, by decide +kernel⟩, rfl⟩
theorem d_Text_kindAt_0 : decode b_Text_kindAt 0 = .ok (.aload_n 0, 1) := by decide +kernel
theorem d_Text_kindAt_1 : decode b_Text_kindAt 1 = .ok (.getfield 9, 3) := by decide +kernel
theorem d_Text_kindAt_4 : decode b_Text_kindAt 4 = .ok (.iload_n 1, 1) := by decide +kernel
theorem d_Text_kindAt_5 : decode b_Text_kindAt 5 = .ok (.baload, 1) := by decide +kernel
theorem d_Text_kindAt_6 : decode b_Text_kindAt 6 = .ok (.tableswitch 106 100 119 #[100, 106, 106, 106, 94, 106, 106, 106, 104, 96, 106, 106, 106, 106, 106, 98, 106, 106, 106, 102], 94) := by decide +kernel
theorem d_Text_kindAt_100 : decode b_Text_kindAt 100 = .ok (.iconst 0, 1) := by decide +kernel
theorem d_Text_kindAt_101 : decode b_Text_kindAt 101 = .ok (.ireturn, 1) := by decide +kernel
theorem d_Text_kindAt_102 : decode b_Text_kindAt 102 = .ok (.iconst 1, 1) := by decide +kernel
theorem d_Text_kindAt_103 : decode b_Text_kindAt 103 = .ok (.ireturn, 1) := by decide +kernel
theorem d_Text_kindAt_104 : decode b_Text_kindAt 104 = .ok (.iconst 2, 1) := by decide +kernel
theorem d_Text_kindAt_105 : decode b_Text_kindAt 105 = .ok (.ireturn, 1) := by decide +kernel
theorem d_Text_kindAt_106 : decode b_Text_kindAt 106 = .ok (.iconst 3, 1) := by decide +kernel
theorem d_Text_kindAt_107 : decode b_Text_kindAt 107 = .ok (.ireturn, 1) := by decide +kernel
theorem d_Text_kindAt_108 : decode b_Text_kindAt 108 = .ok (.iconst 4, 1) := by decide +kernel
theorem d_Text_kindAt_109 : decode b_Text_kindAt 109 = .ok (.ireturn, 1) := by decide +kernel
theorem d_Text_kindAt_110 : decode b_Text_kindAt 110 = .ok (.iconst 5, 1) := by decide +kernel
theorem d_Text_kindAt_111 : decode b_Text_kindAt 111 = .ok (.ireturn, 1) := by decide +kernel
theorem d_Text_kindAt_112 : decode b_Text_kindAt 112 = .ok (.iconst (-1), 1) := by decide +kernel
theorem d_Text_kindAt_113 : decode b_Text_kindAt 113 = .ok (.ireturn, 1) := by decide +kernel
abbrev b_Text_foldedInto : ByteArray := prog_7_method_7_code
abbrev y_Text_foldedInto : MethodName := ⟨"RiverTuesdays$Text", "foldedInto", "(J)J"⟩
theorem ok_Text_foldedInto : okV y_Text_foldedInto b_Text_foldedInto 4 (some .long) 1 5 := ⟨mGW (List.mem_of_getElem? (i := 1032) (by decide +kernel)) rfl, mGW (List.mem_of_getElem? (i := 1033) (by decide +kernel)) rfl, mGW (List.mem_of_getElem? (i := 82) (by decide +kernel)) rfl, mGW (List.mem_of_getElem? (i := 1034) (by decide +kernel)) rfl, ⟨by decide, by decide, by decide +kernel⟩, rfl⟩
theorem d_Text_foldedInto_0 : decode b_Text_foldedInto 0 = .ok (.ldc2_w 25, 3) := by decide +kernel
theorem d_Text_foldedInto_3 : decode b_Text_foldedInto 3 = .ok (.lload_n 1, 1) := by decide +kernel
theorem d_Text_foldedInto_4 : decode b_Text_foldedInto 4 = .ok (.lmul, 1) := by decide +kernel
theorem d_Text_foldedInto_5 : decode b_Text_foldedInto 5 = .ok (.aload_n 0, 1) := by decide +kernel
theorem d_Text_foldedInto_6 : decode b_Text_foldedInto 6 = .ok (.getfield 15, 3) := by decide +kernel
theorem d_Text_foldedInto_9 : decode b_Text_foldedInto 9 = .ok (.i2l, 1) := by decide +kernel
theorem d_Text_foldedInto_10 : decode b_Text_foldedInto 10 = .ok (.ladd, 1) := by decide +kernel
theorem d_Text_foldedInto_11 : decode b_Text_foldedInto 11 = .ok (.lstore_n 1, 1) := by decide +kernel
theorem d_Text_foldedInto_12 : decode b_Text_foldedInto 12 = .ok (.iconst 0, 1) := by decide +kernel
theorem d_Text_foldedInto_13 : decode b_Text_foldedInto 13 = .ok (.istore_n 3, 1) := by decide +kernel
theorem d_Text_foldedInto_14 : decode b_Text_foldedInto 14 = .ok (.iload_n 3, 1) := by decide +kernel
theorem d_Text_foldedInto_15 : decode b_Text_foldedInto 15 = .ok (.aload_n 0, 1) := by decide +kernel
theorem d_Text_foldedInto_16 : decode b_Text_foldedInto 16 = .ok (.getfield 15, 3) := by decide +kernel
theorem d_Text_foldedInto_19 : decode b_Text_foldedInto 19 = .ok (.if_icmp .ge 23, 3) := by decide +kernel
theorem d_Text_foldedInto_22 : decode b_Text_foldedInto 22 = .ok (.ldc2_w 25, 3) := by decide +kernel
theorem d_Text_foldedInto_25 : decode b_Text_foldedInto 25 = .ok (.lload_n 1, 1) := by decide +kernel
theorem d_Text_foldedInto_26 : decode b_Text_foldedInto 26 = .ok (.lmul, 1) := by decide +kernel
theorem d_Text_foldedInto_27 : decode b_Text_foldedInto 27 = .ok (.aload_n 0, 1) := by decide +kernel
theorem d_Text_foldedInto_28 : decode b_Text_foldedInto 28 = .ok (.getfield 9, 3) := by decide +kernel
theorem d_Text_foldedInto_31 : decode b_Text_foldedInto 31 = .ok (.iload_n 3, 1) := by decide +kernel
theorem d_Text_foldedInto_32 : decode b_Text_foldedInto 32 = .ok (.baload, 1) := by decide +kernel
theorem d_Text_foldedInto_33 : decode b_Text_foldedInto 33 = .ok (.i2l, 1) := by decide +kernel
theorem d_Text_foldedInto_34 : decode b_Text_foldedInto 34 = .ok (.ladd, 1) := by decide +kernel
theorem d_Text_foldedInto_35 : decode b_Text_foldedInto 35 = .ok (.lstore_n 1, 1) := by decide +kernel
theorem d_Text_foldedInto_36 : decode b_Text_foldedInto 36 = .ok (.iinc 3 1, 3) := by decide +kernel
theorem d_Text_foldedInto_39 : decode b_Text_foldedInto 39 = .ok (.goto (-25), 3) := by decide +kernel
theorem d_Text_foldedInto_42 : decode b_Text_foldedInto 42 = .ok (.lload_n 1, 1) := by decide +kernel
theorem d_Text_foldedInto_43 : decode b_Text_foldedInto 43 = .ok (.lreturn, 1) := by decide +kernel
abbrev b_Bed_takeFrom : ByteArray := prog_2_method_2_code
abbrev y_Bed_takeFrom : MethodName := ⟨"RiverTuesdays$Bed", "takeFrom", "(LRiverTuesdays$Bed;)V"⟩
theorem ok_Bed_takeFrom : okV y_Bed_takeFrom b_Bed_takeFrom 2 none 1 0 := ⟨mGW (List.mem_of_getElem? (i := 508) (by decide +kernel)) rfl, mGW (List.mem_of_getElem? (i := 509) (by decide +kernel)) rfl, mGW (List.mem_of_getElem? (i := 76) (by decide +kernel)) rfl, mGW (List.mem_of_getElem? (i := 510) (by decide +kernel)) rfl, ⟨by decide, by decide, by decide +kernel⟩, rfl⟩
theorem d_Bed_takeFrom_0 : decode b_Bed_takeFrom 0 = .ok (.aload_n 1, 1) := by decide +kernel
theorem d_Bed_takeFrom_1 : decode b_Bed_takeFrom 1 = .ok (.getfield 9, 3) := by decide +kernel
theorem d_Bed_takeFrom_4 : decode b_Bed_takeFrom 4 = .ok (.iconst 0, 1) := by decide +kernel
theorem d_Bed_takeFrom_5 : decode b_Bed_takeFrom 5 = .ok (.aload_n 0, 1) := by decide +kernel
theorem d_Bed_takeFrom_6 : decode b_Bed_takeFrom 6 = .ok (.getfield 9, 3) := by decide +kernel
theorem d_Bed_takeFrom_9 : decode b_Bed_takeFrom 9 = .ok (.iconst 0, 1) := by decide +kernel
theorem d_Bed_takeFrom_10 : decode b_Bed_takeFrom 10 = .ok (.bipush 8, 2) := by decide +kernel
theorem d_Bed_takeFrom_12 : decode b_Bed_takeFrom 12 = .ok (.invokestatic 27, 3) := by decide +kernel
theorem d_Bed_takeFrom_15 : decode b_Bed_takeFrom 15 = .ok (.aload_n 1, 1) := by decide +kernel
theorem d_Bed_takeFrom_16 : decode b_Bed_takeFrom 16 = .ok (.getfield 15, 3) := by decide +kernel
theorem d_Bed_takeFrom_19 : decode b_Bed_takeFrom 19 = .ok (.iconst 0, 1) := by decide +kernel
theorem d_Bed_takeFrom_20 : decode b_Bed_takeFrom 20 = .ok (.aload_n 0, 1) := by decide +kernel
theorem d_Bed_takeFrom_21 : decode b_Bed_takeFrom 21 = .ok (.getfield 15, 3) := by decide +kernel
theorem d_Bed_takeFrom_24 : decode b_Bed_takeFrom 24 = .ok (.iconst 0, 1) := by decide +kernel
theorem d_Bed_takeFrom_25 : decode b_Bed_takeFrom 25 = .ok (.bipush 8, 2) := by decide +kernel
theorem d_Bed_takeFrom_27 : decode b_Bed_takeFrom 27 = .ok (.invokestatic 27, 3) := by decide +kernel
theorem d_Bed_takeFrom_30 : decode b_Bed_takeFrom 30 = .ok (.aload_n 1, 1) := by decide +kernel
theorem d_Bed_takeFrom_31 : decode b_Bed_takeFrom 31 = .ok (.getfield 18, 3) := by decide +kernel
theorem d_Bed_takeFrom_34 : decode b_Bed_takeFrom 34 = .ok (.iconst 0, 1) := by decide +kernel
theorem d_Bed_takeFrom_35 : decode b_Bed_takeFrom 35 = .ok (.aload_n 0, 1) := by decide +kernel
theorem d_Bed_takeFrom_36 : decode b_Bed_takeFrom 36 = .ok (.getfield 18, 3) := by decide +kernel
theorem d_Bed_takeFrom_39 : decode b_Bed_takeFrom 39 = .ok (.iconst 0, 1) := by decide +kernel
theorem d_Bed_takeFrom_40 : decode b_Bed_takeFrom 40 = .ok (.bipush 8, 2) := by decide +kernel
theorem d_Bed_takeFrom_42 : decode b_Bed_takeFrom 42 = .ok (.invokestatic 27, 3) := by decide +kernel
theorem d_Bed_takeFrom_45 : decode b_Bed_takeFrom 45 = .ok (.aload_n 1, 1) := by decide +kernel
theorem d_Bed_takeFrom_46 : decode b_Bed_takeFrom 46 = .ok (.getfield 21, 3) := by decide +kernel
theorem d_Bed_takeFrom_49 : decode b_Bed_takeFrom 49 = .ok (.iconst 0, 1) := by decide +kernel
theorem d_Bed_takeFrom_50 : decode b_Bed_takeFrom 50 = .ok (.aload_n 0, 1) := by decide +kernel
theorem d_Bed_takeFrom_51 : decode b_Bed_takeFrom 51 = .ok (.getfield 21, 3) := by decide +kernel
theorem d_Bed_takeFrom_54 : decode b_Bed_takeFrom 54 = .ok (.iconst 0, 1) := by decide +kernel
theorem d_Bed_takeFrom_55 : decode b_Bed_takeFrom 55 = .ok (.bipush 8, 2) := by decide +kernel
theorem d_Bed_takeFrom_57 : decode b_Bed_takeFrom 57 = .ok (.invokestatic 27, 3) := by decide +kernel
theorem d_Bed_takeFrom_60 : decode b_Bed_takeFrom 60 = .ok (.aload_n 1, 1) := by decide +kernel
theorem d_Bed_takeFrom_61 : decode b_Bed_takeFrom 61 = .ok (.getfield 24, 3) := by decide +kernel
theorem d_Bed_takeFrom_64 : decode b_Bed_takeFrom 64 = .ok (.iconst 0, 1) := by decide +kernel
theorem d_Bed_takeFrom_65 : decode b_Bed_takeFrom 65 = .ok (.aload_n 0, 1) := by decide +kernel
theorem d_Bed_takeFrom_66 : decode b_Bed_takeFrom 66 = .ok (.getfield 24, 3) := by decide +kernel
theorem d_Bed_takeFrom_69 : decode b_Bed_takeFrom 69 = .ok (.iconst 0, 1) := by decide +kernel
theorem d_Bed_takeFrom_70 : decode b_Bed_takeFrom 70 = .ok (.bipush 8, 2) := by decide +kernel
theorem d_Bed_takeFrom_72 : decode b_Bed_takeFrom 72 = .ok (.invokestatic 27, 3) := by decide +kernel
theorem d_Bed_takeFrom_75 : decode b_Bed_takeFrom 75 = .ok (.aload_n 0, 1) := by decide +kernel
theorem d_Bed_takeFrom_76 : decode b_Bed_takeFrom 76 = .ok (.aload_n 1, 1) := by decide +kernel
theorem d_Bed_takeFrom_77 : decode b_Bed_takeFrom 77 = .ok (.getfield 33, 3) := by decide +kernel
theorem d_Bed_takeFrom_80 : decode b_Bed_takeFrom 80 = .ok (.putfield 33, 3) := by decide +kernel
theorem d_Bed_takeFrom_83 : decode b_Bed_takeFrom 83 = .ok (.aload_n 0, 1) := by decide +kernel
theorem d_Bed_takeFrom_84 : decode b_Bed_takeFrom 84 = .ok (.aload_n 1, 1) := by decide +kernel
theorem d_Bed_takeFrom_85 : decode b_Bed_takeFrom 85 = .ok (.getfield 37, 3) := by decide +kernel
theorem d_Bed_takeFrom_88 : decode b_Bed_takeFrom 88 = .ok (.putfield 37, 3) := by decide +kernel
theorem d_Bed_takeFrom_91 : decode b_Bed_takeFrom 91 = .ok (.aload_n 0, 1) := by decide +kernel
theorem d_Bed_takeFrom_92 : decode b_Bed_takeFrom 92 = .ok (.aload_n 1, 1) := by decide +kernel
theorem d_Bed_takeFrom_93 : decode b_Bed_takeFrom 93 = .ok (.getfield 40, 3) := by decide +kernel
theorem d_Bed_takeFrom_96 : decode b_Bed_takeFrom 96 = .ok (.putfield 40, 3) := by decide +kernel
theorem d_Bed_takeFrom_99 : decode b_Bed_takeFrom 99 = .ok (.return_, 1) := by decide +kernel
abbrev b_Bed_hasHouse : ByteArray := prog_2_method_3_code
abbrev y_Bed_hasHouse : MethodName := ⟨"RiverTuesdays$Bed", "hasHouse", "(I)Z"⟩
theorem ok_Bed_hasHouse : okV y_Bed_hasHouse b_Bed_hasHouse 2 (some .boolean) 1 0 := ⟨mGW (List.mem_of_getElem? (i := 522) (by decide +kernel)) rfl, mGW (List.mem_of_getElem? (i := 523) (by decide +kernel)) rfl, mGW (List.mem_of_getElem? (i := 76) (by decide +kernel)) rfl, mGW (List.mem_of_getElem? (i := 524) (by decide +kernel)) rfl, ⟨by decide, by decide, by decide +kernel⟩, rfl⟩
theorem d_Bed_hasHouse_0 : decode b_Bed_hasHouse 0 = .ok (.iload_n 1, 1) := by decide +kernel
theorem d_Bed_hasHouse_1 : decode b_Bed_hasHouse 1 = .ok (.ifCond .lt 15, 3) := by decide +kernel
theorem d_Bed_hasHouse_4 : decode b_Bed_hasHouse 4 = .ok (.iload_n 1, 1) := by decide +kernel
theorem d_Bed_hasHouse_5 : decode b_Bed_hasHouse 5 = .ok (.aload_n 0, 1) := by decide +kernel
theorem d_Bed_hasHouse_6 : decode b_Bed_hasHouse 6 = .ok (.getfield 33, 3) := by decide +kernel
theorem d_Bed_hasHouse_9 : decode b_Bed_hasHouse 9 = .ok (.if_icmp .ge 7, 3) := by decide +kernel
theorem d_Bed_hasHouse_12 : decode b_Bed_hasHouse 12 = .ok (.iconst 1, 1) := by decide +kernel
theorem d_Bed_hasHouse_13 : decode b_Bed_hasHouse 13 = .ok (.goto 4, 3) := by decide +kernel
theorem d_Bed_hasHouse_16 : decode b_Bed_hasHouse 16 = .ok (.iconst 0, 1) := by decide +kernel
theorem d_Bed_hasHouse_17 : decode b_Bed_hasHouse 17 = .ok (.ireturn, 1) := by decide +kernel
abbrev b_Bed_isOfKind : ByteArray := prog_2_method_4_code
abbrev y_Bed_isOfKind : MethodName := ⟨"RiverTuesdays$Bed", "isOfKind", "(II)Z"⟩
theorem ok_Bed_isOfKind : okV y_Bed_isOfKind b_Bed_isOfKind 4 (some .boolean) 2 0 := ⟨mGW (List.mem_of_getElem? (i := 534) (by decide +kernel)) rfl, mGW (List.mem_of_getElem? (i := 535) (by decide +kernel)) rfl, mGW (List.mem_of_getElem? (i := 76) (by decide +kernel)) rfl, mGW (List.mem_of_getElem? (i := 536) (by decide +kernel)) rfl, ⟨by decide, by decide, by decide +kernel⟩, rfl⟩
theorem d_Bed_isOfKind_0 : decode b_Bed_isOfKind 0 = .ok (.aload_n 0, 1) := by decide +kernel
theorem d_Bed_isOfKind_1 : decode b_Bed_isOfKind 1 = .ok (.getfield 9, 3) := by decide +kernel
theorem d_Bed_isOfKind_4 : decode b_Bed_isOfKind 4 = .ok (.iload_n 1, 1) := by decide +kernel
theorem d_Bed_isOfKind_5 : decode b_Bed_isOfKind 5 = .ok (.iaload, 1) := by decide +kernel
theorem d_Bed_isOfKind_6 : decode b_Bed_isOfKind 6 = .ok (.istore_n 3, 1) := by decide +kernel
theorem d_Bed_isOfKind_7 : decode b_Bed_isOfKind 7 = .ok (.iload_n 3, 1) := by decide +kernel
theorem d_Bed_isOfKind_8 : decode b_Bed_isOfKind 8 = .ok (.iload_n 2, 1) := by decide +kernel
theorem d_Bed_isOfKind_9 : decode b_Bed_isOfKind 9 = .ok (.if_icmp .eq 23, 3) := by decide +kernel
theorem d_Bed_isOfKind_12 : decode b_Bed_isOfKind 12 = .ok (.iload_n 3, 1) := by decide +kernel
theorem d_Bed_isOfKind_13 : decode b_Bed_isOfKind 13 = .ok (.iconst 4, 1) := by decide +kernel
theorem d_Bed_isOfKind_14 : decode b_Bed_isOfKind 14 = .ok (.if_icmp .ne 8, 3) := by decide +kernel
theorem d_Bed_isOfKind_17 : decode b_Bed_isOfKind 17 = .ok (.iload_n 2, 1) := by decide +kernel
theorem d_Bed_isOfKind_18 : decode b_Bed_isOfKind 18 = .ok (.iconst 1, 1) := by decide +kernel
theorem d_Bed_isOfKind_19 : decode b_Bed_isOfKind 19 = .ok (.if_icmp .eq 13, 3) := by decide +kernel
theorem d_Bed_isOfKind_22 : decode b_Bed_isOfKind 22 = .ok (.iload_n 3, 1) := by decide +kernel
theorem d_Bed_isOfKind_23 : decode b_Bed_isOfKind 23 = .ok (.iconst 5, 1) := by decide +kernel
theorem d_Bed_isOfKind_24 : decode b_Bed_isOfKind 24 = .ok (.if_icmp .ne 12, 3) := by decide +kernel
theorem d_Bed_isOfKind_27 : decode b_Bed_isOfKind 27 = .ok (.iload_n 2, 1) := by decide +kernel
theorem d_Bed_isOfKind_28 : decode b_Bed_isOfKind 28 = .ok (.iconst 3, 1) := by decide +kernel
theorem d_Bed_isOfKind_29 : decode b_Bed_isOfKind 29 = .ok (.if_icmp .ne 7, 3) := by decide +kernel
theorem d_Bed_isOfKind_32 : decode b_Bed_isOfKind 32 = .ok (.iconst 1, 1) := by decide +kernel
theorem d_Bed_isOfKind_33 : decode b_Bed_isOfKind 33 = .ok (.goto 4, 3) := by decide +kernel
theorem d_Bed_isOfKind_36 : decode b_Bed_isOfKind 36 = .ok (.iconst 0, 1) := by decide +kernel
theorem d_Bed_isOfKind_37 : decode b_Bed_isOfKind 37 = .ok (.ireturn, 1) := by decide +kernel
abbrev b_Bed_grinds : ByteArray := prog_2_method_5_code
abbrev y_Bed_grinds : MethodName := ⟨"RiverTuesdays$Bed", "grinds", "(II)I"⟩
theorem ok_Bed_grinds : okV y_Bed_grinds b_Bed_grinds 3 (some .int) 2 0 := ⟨mGW (List.mem_of_getElem? (i := 571) (by decide +kernel)) rfl, mGW (List.mem_of_getElem? (i := 572) (by decide +kernel)) rfl, mGW (List.mem_of_getElem? (i := 76) (by decide +kernel)) rfl, mGW (List.mem_of_getElem? (i := 573) (by decide +kernel)) rfl, ⟨by decide, by decide, by decide +kernel⟩, rfl⟩
theorem d_Bed_grinds_0 : decode b_Bed_grinds 0 = .ok (.aload_n 0, 1) := by decide +kernel
theorem d_Bed_grinds_1 : decode b_Bed_grinds 1 = .ok (.getfield 9, 3) := by decide +kernel
theorem d_Bed_grinds_4 : decode b_Bed_grinds 4 = .ok (.iload_n 1, 1) := by decide +kernel
theorem d_Bed_grinds_5 : decode b_Bed_grinds 5 = .ok (.iaload, 1) := by decide +kernel
theorem d_Bed_grinds_6 : decode b_Bed_grinds 6 = .ok (.iconst 4, 1) := by decide +kernel
theorem d_Bed_grinds_7 : decode b_Bed_grinds 7 = .ok (.if_icmp .ne 7, 3) := by decide +kernel
theorem d_Bed_grinds_10 : decode b_Bed_grinds 10 = .ok (.iload_n 2, 1) := by decide +kernel
theorem d_Bed_grinds_11 : decode b_Bed_grinds 11 = .ok (.iconst 2, 1) := by decide +kernel
theorem d_Bed_grinds_12 : decode b_Bed_grinds 12 = .ok (.idiv, 1) := by decide +kernel
theorem d_Bed_grinds_13 : decode b_Bed_grinds 13 = .ok (.ireturn, 1) := by decide +kernel
theorem d_Bed_grinds_14 : decode b_Bed_grinds 14 = .ok (.aload_n 0, 1) := by decide +kernel
theorem d_Bed_grinds_15 : decode b_Bed_grinds 15 = .ok (.getfield 9, 3) := by decide +kernel
theorem d_Bed_grinds_18 : decode b_Bed_grinds 18 = .ok (.iload_n 1, 1) := by decide +kernel
theorem d_Bed_grinds_19 : decode b_Bed_grinds 19 = .ok (.iaload, 1) := by decide +kernel
theorem d_Bed_grinds_20 : decode b_Bed_grinds 20 = .ok (.iconst 1, 1) := by decide +kernel
theorem d_Bed_grinds_21 : decode b_Bed_grinds 21 = .ok (.if_icmp .ne 12, 3) := by decide +kernel
theorem d_Bed_grinds_24 : decode b_Bed_grinds 24 = .ok (.iload_n 2, 1) := by decide +kernel
theorem d_Bed_grinds_25 : decode b_Bed_grinds 25 = .ok (.iconst 2, 1) := by decide +kernel
theorem d_Bed_grinds_26 : decode b_Bed_grinds 26 = .ok (.if_icmp .lt 7, 3) := by decide +kernel
theorem d_Bed_grinds_29 : decode b_Bed_grinds 29 = .ok (.iconst 1, 1) := by decide +kernel
theorem d_Bed_grinds_30 : decode b_Bed_grinds 30 = .ok (.goto 4, 3) := by decide +kernel
theorem d_Bed_grinds_33 : decode b_Bed_grinds 33 = .ok (.iconst 0, 1) := by decide +kernel
theorem d_Bed_grinds_34 : decode b_Bed_grinds 34 = .ok (.ireturn, 1) := by decide +kernel
abbrev b_Bed_letsOn : ByteArray := prog_2_method_6_code
abbrev y_Bed_letsOn : MethodName := ⟨"RiverTuesdays$Bed", "letsOn", "(I)I"⟩
theorem ok_Bed_letsOn : okV y_Bed_letsOn b_Bed_letsOn 2 (some .int) 1 0 := ⟨mGW (List.mem_of_getElem? (i := 566) (by decide +kernel)) rfl, mGW (List.mem_of_getElem? (i := 567) (by decide +kernel)) rfl, mGW (List.mem_of_getElem? (i := 76) (by decide +kernel)) rfl, mGW (List.mem_of_getElem? (i := 568) (by decide +kernel)) rfl, ⟨by decide, by decide, by decide +kernel⟩, rfl⟩
theorem d_Bed_letsOn_0 : decode b_Bed_letsOn 0 = .ok (.aload_n 0, 1) := by decide +kernel
theorem d_Bed_letsOn_1 : decode b_Bed_letsOn 1 = .ok (.getfield 24, 3) := by decide +kernel
theorem d_Bed_letsOn_4 : decode b_Bed_letsOn 4 = .ok (.iload_n 1, 1) := by decide +kernel
theorem d_Bed_letsOn_5 : decode b_Bed_letsOn 5 = .ok (.iaload, 1) := by decide +kernel
theorem d_Bed_letsOn_6 : decode b_Bed_letsOn 6 = .ok (.iconst 1, 1) := by decide +kernel
theorem d_Bed_letsOn_7 : decode b_Bed_letsOn 7 = .ok (.if_icmp .ne 5, 3) := by decide +kernel
theorem d_Bed_letsOn_10 : decode b_Bed_letsOn 10 = .ok (.iconst 0, 1) := by decide +kernel
theorem d_Bed_letsOn_11 : decode b_Bed_letsOn 11 = .ok (.ireturn, 1) := by decide +kernel
theorem d_Bed_letsOn_12 : decode b_Bed_letsOn 12 = .ok (.aload_n 0, 1) := by decide +kernel
theorem d_Bed_letsOn_13 : decode b_Bed_letsOn 13 = .ok (.getfield 9, 3) := by decide +kernel
theorem d_Bed_letsOn_16 : decode b_Bed_letsOn 16 = .ok (.iload_n 1, 1) := by decide +kernel
theorem d_Bed_letsOn_17 : decode b_Bed_letsOn 17 = .ok (.iaload, 1) := by decide +kernel
theorem d_Bed_letsOn_18 : decode b_Bed_letsOn 18 = .ok (.iconst 3, 1) := by decide +kernel
theorem d_Bed_letsOn_19 : decode b_Bed_letsOn 19 = .ok (.if_icmp .eq 13, 3) := by decide +kernel
theorem d_Bed_letsOn_22 : decode b_Bed_letsOn 22 = .ok (.aload_n 0, 1) := by decide +kernel
theorem d_Bed_letsOn_23 : decode b_Bed_letsOn 23 = .ok (.getfield 9, 3) := by decide +kernel
theorem d_Bed_letsOn_26 : decode b_Bed_letsOn 26 = .ok (.iload_n 1, 1) := by decide +kernel
theorem d_Bed_letsOn_27 : decode b_Bed_letsOn 27 = .ok (.iaload, 1) := by decide +kernel
theorem d_Bed_letsOn_28 : decode b_Bed_letsOn 28 = .ok (.iconst 5, 1) := by decide +kernel
theorem d_Bed_letsOn_29 : decode b_Bed_letsOn 29 = .ok (.if_icmp .ne 7, 3) := by decide +kernel
theorem d_Bed_letsOn_32 : decode b_Bed_letsOn 32 = .ok (.iconst 2, 1) := by decide +kernel
theorem d_Bed_letsOn_33 : decode b_Bed_letsOn 33 = .ok (.goto 5, 3) := by decide +kernel
theorem d_Bed_letsOn_36 : decode b_Bed_letsOn 36 = .ok (.ldc 43, 2) := by decide +kernel
theorem d_Bed_letsOn_38 : decode b_Bed_letsOn 38 = .ok (.ireturn, 1) := by decide +kernel
abbrev b_Bed_howManyOf : ByteArray := prog_2_method_7_code
abbrev y_Bed_howManyOf : MethodName := ⟨"RiverTuesdays$Bed", "howManyOf", "(I)I"⟩
theorem ok_Bed_howManyOf : okV y_Bed_howManyOf b_Bed_howManyOf 4 (some .int) 1 0 := ⟨mGW (List.mem_of_getElem? (i := 985) (by decide +kernel)) rfl, mGW (List.mem_of_getElem? (i := 986) (by decide +kernel)) rfl, mGW (List.mem_of_getElem? (i := 76) (by decide +kernel)) rfl, mGW (List.mem_of_getElem? (i := 987) (by decide +kernel)) rfl, ⟨by decide, by decide, by decide +kernel⟩, rfl⟩
theorem d_Bed_howManyOf_0 : decode b_Bed_howManyOf 0 = .ok (.iconst 0, 1) := by decide +kernel
theorem d_Bed_howManyOf_1 : decode b_Bed_howManyOf 1 = .ok (.istore_n 2, 1) := by decide +kernel
theorem d_Bed_howManyOf_2 : decode b_Bed_howManyOf 2 = .ok (.iconst 0, 1) := by decide +kernel
theorem d_Bed_howManyOf_3 : decode b_Bed_howManyOf 3 = .ok (.istore_n 3, 1) := by decide +kernel
theorem d_Bed_howManyOf_4 : decode b_Bed_howManyOf 4 = .ok (.iload_n 3, 1) := by decide +kernel
theorem d_Bed_howManyOf_5 : decode b_Bed_howManyOf 5 = .ok (.aload_n 0, 1) := by decide +kernel
theorem d_Bed_howManyOf_6 : decode b_Bed_howManyOf 6 = .ok (.getfield 33, 3) := by decide +kernel
theorem d_Bed_howManyOf_9 : decode b_Bed_howManyOf 9 = .ok (.if_icmp .ge 26, 3) := by decide +kernel
theorem d_Bed_howManyOf_12 : decode b_Bed_howManyOf 12 = .ok (.iload_n 2, 1) := by decide +kernel
theorem d_Bed_howManyOf_13 : decode b_Bed_howManyOf 13 = .ok (.aload_n 0, 1) := by decide +kernel
theorem d_Bed_howManyOf_14 : decode b_Bed_howManyOf 14 = .ok (.iload_n 3, 1) := by decide +kernel
theorem d_Bed_howManyOf_15 : decode b_Bed_howManyOf 15 = .ok (.iload_n 1, 1) := by decide +kernel
theorem d_Bed_howManyOf_16 : decode b_Bed_howManyOf 16 = .ok (.invokevirtual 44, 3) := by decide +kernel
theorem d_Bed_howManyOf_19 : decode b_Bed_howManyOf 19 = .ok (.ifCond .eq 7, 3) := by decide +kernel
theorem d_Bed_howManyOf_22 : decode b_Bed_howManyOf 22 = .ok (.iconst 1, 1) := by decide +kernel
theorem d_Bed_howManyOf_23 : decode b_Bed_howManyOf 23 = .ok (.goto 4, 3) := by decide +kernel
theorem d_Bed_howManyOf_26 : decode b_Bed_howManyOf 26 = .ok (.iconst 0, 1) := by decide +kernel
theorem d_Bed_howManyOf_27 : decode b_Bed_howManyOf 27 = .ok (.iadd, 1) := by decide +kernel
theorem d_Bed_howManyOf_28 : decode b_Bed_howManyOf 28 = .ok (.istore_n 2, 1) := by decide +kernel
theorem d_Bed_howManyOf_29 : decode b_Bed_howManyOf 29 = .ok (.iinc 3 1, 3) := by decide +kernel
theorem d_Bed_howManyOf_32 : decode b_Bed_howManyOf 32 = .ok (.goto (-28), 3) := by decide +kernel
theorem d_Bed_howManyOf_35 : decode b_Bed_howManyOf 35 = .ok (.iload_n 2, 1) := by decide +kernel
theorem d_Bed_howManyOf_36 : decode b_Bed_howManyOf 36 = .ok (.ireturn, 1) := by decide +kernel
abbrev b_Bed_howManyShut : ByteArray := prog_2_method_8_code
abbrev y_Bed_howManyShut : MethodName := ⟨"RiverTuesdays$Bed", "howManyShut", "()I"⟩
theorem ok_Bed_howManyShut : okV y_Bed_howManyShut b_Bed_howManyShut 3 (some .int) 0 0 := ⟨mGW (List.mem_of_getElem? (i := 990) (by decide +kernel)) rfl, mGW (List.mem_of_getElem? (i := 991) (by decide +kernel)) rfl, mGW (List.mem_of_getElem? (i := 76) (by decide +kernel)) rfl, mGW (List.mem_of_getElem? (i := 992) (by decide +kernel)) rfl, ⟨by decide, by decide, by decide +kernel⟩, rfl⟩
theorem d_Bed_howManyShut_0 : decode b_Bed_howManyShut 0 = .ok (.iconst 0, 1) := by decide +kernel
theorem d_Bed_howManyShut_1 : decode b_Bed_howManyShut 1 = .ok (.istore_n 1, 1) := by decide +kernel
theorem d_Bed_howManyShut_2 : decode b_Bed_howManyShut 2 = .ok (.iconst 0, 1) := by decide +kernel
theorem d_Bed_howManyShut_3 : decode b_Bed_howManyShut 3 = .ok (.istore_n 2, 1) := by decide +kernel
theorem d_Bed_howManyShut_4 : decode b_Bed_howManyShut 4 = .ok (.iload_n 2, 1) := by decide +kernel
theorem d_Bed_howManyShut_5 : decode b_Bed_howManyShut 5 = .ok (.aload_n 0, 1) := by decide +kernel
theorem d_Bed_howManyShut_6 : decode b_Bed_howManyShut 6 = .ok (.getfield 33, 3) := by decide +kernel
theorem d_Bed_howManyShut_9 : decode b_Bed_howManyShut 9 = .ok (.if_icmp .ge 18, 3) := by decide +kernel
theorem d_Bed_howManyShut_12 : decode b_Bed_howManyShut 12 = .ok (.iload_n 1, 1) := by decide +kernel
theorem d_Bed_howManyShut_13 : decode b_Bed_howManyShut 13 = .ok (.aload_n 0, 1) := by decide +kernel
theorem d_Bed_howManyShut_14 : decode b_Bed_howManyShut 14 = .ok (.getfield 24, 3) := by decide +kernel
theorem d_Bed_howManyShut_17 : decode b_Bed_howManyShut 17 = .ok (.iload_n 2, 1) := by decide +kernel
theorem d_Bed_howManyShut_18 : decode b_Bed_howManyShut 18 = .ok (.iaload, 1) := by decide +kernel
theorem d_Bed_howManyShut_19 : decode b_Bed_howManyShut 19 = .ok (.iadd, 1) := by decide +kernel
theorem d_Bed_howManyShut_20 : decode b_Bed_howManyShut 20 = .ok (.istore_n 1, 1) := by decide +kernel
theorem d_Bed_howManyShut_21 : decode b_Bed_howManyShut 21 = .ok (.iinc 2 1, 3) := by decide +kernel
theorem d_Bed_howManyShut_24 : decode b_Bed_howManyShut 24 = .ok (.goto (-20), 3) := by decide +kernel
theorem d_Bed_howManyShut_27 : decode b_Bed_howManyShut 27 = .ok (.iload_n 1, 1) := by decide +kernel
theorem d_Bed_howManyShut_28 : decode b_Bed_howManyShut 28 = .ok (.ireturn, 1) := by decide +kernel
abbrev b_Bed_readHouse : ByteArray := prog_2_method_11_code
abbrev y_Bed_readHouse : MethodName := ⟨"RiverTuesdays$Bed", "readHouse", "(LRiverTuesdays$Text;I)I"⟩
theorem ok_Bed_readHouse : okV y_Bed_readHouse b_Bed_readHouse 5 (some .int) 2 0 := ⟨mGW (List.mem_of_getElem? (i := 493) (by decide +kernel)) rfl, mGW (List.mem_of_getElem? (i := 6) (by decide +kernel)) rfl, mGW (List.mem_of_getElem? (i := 76) (by decide +kernel)) rfl, mGW (List.mem_of_getElem? (i := 494) (by decide +kernel)) rfl, ⟨by decide, by decide, by decide +kernel⟩, rfl⟩
theorem d_Bed_readHouse_0 : decode b_Bed_readHouse 0 = .ok (.aload_n 1, 1) := by decide +kernel
theorem d_Bed_readHouse_1 : decode b_Bed_readHouse 1 = .ok (.iload_n 2, 1) := by decide +kernel
theorem d_Bed_readHouse_2 : decode b_Bed_readHouse 2 = .ok (.invokevirtual 77, 3) := by decide +kernel
theorem d_Bed_readHouse_5 : decode b_Bed_readHouse 5 = .ok (.istore_n 3, 1) := by decide +kernel
theorem d_Bed_readHouse_6 : decode b_Bed_readHouse 6 = .ok (.aload_n 0, 1) := by decide +kernel
theorem d_Bed_readHouse_7 : decode b_Bed_readHouse 7 = .ok (.getfield 33, 3) := by decide +kernel
theorem d_Bed_readHouse_10 : decode b_Bed_readHouse 10 = .ok (.bipush 8, 2) := by decide +kernel
theorem d_Bed_readHouse_12 : decode b_Bed_readHouse 12 = .ok (.if_icmp .ge 8, 3) := by decide +kernel
theorem d_Bed_readHouse_15 : decode b_Bed_readHouse 15 = .ok (.iload_n 3, 1) := by decide +kernel
theorem d_Bed_readHouse_16 : decode b_Bed_readHouse 16 = .ok (.iconst (-1), 1) := by decide +kernel
theorem d_Bed_readHouse_17 : decode b_Bed_readHouse 17 = .ok (.if_icmp .ne 5, 3) := by decide +kernel
theorem d_Bed_readHouse_20 : decode b_Bed_readHouse 20 = .ok (.iload_n 2, 1) := by decide +kernel
theorem d_Bed_readHouse_21 : decode b_Bed_readHouse 21 = .ok (.ireturn, 1) := by decide +kernel
theorem d_Bed_readHouse_22 : decode b_Bed_readHouse 22 = .ok (.iconst 1, 1) := by decide +kernel
theorem d_Bed_readHouse_23 : decode b_Bed_readHouse 23 = .ok (.istore 4, 2) := by decide +kernel
theorem d_Bed_readHouse_25 : decode b_Bed_readHouse 25 = .ok (.iload 4, 2) := by decide +kernel
theorem d_Bed_readHouse_27 : decode b_Bed_readHouse 27 = .ok (.iconst 3, 1) := by decide +kernel
theorem d_Bed_readHouse_28 : decode b_Bed_readHouse 28 = .ok (.if_icmp .gt 26, 3) := by decide +kernel
theorem d_Bed_readHouse_31 : decode b_Bed_readHouse 31 = .ok (.aload_n 1, 1) := by decide +kernel
theorem d_Bed_readHouse_32 : decode b_Bed_readHouse 32 = .ok (.iload_n 2, 1) := by decide +kernel
theorem d_Bed_readHouse_33 : decode b_Bed_readHouse 33 = .ok (.iload 4, 2) := by decide +kernel
theorem d_Bed_readHouse_35 : decode b_Bed_readHouse 35 = .ok (.iadd, 1) := by decide +kernel
theorem d_Bed_readHouse_36 : decode b_Bed_readHouse 36 = .ok (.invokevirtual 67, 3) := by decide +kernel
theorem d_Bed_readHouse_39 : decode b_Bed_readHouse 39 = .ok (.iconst (-1), 1) := by decide +kernel
theorem d_Bed_readHouse_40 : decode b_Bed_readHouse 40 = .ok (.if_icmp .ne 8, 3) := by decide +kernel
theorem d_Bed_readHouse_43 : decode b_Bed_readHouse 43 = .ok (.iload_n 2, 1) := by decide +kernel
theorem d_Bed_readHouse_44 : decode b_Bed_readHouse 44 = .ok (.iload 4, 2) := by decide +kernel
theorem d_Bed_readHouse_46 : decode b_Bed_readHouse 46 = .ok (.iadd, 1) := by decide +kernel
theorem d_Bed_readHouse_47 : decode b_Bed_readHouse 47 = .ok (.ireturn, 1) := by decide +kernel
theorem d_Bed_readHouse_48 : decode b_Bed_readHouse 48 = .ok (.iinc 4 1, 3) := by decide +kernel
theorem d_Bed_readHouse_51 : decode b_Bed_readHouse 51 = .ok (.goto (-26), 3) := by decide +kernel
theorem d_Bed_readHouse_54 : decode b_Bed_readHouse 54 = .ok (.aload_n 0, 1) := by decide +kernel
theorem d_Bed_readHouse_55 : decode b_Bed_readHouse 55 = .ok (.getfield 9, 3) := by decide +kernel
theorem d_Bed_readHouse_58 : decode b_Bed_readHouse 58 = .ok (.aload_n 0, 1) := by decide +kernel
theorem d_Bed_readHouse_59 : decode b_Bed_readHouse 59 = .ok (.getfield 33, 3) := by decide +kernel
theorem d_Bed_readHouse_62 : decode b_Bed_readHouse 62 = .ok (.iload_n 3, 1) := by decide +kernel
theorem d_Bed_readHouse_63 : decode b_Bed_readHouse 63 = .ok (.iastore, 1) := by decide +kernel
theorem d_Bed_readHouse_64 : decode b_Bed_readHouse 64 = .ok (.aload_n 0, 1) := by decide +kernel
theorem d_Bed_readHouse_65 : decode b_Bed_readHouse 65 = .ok (.getfield 15, 3) := by decide +kernel
theorem d_Bed_readHouse_68 : decode b_Bed_readHouse 68 = .ok (.aload_n 0, 1) := by decide +kernel
theorem d_Bed_readHouse_69 : decode b_Bed_readHouse 69 = .ok (.getfield 33, 3) := by decide +kernel
theorem d_Bed_readHouse_72 : decode b_Bed_readHouse 72 = .ok (.aload_n 1, 1) := by decide +kernel
theorem d_Bed_readHouse_73 : decode b_Bed_readHouse 73 = .ok (.iload_n 2, 1) := by decide +kernel
theorem d_Bed_readHouse_74 : decode b_Bed_readHouse 74 = .ok (.iconst 1, 1) := by decide +kernel
theorem d_Bed_readHouse_75 : decode b_Bed_readHouse 75 = .ok (.iadd, 1) := by decide +kernel
theorem d_Bed_readHouse_76 : decode b_Bed_readHouse 76 = .ok (.invokevirtual 67, 3) := by decide +kernel
theorem d_Bed_readHouse_79 : decode b_Bed_readHouse 79 = .ok (.iastore, 1) := by decide +kernel
theorem d_Bed_readHouse_80 : decode b_Bed_readHouse 80 = .ok (.aload_n 0, 1) := by decide +kernel
theorem d_Bed_readHouse_81 : decode b_Bed_readHouse 81 = .ok (.getfield 18, 3) := by decide +kernel
theorem d_Bed_readHouse_84 : decode b_Bed_readHouse 84 = .ok (.aload_n 0, 1) := by decide +kernel
theorem d_Bed_readHouse_85 : decode b_Bed_readHouse 85 = .ok (.getfield 33, 3) := by decide +kernel
theorem d_Bed_readHouse_88 : decode b_Bed_readHouse 88 = .ok (.aload_n 1, 1) := by decide +kernel
theorem d_Bed_readHouse_89 : decode b_Bed_readHouse 89 = .ok (.iload_n 2, 1) := by decide +kernel
theorem d_Bed_readHouse_90 : decode b_Bed_readHouse 90 = .ok (.iconst 2, 1) := by decide +kernel
theorem d_Bed_readHouse_91 : decode b_Bed_readHouse 91 = .ok (.iadd, 1) := by decide +kernel
theorem d_Bed_readHouse_92 : decode b_Bed_readHouse 92 = .ok (.invokevirtual 67, 3) := by decide +kernel
theorem d_Bed_readHouse_95 : decode b_Bed_readHouse 95 = .ok (.iastore, 1) := by decide +kernel
theorem d_Bed_readHouse_96 : decode b_Bed_readHouse 96 = .ok (.aload_n 0, 1) := by decide +kernel
theorem d_Bed_readHouse_97 : decode b_Bed_readHouse 97 = .ok (.getfield 21, 3) := by decide +kernel
theorem d_Bed_readHouse_100 : decode b_Bed_readHouse 100 = .ok (.aload_n 0, 1) := by decide +kernel
theorem d_Bed_readHouse_101 : decode b_Bed_readHouse 101 = .ok (.getfield 33, 3) := by decide +kernel
theorem d_Bed_readHouse_104 : decode b_Bed_readHouse 104 = .ok (.aload_n 1, 1) := by decide +kernel
theorem d_Bed_readHouse_105 : decode b_Bed_readHouse 105 = .ok (.iload_n 2, 1) := by decide +kernel
theorem d_Bed_readHouse_106 : decode b_Bed_readHouse 106 = .ok (.iconst 3, 1) := by decide +kernel
theorem d_Bed_readHouse_107 : decode b_Bed_readHouse 107 = .ok (.iadd, 1) := by decide +kernel
theorem d_Bed_readHouse_108 : decode b_Bed_readHouse 108 = .ok (.invokevirtual 67, 3) := by decide +kernel
theorem d_Bed_readHouse_111 : decode b_Bed_readHouse 111 = .ok (.iastore, 1) := by decide +kernel
theorem d_Bed_readHouse_112 : decode b_Bed_readHouse 112 = .ok (.aload_n 0, 1) := by decide +kernel
theorem d_Bed_readHouse_113 : decode b_Bed_readHouse 113 = .ok (.dup, 1) := by decide +kernel
theorem d_Bed_readHouse_114 : decode b_Bed_readHouse 114 = .ok (.getfield 33, 3) := by decide +kernel
theorem d_Bed_readHouse_117 : decode b_Bed_readHouse 117 = .ok (.iconst 1, 1) := by decide +kernel
theorem d_Bed_readHouse_118 : decode b_Bed_readHouse 118 = .ok (.iadd, 1) := by decide +kernel
theorem d_Bed_readHouse_119 : decode b_Bed_readHouse 119 = .ok (.putfield 33, 3) := by decide +kernel
theorem d_Bed_readHouse_122 : decode b_Bed_readHouse 122 = .ok (.bipush (-9), 2) := by decide +kernel
theorem d_Bed_readHouse_124 : decode b_Bed_readHouse 124 = .ok (.ireturn, 1) := by decide +kernel
abbrev b_Bed_readHouses : ByteArray := prog_2_method_10_code
abbrev y_Bed_readHouses : MethodName := ⟨"RiverTuesdays$Bed", "readHouses", "(LRiverTuesdays$Text;I)I"⟩
theorem ok_Bed_readHouses : okV y_Bed_readHouses b_Bed_readHouses 6 (some .int) 2 0 := ⟨mGW (List.mem_of_getElem? (i := 489) (by decide +kernel)) rfl, mGW (List.mem_of_getElem? (i := 5) (by decide +kernel)) rfl, mGW (List.mem_of_getElem? (i := 76) (by decide +kernel)) rfl, mGW (List.mem_of_getElem? (i := 490) (by decide +kernel)) rfl, ⟨by decide, by decide, by decide +kernel⟩, rfl⟩
theorem d_Bed_readHouses_0 : decode b_Bed_readHouses 0 = .ok (.aload_n 1, 1) := by decide +kernel
theorem d_Bed_readHouses_1 : decode b_Bed_readHouses 1 = .ok (.iload_n 2, 1) := by decide +kernel
theorem d_Bed_readHouses_2 : decode b_Bed_readHouses 2 = .ok (.invokevirtual 54, 3) := by decide +kernel
theorem d_Bed_readHouses_5 : decode b_Bed_readHouses 5 = .ok (.istore_n 3, 1) := by decide +kernel
theorem d_Bed_readHouses_6 : decode b_Bed_readHouses 6 = .ok (.iconst 0, 1) := by decide +kernel
theorem d_Bed_readHouses_7 : decode b_Bed_readHouses 7 = .ok (.istore 4, 2) := by decide +kernel
theorem d_Bed_readHouses_9 : decode b_Bed_readHouses 9 = .ok (.iload 4, 2) := by decide +kernel
theorem d_Bed_readHouses_11 : decode b_Bed_readHouses 11 = .ok (.bipush 8, 2) := by decide +kernel
theorem d_Bed_readHouses_13 : decode b_Bed_readHouses 13 = .ok (.if_icmp .gt 43, 3) := by decide +kernel
theorem d_Bed_readHouses_16 : decode b_Bed_readHouses 16 = .ok (.iload_n 3, 1) := by decide +kernel
theorem d_Bed_readHouses_17 : decode b_Bed_readHouses 17 = .ok (.aload_n 1, 1) := by decide +kernel
theorem d_Bed_readHouses_18 : decode b_Bed_readHouses 18 = .ok (.getfield 60, 3) := by decide +kernel
theorem d_Bed_readHouses_21 : decode b_Bed_readHouses 21 = .ok (.if_icmp .ge 35, 3) := by decide +kernel
theorem d_Bed_readHouses_24 : decode b_Bed_readHouses 24 = .ok (.aload_n 0, 1) := by decide +kernel
theorem d_Bed_readHouses_25 : decode b_Bed_readHouses 25 = .ok (.aload_n 1, 1) := by decide +kernel
theorem d_Bed_readHouses_26 : decode b_Bed_readHouses 26 = .ok (.iload_n 3, 1) := by decide +kernel
theorem d_Bed_readHouses_27 : decode b_Bed_readHouses 27 = .ok (.invokevirtual 74, 3) := by decide +kernel
theorem d_Bed_readHouses_30 : decode b_Bed_readHouses 30 = .ok (.istore 5, 2) := by decide +kernel
theorem d_Bed_readHouses_32 : decode b_Bed_readHouses 32 = .ok (.iload 5, 2) := by decide +kernel
theorem d_Bed_readHouses_34 : decode b_Bed_readHouses 34 = .ok (.bipush (-9), 2) := by decide +kernel
theorem d_Bed_readHouses_36 : decode b_Bed_readHouses 36 = .ok (.if_icmp .eq 6, 3) := by decide +kernel
theorem d_Bed_readHouses_39 : decode b_Bed_readHouses 39 = .ok (.iload 5, 2) := by decide +kernel
theorem d_Bed_readHouses_41 : decode b_Bed_readHouses 41 = .ok (.ireturn, 1) := by decide +kernel
theorem d_Bed_readHouses_42 : decode b_Bed_readHouses 42 = .ok (.aload_n 1, 1) := by decide +kernel
theorem d_Bed_readHouses_43 : decode b_Bed_readHouses 43 = .ok (.iload_n 3, 1) := by decide +kernel
theorem d_Bed_readHouses_44 : decode b_Bed_readHouses 44 = .ok (.iconst 4, 1) := by decide +kernel
theorem d_Bed_readHouses_45 : decode b_Bed_readHouses 45 = .ok (.iadd, 1) := by decide +kernel
theorem d_Bed_readHouses_46 : decode b_Bed_readHouses 46 = .ok (.invokevirtual 54, 3) := by decide +kernel
theorem d_Bed_readHouses_49 : decode b_Bed_readHouses 49 = .ok (.istore_n 3, 1) := by decide +kernel
theorem d_Bed_readHouses_50 : decode b_Bed_readHouses 50 = .ok (.iinc 4 1, 3) := by decide +kernel
theorem d_Bed_readHouses_53 : decode b_Bed_readHouses 53 = .ok (.goto (-44), 3) := by decide +kernel
theorem d_Bed_readHouses_56 : decode b_Bed_readHouses 56 = .ok (.bipush (-9), 2) := by decide +kernel
theorem d_Bed_readHouses_58 : decode b_Bed_readHouses 58 = .ok (.ireturn, 1) := by decide +kernel
abbrev b_Bed_readStreet : ByteArray := prog_2_method_9_code
abbrev y_Bed_readStreet : MethodName := ⟨"RiverTuesdays$Bed", "readStreet", "(LRiverTuesdays$Text;)I"⟩
theorem ok_Bed_readStreet : okV y_Bed_readStreet b_Bed_readStreet 3 (some .int) 1 0 := ⟨mGW (List.mem_of_getElem? (i := 475) (by decide +kernel)) rfl, mGW (List.mem_of_getElem? (i := 476) (by decide +kernel)) rfl, mGW (List.mem_of_getElem? (i := 76) (by decide +kernel)) rfl, mGW (List.mem_of_getElem? (i := 477) (by decide +kernel)) rfl, ⟨by decide, by decide, by decide +kernel⟩, rfl⟩
theorem d_Bed_readStreet_0 : decode b_Bed_readStreet 0 = .ok (.aload_n 0, 1) := by decide +kernel
theorem d_Bed_readStreet_1 : decode b_Bed_readStreet 1 = .ok (.iconst 0, 1) := by decide +kernel
theorem d_Bed_readStreet_2 : decode b_Bed_readStreet 2 = .ok (.putfield 33, 3) := by decide +kernel
theorem d_Bed_readStreet_5 : decode b_Bed_readStreet 5 = .ok (.aload_n 0, 1) := by decide +kernel
theorem d_Bed_readStreet_6 : decode b_Bed_readStreet 6 = .ok (.getfield 24, 3) := by decide +kernel
theorem d_Bed_readStreet_9 : decode b_Bed_readStreet 9 = .ok (.iconst 0, 1) := by decide +kernel
theorem d_Bed_readStreet_10 : decode b_Bed_readStreet 10 = .ok (.invokestatic 48, 3) := by decide +kernel
theorem d_Bed_readStreet_13 : decode b_Bed_readStreet 13 = .ok (.aload_n 1, 1) := by decide +kernel
theorem d_Bed_readStreet_14 : decode b_Bed_readStreet 14 = .ok (.iconst 0, 1) := by decide +kernel
theorem d_Bed_readStreet_15 : decode b_Bed_readStreet 15 = .ok (.invokevirtual 54, 3) := by decide +kernel
theorem d_Bed_readStreet_18 : decode b_Bed_readStreet 18 = .ok (.istore_n 2, 1) := by decide +kernel
theorem d_Bed_readStreet_19 : decode b_Bed_readStreet 19 = .ok (.iload_n 2, 1) := by decide +kernel
theorem d_Bed_readStreet_20 : decode b_Bed_readStreet 20 = .ok (.aload_n 1, 1) := by decide +kernel
theorem d_Bed_readStreet_21 : decode b_Bed_readStreet 21 = .ok (.getfield 60, 3) := by decide +kernel
theorem d_Bed_readStreet_24 : decode b_Bed_readStreet 24 = .ok (.if_icmp .ge 14, 3) := by decide +kernel
theorem d_Bed_readStreet_27 : decode b_Bed_readStreet 27 = .ok (.aload_n 1, 1) := by decide +kernel
theorem d_Bed_readStreet_28 : decode b_Bed_readStreet 28 = .ok (.getfield 63, 3) := by decide +kernel
theorem d_Bed_readStreet_31 : decode b_Bed_readStreet 31 = .ok (.iload_n 2, 1) := by decide +kernel
theorem d_Bed_readStreet_32 : decode b_Bed_readStreet 32 = .ok (.baload, 1) := by decide +kernel
theorem d_Bed_readStreet_33 : decode b_Bed_readStreet 33 = .ok (.bipush 113, 2) := by decide +kernel
theorem d_Bed_readStreet_35 : decode b_Bed_readStreet 35 = .ok (.if_icmp .eq 5, 3) := by decide +kernel
theorem d_Bed_readStreet_38 : decode b_Bed_readStreet 38 = .ok (.iload_n 2, 1) := by decide +kernel
theorem d_Bed_readStreet_39 : decode b_Bed_readStreet 39 = .ok (.ireturn, 1) := by decide +kernel
theorem d_Bed_readStreet_40 : decode b_Bed_readStreet 40 = .ok (.aload_n 0, 1) := by decide +kernel
theorem d_Bed_readStreet_41 : decode b_Bed_readStreet 41 = .ok (.aload_n 1, 1) := by decide +kernel
theorem d_Bed_readStreet_42 : decode b_Bed_readStreet 42 = .ok (.iload_n 2, 1) := by decide +kernel
theorem d_Bed_readStreet_43 : decode b_Bed_readStreet 43 = .ok (.iconst 1, 1) := by decide +kernel
theorem d_Bed_readStreet_44 : decode b_Bed_readStreet 44 = .ok (.iadd, 1) := by decide +kernel
theorem d_Bed_readStreet_45 : decode b_Bed_readStreet 45 = .ok (.invokevirtual 67, 3) := by decide +kernel
theorem d_Bed_readStreet_48 : decode b_Bed_readStreet 48 = .ok (.putfield 37, 3) := by decide +kernel
theorem d_Bed_readStreet_51 : decode b_Bed_readStreet 51 = .ok (.aload_n 0, 1) := by decide +kernel
theorem d_Bed_readStreet_52 : decode b_Bed_readStreet 52 = .ok (.getfield 37, 3) := by decide +kernel
theorem d_Bed_readStreet_55 : decode b_Bed_readStreet 55 = .ok (.iconst 1, 1) := by decide +kernel
theorem d_Bed_readStreet_56 : decode b_Bed_readStreet 56 = .ok (.if_icmp .ge 7, 3) := by decide +kernel
theorem d_Bed_readStreet_59 : decode b_Bed_readStreet 59 = .ok (.iload_n 2, 1) := by decide +kernel
theorem d_Bed_readStreet_60 : decode b_Bed_readStreet 60 = .ok (.iconst 1, 1) := by decide +kernel
theorem d_Bed_readStreet_61 : decode b_Bed_readStreet 61 = .ok (.iadd, 1) := by decide +kernel
theorem d_Bed_readStreet_62 : decode b_Bed_readStreet 62 = .ok (.ireturn, 1) := by decide +kernel
theorem d_Bed_readStreet_63 : decode b_Bed_readStreet 63 = .ok (.aload_n 0, 1) := by decide +kernel
theorem d_Bed_readStreet_64 : decode b_Bed_readStreet 64 = .ok (.aload_n 1, 1) := by decide +kernel
theorem d_Bed_readStreet_65 : decode b_Bed_readStreet 65 = .ok (.iload_n 2, 1) := by decide +kernel
theorem d_Bed_readStreet_66 : decode b_Bed_readStreet 66 = .ok (.iconst 2, 1) := by decide +kernel
theorem d_Bed_readStreet_67 : decode b_Bed_readStreet 67 = .ok (.iadd, 1) := by decide +kernel
theorem d_Bed_readStreet_68 : decode b_Bed_readStreet 68 = .ok (.invokevirtual 67, 3) := by decide +kernel
theorem d_Bed_readStreet_71 : decode b_Bed_readStreet 71 = .ok (.putfield 40, 3) := by decide +kernel
theorem d_Bed_readStreet_74 : decode b_Bed_readStreet 74 = .ok (.aload_n 0, 1) := by decide +kernel
theorem d_Bed_readStreet_75 : decode b_Bed_readStreet 75 = .ok (.getfield 40, 3) := by decide +kernel
theorem d_Bed_readStreet_78 : decode b_Bed_readStreet 78 = .ok (.iconst (-1), 1) := by decide +kernel
theorem d_Bed_readStreet_79 : decode b_Bed_readStreet 79 = .ok (.if_icmp .ne 7, 3) := by decide +kernel
theorem d_Bed_readStreet_82 : decode b_Bed_readStreet 82 = .ok (.iload_n 2, 1) := by decide +kernel
theorem d_Bed_readStreet_83 : decode b_Bed_readStreet 83 = .ok (.iconst 2, 1) := by decide +kernel
theorem d_Bed_readStreet_84 : decode b_Bed_readStreet 84 = .ok (.iadd, 1) := by decide +kernel
theorem d_Bed_readStreet_85 : decode b_Bed_readStreet 85 = .ok (.ireturn, 1) := by decide +kernel
theorem d_Bed_readStreet_86 : decode b_Bed_readStreet 86 = .ok (.aload_n 0, 1) := by decide +kernel
theorem d_Bed_readStreet_87 : decode b_Bed_readStreet 87 = .ok (.aload_n 1, 1) := by decide +kernel
theorem d_Bed_readStreet_88 : decode b_Bed_readStreet 88 = .ok (.iload_n 2, 1) := by decide +kernel
theorem d_Bed_readStreet_89 : decode b_Bed_readStreet 89 = .ok (.iconst 3, 1) := by decide +kernel
theorem d_Bed_readStreet_90 : decode b_Bed_readStreet 90 = .ok (.iadd, 1) := by decide +kernel
theorem d_Bed_readStreet_91 : decode b_Bed_readStreet 91 = .ok (.invokevirtual 70, 3) := by decide +kernel
theorem d_Bed_readStreet_94 : decode b_Bed_readStreet 94 = .ok (.ireturn, 1) := by decide +kernel
def f_Row_isThere (a0 : Nat) (D : Dt) : Option (Int32 × Dt) :=
  (if (D a0 1) = (-1) then some (0, D) else some (1, D))
set_option maxHeartbeats 4000000 in
theorem te_Row_isThere {Γ : GmT} {G : Dt → Nat → List (Nat × Value) → List Value → Prop} {rr : Int32} {DD : Dt} {a0 : Nat} (C : Cx Γ "RiverTuesdays$Row" b_Row_isThere 1 1 (some .boolean) (some (.int rr)) DD G) (h0 : kd a0 = 3) {D : Dt} (hf : f_Row_isThere a0 D = some (rr, DD)) : G D 0 [(0, .ref (Γ.2.1 a0))] [] := by
  unfold f_Row_isThere at hf
  refine r_aload_n (pc := 0) C 0 d_Row_isThere_0 rfl rfl ?_
  refine g_Row_size (pc := 1) C h0 Lf_Row_15 d_Row_isThere_1 ?_
  refine r_iconst (pc := 4) C (v := (-1)) d_Row_isThere_4 (by decide) ?_
  refine r_icmp_eq (pc := 5) C (tgt := 12) d_Row_isThere_5 (by decide) hf (fun c5 hf => ?_) (fun c5 hf => ?_)
  · refine r_iconst (pc := 12) C (v := 0) d_Row_isThere_12 (by decide) ?_
    exact r_zret (pc := 13) C d_Row_isThere_13 rfl hf
  · refine r_iconst (pc := 8) C (v := 1) d_Row_isThere_8 (by decide) ?_
    refine r_goto (pc := 9) C (tgt := 13) d_Row_isThere_9 (by decide) ?_
    exact r_zret (pc := 13) C d_Row_isThere_13 rfl hf
theorem c_Row_isThere (Γ : GmT) {a0 : Nat} (h0 : kd a0 = 3) {D : Dt} {rr : Int32} {DD : Dt} (hf : f_Row_isThere a0 D = some (rr, DD)) : Mt Γ y_Row_isThere b_Row_isThere 1 (some .boolean) 1 [.ref (Γ.2.1 a0)] D (some (.int rr)) DD := Mt_of (by decide) (Nat.le_of_ble_eq_true rfl) (fun G C => te_Row_isThere C h0 hf)
def f_Row_begin (a0 : Nat) (v1 : Int32) (D : Dt) : Option (Unit × Dt) :=
  bnd (f_J_fillI (a0 + 1) 0 D) (fun x1 D2 => nm (wr D2 a0 1 v1) (fun D3 => some ((), D3)))
set_option maxHeartbeats 4000000 in
theorem te_Row_begin {Γ : GmT} {G : Dt → Nat → List (Nat × Value) → List Value → Prop} {rr : Unit} {DD : Dt} {a0 : Nat} (C : Cx Γ "RiverTuesdays$Row" b_Row_begin 2 2 none none DD G) (h0 : kd a0 = 3) {v1 : Int32} {D : Dt} (hf : f_Row_begin a0 v1 D = some (rr, DD)) : G D 0 [(0, .ref (Γ.2.1 a0)), (1, .int v1)] [] := by
  unfold f_Row_begin at hf
  refine r_aload_n (pc := 0) C 0 d_Row_begin_0 rfl rfl ?_
  refine g_Row_places (pc := 1) C h0 Lf_Row_9 d_Row_begin_1 ?_
  refine r_iconst (pc := 4) C (v := 0) d_Row_begin_4 (by decide) ?_
  refine r_callSv (pc := 5) (As := [.ref (Γ.2.1 (a0 + 1)), .int 0]) (rest := []) C ok_J_fillI Lm_Row_19 ⟨by decide, by decide⟩ rfl rfl (Nat.le_of_ble_eq_true rfl) d_Row_begin_5 hf (fun x D1 hc => c_J_fillI Γ ((kq_Row_places h0)).1 hc) (fun x1 D2 hf => ?_)
  refine r_aload_n (pc := 8) C 0 d_Row_begin_8 rfl rfl ?_
  refine r_iload_n (pc := 9) C 1 d_Row_begin_9 rfl rfl ?_
  refine p_Row_size (pc := 10) C h0 Lf_Row_15 d_Row_begin_10 ?_
  refine r_nmD hf (fun D3 hf => ?_)
  exact r_vret (pc := 13) C d_Row_begin_13 hf
theorem c_Row_begin (Γ : GmT) {a0 : Nat} {v1 : Int32} (h0 : kd a0 = 3) {D : Dt} {rr : Unit} {DD : Dt} (hf : f_Row_begin a0 v1 D = some (rr, DD)) : Mt Γ y_Row_begin b_Row_begin 2 none 2 [.ref (Γ.2.1 a0), .int v1] D none DD := Mt_of (by decide) (Nat.le_of_ble_eq_true rfl) (fun G C => te_Row_begin C h0 hf)
def f_Row_takeFrom (a0 : Nat) (a1 : Nat) (v2 : Int32) (D : Dt) : Option (Unit × Dt) :=
  (if ¬ (0 : Int32) < 0 ∧ ¬ (0 : Int32) < 0 ∧ ¬ v2 < 0 ∧ (0 : Int32).toNatClampNeg + v2.toNatClampNeg ≤ (ln a1) ∧ (0 : Int32).toNatClampNeg + v2.toNatClampNeg ≤ 60 then nm (st D (a0 + 1) (va_cpy (D a1) (D (a0 + 1)) (0 : Int32).toNatClampNeg (0 : Int32).toNatClampNeg v2.toNatClampNeg)) (fun D1 => nm (wr D1 a0 1 v2) (fun D2 => some ((), D2))) else none)
set_option maxHeartbeats 4000000 in
theorem te_Row_takeFrom {Γ : GmT} {G : Dt → Nat → List (Nat × Value) → List Value → Prop} {rr : Unit} {DD : Dt} {a0 : Nat} {a1 : Nat} (C : Cx Γ "RiverTuesdays$Row" b_Row_takeFrom 3 2 none none DD G) (h0 : kd a0 = 3) (h1 : kd a1 = 11) {v2 : Int32} {D : Dt} (hf : f_Row_takeFrom a0 a1 v2 D = some (rr, DD)) : G D 0 [(0, .ref (Γ.2.1 a0)), (1, .ref (Γ.2.1 a1)), (2, .int v2)] [] := by
  unfold f_Row_takeFrom at hf
  refine r_aload_n (pc := 0) C 1 d_Row_takeFrom_0 rfl rfl ?_
  refine r_iconst (pc := 1) C (v := 0) d_Row_takeFrom_1 (by decide) ?_
  refine r_aload_n (pc := 2) C 0 d_Row_takeFrom_2 rfl rfl ?_
  refine g_Row_places (pc := 3) C h0 Lf_Row_9 d_Row_takeFrom_3 ?_
  refine r_iconst (pc := 6) C (v := 0) d_Row_takeFrom_6 (by decide) ?_
  refine r_iload_n (pc := 7) C 2 d_Row_takeFrom_7 rfl rfl ?_
  refine r_acopy (pc := 8) C ⟨h1, rfl⟩ (kq_Row_places h0) Lm_Row_25 acw1 acw2 acw3 (by decide) (Nat.le_of_ble_eq_true rfl) d_Row_takeFrom_8 hf (fun hf => ?_)
  refine r_nmD hf (fun D1 hf => ?_)
  refine r_aload_n (pc := 11) C 0 d_Row_takeFrom_11 rfl rfl ?_
  refine r_iload_n (pc := 12) C 2 d_Row_takeFrom_12 rfl rfl ?_
  refine p_Row_size (pc := 13) C h0 Lf_Row_15 d_Row_takeFrom_13 ?_
  refine r_nmD hf (fun D2 hf => ?_)
  exact r_vret (pc := 16) C d_Row_takeFrom_16 hf
theorem c_Row_takeFrom (Γ : GmT) {a0 : Nat} {a1 : Nat} {v2 : Int32} (h0 : kd a0 = 3) (h1 : kd a1 = 11) {D : Dt} {rr : Unit} {DD : Dt} (hf : f_Row_takeFrom a0 a1 v2 D = some (rr, DD)) : Mt Γ y_Row_takeFrom b_Row_takeFrom 3 none 2 [.ref (Γ.2.1 a0), .ref (Γ.2.1 a1), .int v2] D none DD := Mt_of (by decide) (Nat.le_of_ble_eq_true rfl) (fun G C => te_Row_takeFrom C h0 h1 hf)
def f_Row_hasRun (a0 : Nat) (v1 : Int32) (v2 : Int32) (D : Dt) : Option (Int32 × Dt) :=
  (if v1 < 0 then some (0, D) else (if (D a0 1) < v1 then some (0, D) else (if ((D a0 1) - v1) < v2 then some (0, D) else some (1, D))))
set_option maxHeartbeats 4000000 in
theorem te_Row_hasRun {Γ : GmT} {G : Dt → Nat → List (Nat × Value) → List Value → Prop} {rr : Int32} {DD : Dt} {a0 : Nat} (C : Cx Γ "RiverTuesdays$Row" b_Row_hasRun 3 1 (some .boolean) (some (.int rr)) DD G) (h0 : kd a0 = 3) {v1 : Int32} {v2 : Int32} {D : Dt} (hf : f_Row_hasRun a0 v1 v2 D = some (rr, DD)) : G D 0 [(0, .ref (Γ.2.1 a0)), (1, .int v1), (2, .int v2)] [] := by
  unfold f_Row_hasRun at hf
  refine r_iload_n (pc := 0) C 1 d_Row_hasRun_0 rfl rfl ?_
  refine r_if_lt (pc := 1) C (tgt := 26) d_Row_hasRun_1 (by decide) hf (fun c1 hf => ?_) (fun c1 hf => ?_)
  · refine r_iconst (pc := 26) C (v := 0) d_Row_hasRun_26 (by decide) ?_
    exact r_zret (pc := 27) C d_Row_hasRun_27 rfl hf
  · refine r_iload_n (pc := 4) C 1 d_Row_hasRun_4 rfl rfl ?_
    refine r_aload_n (pc := 5) C 0 d_Row_hasRun_5 rfl rfl ?_
    refine g_Row_size (pc := 6) C h0 Lf_Row_15 d_Row_hasRun_6 ?_
    refine r_icmp_gt (pc := 9) C (tgt := 26) d_Row_hasRun_9 (by decide) hf (fun c9 hf => ?_) (fun c9 hf => ?_)
    · refine r_iconst (pc := 26) C (v := 0) d_Row_hasRun_26 (by decide) ?_
      exact r_zret (pc := 27) C d_Row_hasRun_27 rfl hf
    · refine r_iload_n (pc := 12) C 2 d_Row_hasRun_12 rfl rfl ?_
      refine r_aload_n (pc := 13) C 0 d_Row_hasRun_13 rfl rfl ?_
      refine g_Row_size (pc := 14) C h0 Lf_Row_15 d_Row_hasRun_14 ?_
      refine r_iload_n (pc := 17) C 1 d_Row_hasRun_17 rfl rfl ?_
      refine r_isub (pc := 18) C d_Row_hasRun_18 ?_
      refine r_icmp_gt (pc := 19) C (tgt := 26) d_Row_hasRun_19 (by decide) hf (fun c19 hf => ?_) (fun c19 hf => ?_)
      · refine r_iconst (pc := 26) C (v := 0) d_Row_hasRun_26 (by decide) ?_
        exact r_zret (pc := 27) C d_Row_hasRun_27 rfl hf
      · refine r_iconst (pc := 22) C (v := 1) d_Row_hasRun_22 (by decide) ?_
        refine r_goto (pc := 23) C (tgt := 27) d_Row_hasRun_23 (by decide) ?_
        exact r_zret (pc := 27) C d_Row_hasRun_27 rfl hf
theorem c_Row_hasRun (Γ : GmT) {a0 : Nat} {v1 : Int32} {v2 : Int32} (h0 : kd a0 = 3) {D : Dt} {rr : Int32} {DD : Dt} (hf : f_Row_hasRun a0 v1 v2 D = some (rr, DD)) : Mt Γ y_Row_hasRun b_Row_hasRun 3 (some .boolean) 1 [.ref (Γ.2.1 a0), .int v1, .int v2] D (some (.int rr)) DD := Mt_of (by decide) (Nat.le_of_ble_eq_true rfl) (fun G C => te_Row_hasRun C h0 hf)
def s_Row_isAllWithin_2 (a0 : Nat) (k2 : Int32 → Int32 → Int32 → Dt → Option (Int32 × Dt)) (v1 : Int32) (v2 : Int32) (v3 : Int32) (D : Dt) : Option (Int32 × Dt) :=
  (if (D a0 1) ≤ v3 then some (1, D) else (if inb v3 60 = true then bnd (f_Root_isWithin (D (a0 + 1) v3.toNatClampNeg) v1 v2 D) (fun x1 D2 => (if x1 = 0 then some (0, D2) else k2 v1 v2 (v3 + 1) D2)) else none))
def lp_Row_isAllWithin_2 (a0 : Nat) (n : Nat) : Int32 → Int32 → Int32 → Dt → Option (Int32 × Dt) := itr (fun _ _ _ _ => none) (s_Row_isAllWithin_2 a0) n
set_option maxHeartbeats 4000000 in
theorem ts_Row_isAllWithin_2 {Γ : GmT} {G : Dt → Nat → List (Nat × Value) → List Value → Prop} {rr : Int32} {DD : Dt} {a0 : Nat} (C : Cx Γ "RiverTuesdays$Row" b_Row_isAllWithin 4 2 (some .boolean) (some (.int rr)) DD G) (h0 : kd a0 = 3) {k2 : Int32 → Int32 → Int32 → Dt → Option (Int32 × Dt)} (hk2 : ∀ (v1 : Int32) (v2 : Int32) (v3 : Int32) (D : Dt), k2 v1 v2 v3 D = some (rr, DD) → G D 2 [(0, .ref (Γ.2.1 a0)), (1, .int v1), (2, .int v2), (3, .int v3)] []) {v1 : Int32} {v2 : Int32} {v3 : Int32} {D : Dt} (hf : s_Row_isAllWithin_2 a0 k2 v1 v2 v3 D = some (rr, DD)) : G D 2 [(0, .ref (Γ.2.1 a0)), (1, .int v1), (2, .int v2), (3, .int v3)] [] := by
  unfold s_Row_isAllWithin_2 at hf
  refine r_iload_n (pc := 2) C 3 d_Row_isAllWithin_2 rfl rfl ?_
  refine r_aload_n (pc := 3) C 0 d_Row_isAllWithin_3 rfl rfl ?_
  refine g_Row_size (pc := 4) C h0 Lf_Row_15 d_Row_isAllWithin_4 ?_
  refine r_icmp_ge (pc := 7) C (tgt := 32) d_Row_isAllWithin_7 (by decide) hf (fun c7 hf => ?_) (fun c7 hf => ?_)
  · refine r_iconst (pc := 32) C (v := 1) d_Row_isAllWithin_32 (by decide) ?_
    exact r_zret (pc := 33) C d_Row_isAllWithin_33 rfl hf
  · refine r_aload_n (pc := 10) C 0 d_Row_isAllWithin_10 rfl rfl ?_
    refine g_Row_places (pc := 11) C h0 Lf_Row_9 d_Row_isAllWithin_11 ?_
    refine r_iload_n (pc := 14) C 3 d_Row_isAllWithin_14 rfl rfl ?_
    refine r_iald (pc := 15) C (kq_Row_places h0) d_Row_isAllWithin_15 hf (fun hf => ?_)
    refine r_iload_n (pc := 16) C 1 d_Row_isAllWithin_16 rfl rfl ?_
    refine r_iload_n (pc := 17) C 2 d_Row_isAllWithin_17 rfl rfl ?_
    refine r_callNi (pc := 18) (As := [.int (D (a0 + 1) v3.toNatClampNeg), .int v1, .int v2]) (rest := []) C ok_Root_isWithin (fun U h => h.2.1) ⟨by decide, by decide⟩ rfl rfl (Nat.le_of_ble_eq_true rfl) d_Row_isAllWithin_18 hf (fun x D1 hc => c_Root_isWithin Γ hc) (fun x1 D2 hf => ?_)
    refine r_if_ne (pc := 21) C (tgt := 26) d_Row_isAllWithin_21 (by decide) hf (fun c21 hf => ?_) (fun c21 hf => ?_)
    · refine r_iinc (pc := 26) C (v := v3 + 1) (lv' := [(3, .int (v3 + 1)), (0, .ref (Γ.2.1 a0)), (1, .int v1), (2, .int v2)]) 3 d_Row_isAllWithin_26 rfl rfl (Nat.le_of_ble_eq_true rfl) rfl ?_
      refine r_goto (pc := 29) C (tgt := 2) d_Row_isAllWithin_29 (by decide) ?_
      exact r_lv (pc := 2) C [1, 2, 3, 0] rfl (hk2 v1 v2 (v3 + 1) D2 hf)
    · refine r_iconst (pc := 24) C (v := 0) d_Row_isAllWithin_24 (by decide) ?_
      exact r_zret (pc := 25) C d_Row_isAllWithin_25 rfl hf
theorem tl_Row_isAllWithin_2 {Γ : GmT} {G : Dt → Nat → List (Nat × Value) → List Value → Prop} {rr : Int32} {DD : Dt} {a0 : Nat} (C : Cx Γ "RiverTuesdays$Row" b_Row_isAllWithin 4 2 (some .boolean) (some (.int rr)) DD G) (h0 : kd a0 = 3) : ∀ (n : Nat) (v1 : Int32) (v2 : Int32) (v3 : Int32) (D : Dt), lp_Row_isAllWithin_2 a0 n v1 v2 v3 D = some (rr, DD) → G D 2 [(0, .ref (Γ.2.1 a0)), (1, .int v1), (2, .int v2), (3, .int v3)] [] := by
  intro n
  induction n with
  | zero =>
    intro v1 v2 v3 D hf
    exact absurd (show (none : Option (Int32 × Dt)) = some (rr, DD) from hf) (by simp)
  | succ n ih =>
    intro v1 v2 v3 D hf
    exact ts_Row_isAllWithin_2 C h0 (k2 := lp_Row_isAllWithin_2 a0 n) ih hf
def f_Row_isAllWithin (a0 : Nat) (v1 : Int32) (v2 : Int32) (D : Dt) : Option (Int32 × Dt) :=
  lp_Row_isAllWithin_2 a0 FU v1 v2 0 D
set_option maxHeartbeats 4000000 in
theorem te_Row_isAllWithin {Γ : GmT} {G : Dt → Nat → List (Nat × Value) → List Value → Prop} {rr : Int32} {DD : Dt} {a0 : Nat} (C : Cx Γ "RiverTuesdays$Row" b_Row_isAllWithin 4 2 (some .boolean) (some (.int rr)) DD G) (h0 : kd a0 = 3) {v1 : Int32} {v2 : Int32} {D : Dt} (hf : f_Row_isAllWithin a0 v1 v2 D = some (rr, DD)) : G D 0 [(0, .ref (Γ.2.1 a0)), (1, .int v1), (2, .int v2)] [] := by
  unfold f_Row_isAllWithin at hf
  refine r_iconst (pc := 0) C (v := 0) d_Row_isAllWithin_0 (by decide) ?_
  refine r_istore_n (pc := 1) (lv' := [(3, .int 0), (0, .ref (Γ.2.1 a0)), (1, .int v1), (2, .int v2)]) C d_Row_isAllWithin_1 rfl (Nat.le_of_ble_eq_true rfl) rfl ?_
  exact r_lv (pc := 2) C [1, 2, 3, 0] rfl (tl_Row_isAllWithin_2 C h0 FU v1 v2 0 D hf)
theorem c_Row_isAllWithin (Γ : GmT) {a0 : Nat} {v1 : Int32} {v2 : Int32} (h0 : kd a0 = 3) {D : Dt} {rr : Int32} {DD : Dt} (hf : f_Row_isAllWithin a0 v1 v2 D = some (rr, DD)) : Mt Γ y_Row_isAllWithin b_Row_isAllWithin 4 (some .boolean) 2 [.ref (Γ.2.1 a0), .int v1, .int v2] D (some (.int rr)) DD := Mt_of (by decide) (Nat.le_of_ble_eq_true rfl) (fun G C => te_Row_isAllWithin C h0 hf)
def s_Row_sum_4 (a0 : Nat) (k4 : Int64 → Int32 → Dt → Option (Int64 × Dt)) (v1 : Int64) (v3 : Int32) (D : Dt) : Option (Int64 × Dt) :=
  (if (D a0 1) ≤ v3 then some (v1, D) else (if inb v3 60 = true then nm (v1 + ((D (a0 + 1) v3.toNatClampNeg).toInt64)) (fun x1 => k4 x1 (v3 + 1) D) else none))
def lp_Row_sum_4 (a0 : Nat) (n : Nat) : Int64 → Int32 → Dt → Option (Int64 × Dt) := itr (fun _ _ _ => none) (s_Row_sum_4 a0) n
set_option maxHeartbeats 4000000 in
theorem ts_Row_sum_4 {Γ : GmT} {G : Dt → Nat → List (Nat × Value) → List Value → Prop} {rr : Int64} {DD : Dt} {a0 : Nat} (C : Cx Γ "RiverTuesdays$Row" b_Row_sum 4 1 (some .long) (some (.long rr)) DD G) (h0 : kd a0 = 3) {k4 : Int64 → Int32 → Dt → Option (Int64 × Dt)} (hk4 : ∀ (v1 : Int64) (v3 : Int32) (D : Dt), k4 v1 v3 D = some (rr, DD) → G D 4 [(0, .ref (Γ.2.1 a0)), (1, .long v1), (3, .int v3)] []) {v1 : Int64} {v3 : Int32} {D : Dt} (hf : s_Row_sum_4 a0 k4 v1 v3 D = some (rr, DD)) : G D 4 [(0, .ref (Γ.2.1 a0)), (1, .long v1), (3, .int v3)] [] := by
  unfold s_Row_sum_4 at hf
  refine r_iload_n (pc := 4) C 2 d_Row_sum_4 rfl rfl ?_
  refine r_aload_n (pc := 5) C 0 d_Row_sum_5 rfl rfl ?_
  refine g_Row_size (pc := 6) C h0 Lf_Row_15 d_Row_sum_6 ?_
  refine r_icmp_ge (pc := 9) C (tgt := 28) d_Row_sum_9 (by decide) hf (fun c9 hf => ?_) (fun c9 hf => ?_)
  · refine r_lload_n (pc := 28) C 1 d_Row_sum_28 rfl rfl ?_
    exact r_lret (pc := 29) C d_Row_sum_29 hf
  · refine r_lload_n (pc := 12) C 1 d_Row_sum_12 rfl rfl ?_
    refine r_aload_n (pc := 13) C 0 d_Row_sum_13 rfl rfl ?_
    refine g_Row_places (pc := 14) C h0 Lf_Row_9 d_Row_sum_14 ?_
    refine r_iload_n (pc := 17) C 2 d_Row_sum_17 rfl rfl ?_
    refine r_iald (pc := 18) C (kq_Row_places h0) d_Row_sum_18 hf (fun hf => ?_)
    refine r_i2l (pc := 19) C d_Row_sum_19 ?_
    refine r_ladd (pc := 20) C d_Row_sum_20 ?_
    refine r_nml (pc := 21) hf (fun x1 hf => ?_)
    refine r_lstore_n (pc := 21) (lv' := [(1, .long x1), (0, .ref (Γ.2.1 a0)), (3, .int v3)]) C d_Row_sum_21 rfl (Nat.le_of_ble_eq_true rfl) rfl ?_
    refine r_iinc (pc := 22) C (v := v3 + 1) (lv' := [(3, .int (v3 + 1)), (1, .long x1), (0, .ref (Γ.2.1 a0))]) 2 d_Row_sum_22 rfl rfl (Nat.le_of_ble_eq_true rfl) rfl ?_
    refine r_goto (pc := 25) C (tgt := 4) d_Row_sum_25 (by decide) ?_
    exact r_lv (pc := 4) C [2, 1, 0] rfl (hk4 x1 (v3 + 1) D hf)
theorem tl_Row_sum_4 {Γ : GmT} {G : Dt → Nat → List (Nat × Value) → List Value → Prop} {rr : Int64} {DD : Dt} {a0 : Nat} (C : Cx Γ "RiverTuesdays$Row" b_Row_sum 4 1 (some .long) (some (.long rr)) DD G) (h0 : kd a0 = 3) : ∀ (n : Nat) (v1 : Int64) (v3 : Int32) (D : Dt), lp_Row_sum_4 a0 n v1 v3 D = some (rr, DD) → G D 4 [(0, .ref (Γ.2.1 a0)), (1, .long v1), (3, .int v3)] [] := by
  intro n
  induction n with
  | zero =>
    intro v1 v3 D hf
    exact absurd (show (none : Option (Int64 × Dt)) = some (rr, DD) from hf) (by simp)
  | succ n ih =>
    intro v1 v3 D hf
    exact ts_Row_sum_4 C h0 (k4 := lp_Row_sum_4 a0 n) ih hf
def f_Row_sum (a0 : Nat) (D : Dt) : Option (Int64 × Dt) :=
  lp_Row_sum_4 a0 FU 0 0 D
set_option maxHeartbeats 4000000 in
theorem te_Row_sum {Γ : GmT} {G : Dt → Nat → List (Nat × Value) → List Value → Prop} {rr : Int64} {DD : Dt} {a0 : Nat} (C : Cx Γ "RiverTuesdays$Row" b_Row_sum 4 1 (some .long) (some (.long rr)) DD G) (h0 : kd a0 = 3) {D : Dt} (hf : f_Row_sum a0 D = some (rr, DD)) : G D 0 [(0, .ref (Γ.2.1 a0))] [] := by
  unfold f_Row_sum at hf
  refine r_lconst (pc := 0) C (v := 0) d_Row_sum_0 (by decide) ?_
  refine r_lstore_n (pc := 1) (lv' := [(1, .long 0), (0, .ref (Γ.2.1 a0))]) C d_Row_sum_1 rfl (Nat.le_of_ble_eq_true rfl) rfl ?_
  refine r_iconst (pc := 2) C (v := 0) d_Row_sum_2 (by decide) ?_
  refine r_istore_n (pc := 3) (lv' := [(3, .int 0), (1, .long 0), (0, .ref (Γ.2.1 a0))]) C d_Row_sum_3 rfl (Nat.le_of_ble_eq_true rfl) rfl ?_
  exact r_lv (pc := 4) C [2, 1, 0] rfl (tl_Row_sum_4 C h0 FU 0 0 D hf)
theorem c_Row_sum (Γ : GmT) {a0 : Nat} (h0 : kd a0 = 3) {D : Dt} {rr : Int64} {DD : Dt} (hf : f_Row_sum a0 D = some (rr, DD)) : Mt Γ y_Row_sum b_Row_sum 4 (some .long) 1 [.ref (Γ.2.1 a0)] D (some (.long rr)) DD := Mt_of (by decide) (Nat.le_of_ble_eq_true rfl) (fun G C => te_Row_sum C h0 hf)
def s_Row_greatest_4 (a0 : Nat) (k4 : Int32 → Int32 → Dt → Option (Int32 × Dt)) (v1 : Int32) (v2 : Int32) (D : Dt) : Option (Int32 × Dt) :=
  (if (D a0 1) ≤ v2 then some (v1, D) else (if inb v2 60 = true then nm (imax v1 (D (a0 + 1) v2.toNatClampNeg)) (fun x1 => k4 x1 (v2 + 1) D) else none))
def lp_Row_greatest_4 (a0 : Nat) (n : Nat) : Int32 → Int32 → Dt → Option (Int32 × Dt) := itr (fun _ _ _ => none) (s_Row_greatest_4 a0) n
set_option maxHeartbeats 4000000 in
theorem ts_Row_greatest_4 {Γ : GmT} {G : Dt → Nat → List (Nat × Value) → List Value → Prop} {rr : Int32} {DD : Dt} {a0 : Nat} (C : Cx Γ "RiverTuesdays$Row" b_Row_greatest 3 2 (some .int) (some (.int rr)) DD G) (h0 : kd a0 = 3) {k4 : Int32 → Int32 → Dt → Option (Int32 × Dt)} (hk4 : ∀ (v1 : Int32) (v2 : Int32) (D : Dt), k4 v1 v2 D = some (rr, DD) → G D 4 [(0, .ref (Γ.2.1 a0)), (1, .int v1), (2, .int v2)] []) {v1 : Int32} {v2 : Int32} {D : Dt} (hf : s_Row_greatest_4 a0 k4 v1 v2 D = some (rr, DD)) : G D 4 [(0, .ref (Γ.2.1 a0)), (1, .int v1), (2, .int v2)] [] := by
  unfold s_Row_greatest_4 at hf
  refine r_iload_n (pc := 4) C 2 d_Row_greatest_4 rfl rfl ?_
  refine r_aload_n (pc := 5) C 0 d_Row_greatest_5 rfl rfl ?_
  refine g_Row_size (pc := 6) C h0 Lf_Row_15 d_Row_greatest_6 ?_
  refine r_icmp_ge (pc := 9) C (tgt := 29) d_Row_greatest_9 (by decide) hf (fun c9 hf => ?_) (fun c9 hf => ?_)
  · refine r_iload_n (pc := 29) C 1 d_Row_greatest_29 rfl rfl ?_
    exact r_iret (pc := 30) C d_Row_greatest_30 hf
  · refine r_iload_n (pc := 12) C 1 d_Row_greatest_12 rfl rfl ?_
    refine r_aload_n (pc := 13) C 0 d_Row_greatest_13 rfl rfl ?_
    refine g_Row_places (pc := 14) C h0 Lf_Row_9 d_Row_greatest_14 ?_
    refine r_iload_n (pc := 17) C 2 d_Row_greatest_17 rfl rfl ?_
    refine r_iald (pc := 18) C (kq_Row_places h0) d_Row_greatest_18 hf (fun hf => ?_)
    refine r_mmax (pc := 19) C Lm_Row_35 (by decide) (Nat.le_of_ble_eq_true rfl) d_Row_greatest_19 ?_
    refine r_nmi (pc := 22) hf (fun x1 hf => ?_)
    refine r_istore_n (pc := 22) (lv' := [(1, .int x1), (0, .ref (Γ.2.1 a0)), (2, .int v2)]) C d_Row_greatest_22 rfl (Nat.le_of_ble_eq_true rfl) rfl ?_
    refine r_iinc (pc := 23) C (v := v2 + 1) (lv' := [(2, .int (v2 + 1)), (1, .int x1), (0, .ref (Γ.2.1 a0))]) 2 d_Row_greatest_23 rfl rfl (Nat.le_of_ble_eq_true rfl) rfl ?_
    refine r_goto (pc := 26) C (tgt := 4) d_Row_greatest_26 (by decide) ?_
    exact r_lv (pc := 4) C [2, 1, 0] rfl (hk4 x1 (v2 + 1) D hf)
theorem tl_Row_greatest_4 {Γ : GmT} {G : Dt → Nat → List (Nat × Value) → List Value → Prop} {rr : Int32} {DD : Dt} {a0 : Nat} (C : Cx Γ "RiverTuesdays$Row" b_Row_greatest 3 2 (some .int) (some (.int rr)) DD G) (h0 : kd a0 = 3) : ∀ (n : Nat) (v1 : Int32) (v2 : Int32) (D : Dt), lp_Row_greatest_4 a0 n v1 v2 D = some (rr, DD) → G D 4 [(0, .ref (Γ.2.1 a0)), (1, .int v1), (2, .int v2)] [] := by
  intro n
  induction n with
  | zero =>
    intro v1 v2 D hf
    exact absurd (show (none : Option (Int32 × Dt)) = some (rr, DD) from hf) (by simp)
  | succ n ih =>
    intro v1 v2 D hf
    exact ts_Row_greatest_4 C h0 (k4 := lp_Row_greatest_4 a0 n) ih hf
def f_Row_greatest (a0 : Nat) (D : Dt) : Option (Int32 × Dt) :=
  lp_Row_greatest_4 a0 FU 0 0 D
set_option maxHeartbeats 4000000 in
theorem te_Row_greatest {Γ : GmT} {G : Dt → Nat → List (Nat × Value) → List Value → Prop} {rr : Int32} {DD : Dt} {a0 : Nat} (C : Cx Γ "RiverTuesdays$Row" b_Row_greatest 3 2 (some .int) (some (.int rr)) DD G) (h0 : kd a0 = 3) {D : Dt} (hf : f_Row_greatest a0 D = some (rr, DD)) : G D 0 [(0, .ref (Γ.2.1 a0))] [] := by
  unfold f_Row_greatest at hf
  refine r_iconst (pc := 0) C (v := 0) d_Row_greatest_0 (by decide) ?_
  refine r_istore_n (pc := 1) (lv' := [(1, .int 0), (0, .ref (Γ.2.1 a0))]) C d_Row_greatest_1 rfl (Nat.le_of_ble_eq_true rfl) rfl ?_
  refine r_iconst (pc := 2) C (v := 0) d_Row_greatest_2 (by decide) ?_
  refine r_istore_n (pc := 3) (lv' := [(2, .int 0), (1, .int 0), (0, .ref (Γ.2.1 a0))]) C d_Row_greatest_3 rfl (Nat.le_of_ble_eq_true rfl) rfl ?_
  exact r_lv (pc := 4) C [2, 1, 0] rfl (tl_Row_greatest_4 C h0 FU 0 0 D hf)
theorem c_Row_greatest (Γ : GmT) {a0 : Nat} (h0 : kd a0 = 3) {D : Dt} {rr : Int32} {DD : Dt} (hf : f_Row_greatest a0 D = some (rr, DD)) : Mt Γ y_Row_greatest b_Row_greatest 3 (some .int) 2 [.ref (Γ.2.1 a0)] D (some (.int rr)) DD := Mt_of (by decide) (Nat.le_of_ble_eq_true rfl) (fun G C => te_Row_greatest C h0 hf)
def s_Row_foldedInto_14 (a0 : Nat) (k14 : Int64 → Int32 → Dt → Option (Int64 × Dt)) (v1 : Int64) (v3 : Int32) (D : Dt) : Option (Int64 × Dt) :=
  (if (D a0 1) ≤ v3 then some (v1, D) else (if inb v3 60 = true then nm ((31 * v1) + ((D (a0 + 1) v3.toNatClampNeg).toInt64)) (fun x1 => k14 x1 (v3 + 1) D) else none))
def lp_Row_foldedInto_14 (a0 : Nat) (n : Nat) : Int64 → Int32 → Dt → Option (Int64 × Dt) := itr (fun _ _ _ => none) (s_Row_foldedInto_14 a0) n
set_option maxHeartbeats 4000000 in
theorem ts_Row_foldedInto_14 {Γ : GmT} {G : Dt → Nat → List (Nat × Value) → List Value → Prop} {rr : Int64} {DD : Dt} {a0 : Nat} (C : Cx Γ "RiverTuesdays$Row" b_Row_foldedInto 4 1 (some .long) (some (.long rr)) DD G) (h0 : kd a0 = 3) {k14 : Int64 → Int32 → Dt → Option (Int64 × Dt)} (hk14 : ∀ (v1 : Int64) (v3 : Int32) (D : Dt), k14 v1 v3 D = some (rr, DD) → G D 14 [(0, .ref (Γ.2.1 a0)), (1, .long v1), (3, .int v3)] []) {v1 : Int64} {v3 : Int32} {D : Dt} (hf : s_Row_foldedInto_14 a0 k14 v1 v3 D = some (rr, DD)) : G D 14 [(0, .ref (Γ.2.1 a0)), (1, .long v1), (3, .int v3)] [] := by
  unfold s_Row_foldedInto_14 at hf
  refine r_iload_n (pc := 14) C 2 d_Row_foldedInto_14 rfl rfl ?_
  refine r_aload_n (pc := 15) C 0 d_Row_foldedInto_15 rfl rfl ?_
  refine g_Row_size (pc := 16) C h0 Lf_Row_15 d_Row_foldedInto_16 ?_
  refine r_icmp_ge (pc := 19) C (tgt := 42) d_Row_foldedInto_19 (by decide) hf (fun c19 hf => ?_) (fun c19 hf => ?_)
  · refine r_lload_n (pc := 42) C 1 d_Row_foldedInto_42 rfl rfl ?_
    exact r_lret (pc := 43) C d_Row_foldedInto_43 hf
  · refine r_ldc2 (pc := 22) C Lc_Row_41 d_Row_foldedInto_22 ?_
    refine r_lload_n (pc := 25) C 1 d_Row_foldedInto_25 rfl rfl ?_
    refine r_lmul (pc := 26) C d_Row_foldedInto_26 ?_
    refine r_aload_n (pc := 27) C 0 d_Row_foldedInto_27 rfl rfl ?_
    refine g_Row_places (pc := 28) C h0 Lf_Row_9 d_Row_foldedInto_28 ?_
    refine r_iload_n (pc := 31) C 2 d_Row_foldedInto_31 rfl rfl ?_
    refine r_iald (pc := 32) C (kq_Row_places h0) d_Row_foldedInto_32 hf (fun hf => ?_)
    refine r_i2l (pc := 33) C d_Row_foldedInto_33 ?_
    refine r_ladd (pc := 34) C d_Row_foldedInto_34 ?_
    refine r_nml (pc := 35) hf (fun x1 hf => ?_)
    refine r_lstore_n (pc := 35) (lv' := [(1, .long x1), (0, .ref (Γ.2.1 a0)), (3, .int v3)]) C d_Row_foldedInto_35 rfl (Nat.le_of_ble_eq_true rfl) rfl ?_
    refine r_iinc (pc := 36) C (v := v3 + 1) (lv' := [(3, .int (v3 + 1)), (1, .long x1), (0, .ref (Γ.2.1 a0))]) 2 d_Row_foldedInto_36 rfl rfl (Nat.le_of_ble_eq_true rfl) rfl ?_
    refine r_goto (pc := 39) C (tgt := 14) d_Row_foldedInto_39 (by decide) ?_
    exact r_lv (pc := 14) C [2, 1, 0] rfl (hk14 x1 (v3 + 1) D hf)
theorem tl_Row_foldedInto_14 {Γ : GmT} {G : Dt → Nat → List (Nat × Value) → List Value → Prop} {rr : Int64} {DD : Dt} {a0 : Nat} (C : Cx Γ "RiverTuesdays$Row" b_Row_foldedInto 4 1 (some .long) (some (.long rr)) DD G) (h0 : kd a0 = 3) : ∀ (n : Nat) (v1 : Int64) (v3 : Int32) (D : Dt), lp_Row_foldedInto_14 a0 n v1 v3 D = some (rr, DD) → G D 14 [(0, .ref (Γ.2.1 a0)), (1, .long v1), (3, .int v3)] [] := by
  intro n
  induction n with
  | zero =>
    intro v1 v3 D hf
    exact absurd (show (none : Option (Int64 × Dt)) = some (rr, DD) from hf) (by simp)
  | succ n ih =>
    intro v1 v3 D hf
    exact ts_Row_foldedInto_14 C h0 (k14 := lp_Row_foldedInto_14 a0 n) ih hf
def f_Row_foldedInto (a0 : Nat) (v1 : Int64) (D : Dt) : Option (Int64 × Dt) :=
  lp_Row_foldedInto_14 a0 FU ((31 * v1) + ((D a0 1).toInt64)) 0 D
set_option maxHeartbeats 4000000 in
theorem te_Row_foldedInto {Γ : GmT} {G : Dt → Nat → List (Nat × Value) → List Value → Prop} {rr : Int64} {DD : Dt} {a0 : Nat} (C : Cx Γ "RiverTuesdays$Row" b_Row_foldedInto 4 1 (some .long) (some (.long rr)) DD G) (h0 : kd a0 = 3) {v1 : Int64} {D : Dt} (hf : f_Row_foldedInto a0 v1 D = some (rr, DD)) : G D 0 [(0, .ref (Γ.2.1 a0)), (1, .long v1)] [] := by
  unfold f_Row_foldedInto at hf
  refine r_ldc2 (pc := 0) C Lc_Row_41 d_Row_foldedInto_0 ?_
  refine r_lload_n (pc := 3) C 1 d_Row_foldedInto_3 rfl rfl ?_
  refine r_lmul (pc := 4) C d_Row_foldedInto_4 ?_
  refine r_aload_n (pc := 5) C 0 d_Row_foldedInto_5 rfl rfl ?_
  refine g_Row_size (pc := 6) C h0 Lf_Row_15 d_Row_foldedInto_6 ?_
  refine r_i2l (pc := 9) C d_Row_foldedInto_9 ?_
  refine r_ladd (pc := 10) C d_Row_foldedInto_10 ?_
  refine r_lstore_n (pc := 11) (lv' := [(1, .long ((31 * v1) + ((D a0 1).toInt64))), (0, .ref (Γ.2.1 a0))]) C d_Row_foldedInto_11 rfl (Nat.le_of_ble_eq_true rfl) rfl ?_
  refine r_iconst (pc := 12) C (v := 0) d_Row_foldedInto_12 (by decide) ?_
  refine r_istore_n (pc := 13) (lv' := [(3, .int 0), (1, .long ((31 * v1) + ((D a0 1).toInt64))), (0, .ref (Γ.2.1 a0))]) C d_Row_foldedInto_13 rfl (Nat.le_of_ble_eq_true rfl) rfl ?_
  exact r_lv (pc := 14) C [2, 1, 0] rfl (tl_Row_foldedInto_14 C h0 FU ((31 * v1) + ((D a0 1).toInt64)) 0 D hf)
theorem c_Row_foldedInto (Γ : GmT) {a0 : Nat} {v1 : Int64} (h0 : kd a0 = 3) {D : Dt} {rr : Int64} {DD : Dt} (hf : f_Row_foldedInto a0 v1 D = some (rr, DD)) : Mt Γ y_Row_foldedInto b_Row_foldedInto 4 (some .long) 1 [.ref (Γ.2.1 a0), .long v1] D (some (.long rr)) DD := Mt_of (by decide) (Nat.le_of_ble_eq_true rfl) (fun G C => te_Row_foldedInto C h0 hf)
def f_Text_isThere (a0 : Nat) (D : Dt) : Option (Int32 × Dt) :=
  (if (D a0 1) = (-1) then some (0, D) else some (1, D))
set_option maxHeartbeats 4000000 in
theorem te_Text_isThere {Γ : GmT} {G : Dt → Nat → List (Nat × Value) → List Value → Prop} {rr : Int32} {DD : Dt} {a0 : Nat} (C : Cx Γ "RiverTuesdays$Text" b_Text_isThere 1 1 (some .boolean) (some (.int rr)) DD G) (h0 : kd a0 = 5) {D : Dt} (hf : f_Text_isThere a0 D = some (rr, DD)) : G D 0 [(0, .ref (Γ.2.1 a0))] [] := by
  unfold f_Text_isThere at hf
  refine r_aload_n (pc := 0) C 0 d_Text_isThere_0 rfl rfl ?_
  refine g_Text_size (pc := 1) C h0 Lf_Text_15 d_Text_isThere_1 ?_
  refine r_iconst (pc := 4) C (v := (-1)) d_Text_isThere_4 (by decide) ?_
  refine r_icmp_eq (pc := 5) C (tgt := 12) d_Text_isThere_5 (by decide) hf (fun c5 hf => ?_) (fun c5 hf => ?_)
  · refine r_iconst (pc := 12) C (v := 0) d_Text_isThere_12 (by decide) ?_
    exact r_zret (pc := 13) C d_Text_isThere_13 rfl hf
  · refine r_iconst (pc := 8) C (v := 1) d_Text_isThere_8 (by decide) ?_
    refine r_goto (pc := 9) C (tgt := 13) d_Text_isThere_9 (by decide) ?_
    exact r_zret (pc := 13) C d_Text_isThere_13 rfl hf
theorem c_Text_isThere (Γ : GmT) {a0 : Nat} (h0 : kd a0 = 5) {D : Dt} {rr : Int32} {DD : Dt} (hf : f_Text_isThere a0 D = some (rr, DD)) : Mt Γ y_Text_isThere b_Text_isThere 1 (some .boolean) 1 [.ref (Γ.2.1 a0)] D (some (.int rr)) DD := Mt_of (by decide) (Nat.le_of_ble_eq_true rfl) (fun G C => te_Text_isThere C h0 hf)
def f_Text_begin (a0 : Nat) (v1 : Int32) (D : Dt) : Option (Unit × Dt) :=
  bnd (f_J_fillB (a0 + 1) 32 D) (fun x1 D2 => nm (wr D2 a0 1 v1) (fun D3 => some ((), D3)))
set_option maxHeartbeats 4000000 in
theorem te_Text_begin {Γ : GmT} {G : Dt → Nat → List (Nat × Value) → List Value → Prop} {rr : Unit} {DD : Dt} {a0 : Nat} (C : Cx Γ "RiverTuesdays$Text" b_Text_begin 2 2 none none DD G) (h0 : kd a0 = 5) {v1 : Int32} {D : Dt} (hf : f_Text_begin a0 v1 D = some (rr, DD)) : G D 0 [(0, .ref (Γ.2.1 a0)), (1, .int v1)] [] := by
  unfold f_Text_begin at hf
  refine r_aload_n (pc := 0) C 0 d_Text_begin_0 rfl rfl ?_
  refine g_Text_signs (pc := 1) C h0 Lf_Text_9 d_Text_begin_1 ?_
  refine r_bipush (pc := 4) C (v := 32) d_Text_begin_4 (by decide) ?_
  refine r_callSv (pc := 6) (As := [.ref (Γ.2.1 (a0 + 1)), .int 32]) (rest := []) C ok_J_fillB Lm_Text_19 ⟨by decide, by decide⟩ rfl rfl (Nat.le_of_ble_eq_true rfl) d_Text_begin_6 hf (fun x D1 hc => c_J_fillB Γ ((kq_Text_signs h0)).1 hc) (fun x1 D2 hf => ?_)
  refine r_aload_n (pc := 9) C 0 d_Text_begin_9 rfl rfl ?_
  refine r_iload_n (pc := 10) C 1 d_Text_begin_10 rfl rfl ?_
  refine p_Text_size (pc := 11) C h0 Lf_Text_15 d_Text_begin_11 ?_
  refine r_nmD hf (fun D3 hf => ?_)
  exact r_vret (pc := 14) C d_Text_begin_14 hf
theorem c_Text_begin (Γ : GmT) {a0 : Nat} {v1 : Int32} (h0 : kd a0 = 5) {D : Dt} {rr : Unit} {DD : Dt} (hf : f_Text_begin a0 v1 D = some (rr, DD)) : Mt Γ y_Text_begin b_Text_begin 2 none 2 [.ref (Γ.2.1 a0), .int v1] D none DD := Mt_of (by decide) (Nat.le_of_ble_eq_true rfl) (fun G C => te_Text_begin C h0 hf)
def s_Text_behindBlanks_2 (a0 : Nat) (k2 : Int32 → Dt → Option (Int32 × Dt)) (v2 : Int32) (D : Dt) : Option (Int32 × Dt) :=
  (if (D a0 1) ≤ v2 then some (v2, D) else (if inb v2 60 = true then (if (D (a0 + 1) v2.toNatClampNeg) = 32 then k2 (v2 + 1) D else some (v2, D)) else none))
def lp_Text_behindBlanks_2 (a0 : Nat) (n : Nat) : Int32 → Dt → Option (Int32 × Dt) := itr (fun _ _ => none) (s_Text_behindBlanks_2 a0) n
set_option maxHeartbeats 4000000 in
theorem ts_Text_behindBlanks_2 {Γ : GmT} {G : Dt → Nat → List (Nat × Value) → List Value → Prop} {rr : Int32} {DD : Dt} {a0 : Nat} (C : Cx Γ "RiverTuesdays$Text" b_Text_behindBlanks 3 1 (some .int) (some (.int rr)) DD G) (h0 : kd a0 = 5) {k2 : Int32 → Dt → Option (Int32 × Dt)} (hk2 : ∀ (v2 : Int32) (D : Dt), k2 v2 D = some (rr, DD) → G D 2 [(0, .ref (Γ.2.1 a0)), (2, .int v2)] []) {v2 : Int32} {D : Dt} (hf : s_Text_behindBlanks_2 a0 k2 v2 D = some (rr, DD)) : G D 2 [(0, .ref (Γ.2.1 a0)), (2, .int v2)] [] := by
  unfold s_Text_behindBlanks_2 at hf
  refine r_iload_n (pc := 2) C 1 d_Text_behindBlanks_2 rfl rfl ?_
  refine r_aload_n (pc := 3) C 0 d_Text_behindBlanks_3 rfl rfl ?_
  refine g_Text_size (pc := 4) C h0 Lf_Text_15 d_Text_behindBlanks_4 ?_
  refine r_icmp_ge (pc := 7) C (tgt := 27) d_Text_behindBlanks_7 (by decide) hf (fun c7 hf => ?_) (fun c7 hf => ?_)
  · refine r_iload_n (pc := 27) C 1 d_Text_behindBlanks_27 rfl rfl ?_
    exact r_iret (pc := 28) C d_Text_behindBlanks_28 hf
  · refine r_aload_n (pc := 10) C 0 d_Text_behindBlanks_10 rfl rfl ?_
    refine g_Text_signs (pc := 11) C h0 Lf_Text_9 d_Text_behindBlanks_11 ?_
    refine r_iload_n (pc := 14) C 1 d_Text_behindBlanks_14 rfl rfl ?_
    refine r_bald (pc := 15) C (kq_Text_signs h0) d_Text_behindBlanks_15 hf (fun hf => ?_)
    refine r_bipush (pc := 16) C (v := 32) d_Text_behindBlanks_16 (by decide) ?_
    refine r_icmp_ne (pc := 18) C (tgt := 27) d_Text_behindBlanks_18 (by decide) hf (fun c18 hf => ?_) (fun c18 hf => ?_)
    · refine r_iload_n (pc := 27) C 1 d_Text_behindBlanks_27 rfl rfl ?_
      exact r_iret (pc := 28) C d_Text_behindBlanks_28 hf
    · refine r_iinc (pc := 21) C (v := v2 + 1) (lv' := [(2, .int (v2 + 1)), (0, .ref (Γ.2.1 a0))]) 1 d_Text_behindBlanks_21 rfl rfl (Nat.le_of_ble_eq_true rfl) rfl ?_
      refine r_goto (pc := 24) C (tgt := 2) d_Text_behindBlanks_24 (by decide) ?_
      exact r_lv (pc := 2) C [1, 0] rfl (hk2 (v2 + 1) D hf)
theorem tl_Text_behindBlanks_2 {Γ : GmT} {G : Dt → Nat → List (Nat × Value) → List Value → Prop} {rr : Int32} {DD : Dt} {a0 : Nat} (C : Cx Γ "RiverTuesdays$Text" b_Text_behindBlanks 3 1 (some .int) (some (.int rr)) DD G) (h0 : kd a0 = 5) : ∀ (n : Nat) (v2 : Int32) (D : Dt), lp_Text_behindBlanks_2 a0 n v2 D = some (rr, DD) → G D 2 [(0, .ref (Γ.2.1 a0)), (2, .int v2)] [] := by
  intro n
  induction n with
  | zero =>
    intro v2 D hf
    exact absurd (show (none : Option (Int32 × Dt)) = some (rr, DD) from hf) (by simp)
  | succ n ih =>
    intro v2 D hf
    exact ts_Text_behindBlanks_2 C h0 (k2 := lp_Text_behindBlanks_2 a0 n) ih hf
def f_Text_behindBlanks (a0 : Nat) (v1 : Int32) (D : Dt) : Option (Int32 × Dt) :=
  lp_Text_behindBlanks_2 a0 FU v1 D
set_option maxHeartbeats 4000000 in
theorem te_Text_behindBlanks {Γ : GmT} {G : Dt → Nat → List (Nat × Value) → List Value → Prop} {rr : Int32} {DD : Dt} {a0 : Nat} (C : Cx Γ "RiverTuesdays$Text" b_Text_behindBlanks 3 1 (some .int) (some (.int rr)) DD G) (h0 : kd a0 = 5) {v1 : Int32} {D : Dt} (hf : f_Text_behindBlanks a0 v1 D = some (rr, DD)) : G D 0 [(0, .ref (Γ.2.1 a0)), (1, .int v1)] [] := by
  unfold f_Text_behindBlanks at hf
  refine r_iload_n (pc := 0) C 1 d_Text_behindBlanks_0 rfl rfl ?_
  refine r_istore_n (pc := 1) (lv' := [(2, .int v1), (0, .ref (Γ.2.1 a0)), (1, .int v1)]) C d_Text_behindBlanks_1 rfl (Nat.le_of_ble_eq_true rfl) rfl ?_
  exact r_lv (pc := 2) C [1, 0] rfl (tl_Text_behindBlanks_2 C h0 FU v1 D hf)
theorem c_Text_behindBlanks (Γ : GmT) {a0 : Nat} {v1 : Int32} (h0 : kd a0 = 5) {D : Dt} {rr : Int32} {DD : Dt} (hf : f_Text_behindBlanks a0 v1 D = some (rr, DD)) : Mt Γ y_Text_behindBlanks b_Text_behindBlanks 3 (some .int) 1 [.ref (Γ.2.1 a0), .int v1] D (some (.int rr)) DD := Mt_of (by decide) (Nat.le_of_ble_eq_true rfl) (fun G C => te_Text_behindBlanks C h0 hf)
def b_Text_figureAt_35 (a0 : Nat) (v1 : Int32) (s0 : Int32) (D : Dt) : Option (Int32 × Dt) :=
  (if s0 = 0 then some ((-1), D) else (if inb v1 60 = true then some ((D (a0 + 1) v1.toNatClampNeg) - 48, D) else none))
set_option maxHeartbeats 4000000 in
theorem tb_Text_figureAt_35 {Γ : GmT} {G : Dt → Nat → List (Nat × Value) → List Value → Prop} {rr : Int32} {DD : Dt} {a0 : Nat} (C : Cx Γ "RiverTuesdays$Text" b_Text_figureAt 3 1 (some .int) (some (.int rr)) DD G) (h0 : kd a0 = 5) {v1 : Int32} {s0 : Int32} {D : Dt} (hf : b_Text_figureAt_35 a0 v1 s0 D = some (rr, DD)) : G D 35 [(0, .ref (Γ.2.1 a0)), (1, .int v1)] [.int s0] := by
  unfold b_Text_figureAt_35 at hf
  refine r_istore_n (pc := 35) (lv' := [(2, .int s0), (0, .ref (Γ.2.1 a0)), (1, .int v1)]) C d_Text_figureAt_35 rfl (Nat.le_of_ble_eq_true rfl) rfl ?_
  refine r_iload_n (pc := 36) C 0 d_Text_figureAt_36 rfl rfl ?_
  refine r_if_eq (pc := 37) C (tgt := 52) d_Text_figureAt_37 (by decide) hf (fun c37 hf => ?_) (fun c37 hf => ?_)
  · refine r_iconst (pc := 52) C (v := (-1)) d_Text_figureAt_52 (by decide) ?_
    exact r_iret (pc := 53) C d_Text_figureAt_53 hf
  · refine r_aload_n (pc := 40) C 1 d_Text_figureAt_40 rfl rfl ?_
    refine g_Text_signs (pc := 41) C h0 Lf_Text_9 d_Text_figureAt_41 ?_
    refine r_iload_n (pc := 44) C 2 d_Text_figureAt_44 rfl rfl ?_
    refine r_bald (pc := 45) C (kq_Text_signs h0) d_Text_figureAt_45 hf (fun hf => ?_)
    refine r_bipush (pc := 46) C (v := 48) d_Text_figureAt_46 (by decide) ?_
    refine r_isub (pc := 48) C d_Text_figureAt_48 ?_
    refine r_goto (pc := 49) C (tgt := 53) d_Text_figureAt_49 (by decide) ?_
    exact r_iret (pc := 53) C d_Text_figureAt_53 hf
def b_Text_figureAt_34 (a0 : Nat) (v1 : Int32) (D : Dt) : Option (Int32 × Dt) :=
  b_Text_figureAt_35 a0 v1 0 D
set_option maxHeartbeats 4000000 in
theorem tb_Text_figureAt_34 {Γ : GmT} {G : Dt → Nat → List (Nat × Value) → List Value → Prop} {rr : Int32} {DD : Dt} {a0 : Nat} (C : Cx Γ "RiverTuesdays$Text" b_Text_figureAt 3 1 (some .int) (some (.int rr)) DD G) (h0 : kd a0 = 5) {v1 : Int32} {D : Dt} (hf : b_Text_figureAt_34 a0 v1 D = some (rr, DD)) : G D 34 [(0, .ref (Γ.2.1 a0)), (1, .int v1)] [] := by
  unfold b_Text_figureAt_34 at hf
  refine r_iconst (pc := 34) C (v := 0) d_Text_figureAt_34 (by decide) ?_
  exact r_lv (pc := 35) C [0, 1] rfl (tb_Text_figureAt_35 C h0 hf)
def f_Text_figureAt (a0 : Nat) (v1 : Int32) (D : Dt) : Option (Int32 × Dt) :=
  (if (D a0 1) ≤ v1 then b_Text_figureAt_34 a0 v1 D else (if inb v1 60 = true then (if (D (a0 + 1) v1.toNatClampNeg) < 48 then b_Text_figureAt_34 a0 v1 D else (if inb v1 60 = true then (if 57 < (D (a0 + 1) v1.toNatClampNeg) then b_Text_figureAt_34 a0 v1 D else b_Text_figureAt_35 a0 v1 1 D) else none)) else none))
set_option maxHeartbeats 4000000 in
theorem te_Text_figureAt {Γ : GmT} {G : Dt → Nat → List (Nat × Value) → List Value → Prop} {rr : Int32} {DD : Dt} {a0 : Nat} (C : Cx Γ "RiverTuesdays$Text" b_Text_figureAt 3 1 (some .int) (some (.int rr)) DD G) (h0 : kd a0 = 5) {v1 : Int32} {D : Dt} (hf : f_Text_figureAt a0 v1 D = some (rr, DD)) : G D 0 [(0, .ref (Γ.2.1 a0)), (1, .int v1)] [] := by
  unfold f_Text_figureAt at hf
  refine r_iload_n (pc := 0) C 1 d_Text_figureAt_0 rfl rfl ?_
  refine r_aload_n (pc := 1) C 0 d_Text_figureAt_1 rfl rfl ?_
  refine g_Text_size (pc := 2) C h0 Lf_Text_15 d_Text_figureAt_2 ?_
  refine r_icmp_ge (pc := 5) C (tgt := 34) d_Text_figureAt_5 (by decide) hf (fun c5 hf => ?_) (fun c5 hf => ?_)
  · exact r_lv (pc := 34) C [0, 1] rfl (tb_Text_figureAt_34 C h0 hf)
  · refine r_aload_n (pc := 8) C 0 d_Text_figureAt_8 rfl rfl ?_
    refine g_Text_signs (pc := 9) C h0 Lf_Text_9 d_Text_figureAt_9 ?_
    refine r_iload_n (pc := 12) C 1 d_Text_figureAt_12 rfl rfl ?_
    refine r_bald (pc := 13) C (kq_Text_signs h0) d_Text_figureAt_13 hf (fun hf => ?_)
    refine r_bipush (pc := 14) C (v := 48) d_Text_figureAt_14 (by decide) ?_
    refine r_icmp_lt (pc := 16) C (tgt := 34) d_Text_figureAt_16 (by decide) hf (fun c16 hf => ?_) (fun c16 hf => ?_)
    · exact r_lv (pc := 34) C [0, 1] rfl (tb_Text_figureAt_34 C h0 hf)
    · refine r_aload_n (pc := 19) C 0 d_Text_figureAt_19 rfl rfl ?_
      refine g_Text_signs (pc := 20) C h0 Lf_Text_9 d_Text_figureAt_20 ?_
      refine r_iload_n (pc := 23) C 1 d_Text_figureAt_23 rfl rfl ?_
      refine r_bald (pc := 24) C (kq_Text_signs h0) d_Text_figureAt_24 hf (fun hf => ?_)
      refine r_bipush (pc := 25) C (v := 57) d_Text_figureAt_25 (by decide) ?_
      refine r_icmp_gt (pc := 27) C (tgt := 34) d_Text_figureAt_27 (by decide) hf (fun c27 hf => ?_) (fun c27 hf => ?_)
      · exact r_lv (pc := 34) C [0, 1] rfl (tb_Text_figureAt_34 C h0 hf)
      · refine r_iconst (pc := 30) C (v := 1) d_Text_figureAt_30 (by decide) ?_
        refine r_goto (pc := 31) C (tgt := 35) d_Text_figureAt_31 (by decide) ?_
        exact r_lv (pc := 35) C [0, 1] rfl (tb_Text_figureAt_35 C h0 hf)
theorem c_Text_figureAt (Γ : GmT) {a0 : Nat} {v1 : Int32} (h0 : kd a0 = 5) {D : Dt} {rr : Int32} {DD : Dt} (hf : f_Text_figureAt a0 v1 D = some (rr, DD)) : Mt Γ y_Text_figureAt b_Text_figureAt 3 (some .int) 1 [.ref (Γ.2.1 a0), .int v1] D (some (.int rr)) DD := Mt_of (by decide) (Nat.le_of_ble_eq_true rfl) (fun G C => te_Text_figureAt C h0 hf)
def f_Text_kindAt (a0 : Nat) (v1 : Int32) (D : Dt) : Option (Int32 × Dt) :=
  (if inb v1 60 = true then (if (D (a0 + 1) v1.toNatClampNeg) = 100 then some (3, D) else (if (D (a0 + 1) v1.toNatClampNeg) = 104 then some (0, D) else (if (D (a0 + 1) v1.toNatClampNeg) = 108 then some (5, D) else (if (D (a0 + 1) v1.toNatClampNeg) = 109 then some (1, D) else (if (D (a0 + 1) v1.toNatClampNeg) = 115 then some (2, D) else (if (D (a0 + 1) v1.toNatClampNeg) = 119 then some (4, D) else some ((-1), D))))))) else none)
set_option maxHeartbeats 4000000 in
theorem te_Text_kindAt {Γ : GmT} {G : Dt → Nat → List (Nat × Value) → List Value → Prop} {rr : Int32} {DD : Dt} {a0 : Nat} (C : Cx Γ "RiverTuesdays$Text" b_Text_kindAt 2 1 (some .int) (some (.int rr)) DD G) (h0 : kd a0 = 5) {v1 : Int32} {D : Dt} (hf : f_Text_kindAt a0 v1 D = some (rr, DD)) : G D 0 [(0, .ref (Γ.2.1 a0)), (1, .int v1)] [] := by
  unfold f_Text_kindAt at hf
  refine r_aload_n (pc := 0) C 0 d_Text_kindAt_0 rfl rfl ?_
  refine g_Text_signs (pc := 1) C h0 Lf_Text_9 d_Text_kindAt_1 ?_
  refine r_iload_n (pc := 4) C 1 d_Text_kindAt_4 rfl rfl ?_
  refine r_bald (pc := 5) C (kq_Text_signs h0) d_Text_kindAt_5 hf (fun hf => ?_)
  by_cases q6_0 : (D (a0 + 1) v1.toNatClampNeg) = 100
  · rw [if_pos q6_0] at hf
    refine r_tsK (pc := 6) (tgt := 106) C q6_0 d_Text_kindAt_6 (by decide) (by decide) (off := 100) (by decide) (by decide) ?_
    refine r_iconst (pc := 106) C (v := 3) d_Text_kindAt_106 (by decide) ?_
    exact r_iret (pc := 107) C d_Text_kindAt_107 hf
  rw [if_neg q6_0] at hf
  by_cases q6_1 : (D (a0 + 1) v1.toNatClampNeg) = 104
  · rw [if_pos q6_1] at hf
    refine r_tsK (pc := 6) (tgt := 100) C q6_1 d_Text_kindAt_6 (by decide) (by decide) (off := 94) (by decide) (by decide) ?_
    refine r_iconst (pc := 100) C (v := 0) d_Text_kindAt_100 (by decide) ?_
    exact r_iret (pc := 101) C d_Text_kindAt_101 hf
  rw [if_neg q6_1] at hf
  by_cases q6_2 : (D (a0 + 1) v1.toNatClampNeg) = 108
  · rw [if_pos q6_2] at hf
    refine r_tsK (pc := 6) (tgt := 110) C q6_2 d_Text_kindAt_6 (by decide) (by decide) (off := 104) (by decide) (by decide) ?_
    refine r_iconst (pc := 110) C (v := 5) d_Text_kindAt_110 (by decide) ?_
    exact r_iret (pc := 111) C d_Text_kindAt_111 hf
  rw [if_neg q6_2] at hf
  by_cases q6_3 : (D (a0 + 1) v1.toNatClampNeg) = 109
  · rw [if_pos q6_3] at hf
    refine r_tsK (pc := 6) (tgt := 102) C q6_3 d_Text_kindAt_6 (by decide) (by decide) (off := 96) (by decide) (by decide) ?_
    refine r_iconst (pc := 102) C (v := 1) d_Text_kindAt_102 (by decide) ?_
    exact r_iret (pc := 103) C d_Text_kindAt_103 hf
  rw [if_neg q6_3] at hf
  by_cases q6_4 : (D (a0 + 1) v1.toNatClampNeg) = 115
  · rw [if_pos q6_4] at hf
    refine r_tsK (pc := 6) (tgt := 104) C q6_4 d_Text_kindAt_6 (by decide) (by decide) (off := 98) (by decide) (by decide) ?_
    refine r_iconst (pc := 104) C (v := 2) d_Text_kindAt_104 (by decide) ?_
    exact r_iret (pc := 105) C d_Text_kindAt_105 hf
  rw [if_neg q6_4] at hf
  by_cases q6_5 : (D (a0 + 1) v1.toNatClampNeg) = 119
  · rw [if_pos q6_5] at hf
    refine r_tsK (pc := 6) (tgt := 108) C q6_5 d_Text_kindAt_6 (by decide) (by decide) (off := 102) (by decide) (by decide) ?_
    refine r_iconst (pc := 108) C (v := 4) d_Text_kindAt_108 (by decide) ?_
    exact r_iret (pc := 109) C d_Text_kindAt_109 hf
  rw [if_neg q6_5] at hf
  refine r_tsD (pc := 6) (tgt := 112) C [100, 104, 108, 109, 115, 119] (by simp only [List.mem_cons, List.not_mem_nil, not_or, or_false]; exact ⟨q6_0, q6_1, q6_2, q6_3, q6_4, q6_5⟩) d_Text_kindAt_6 (by decide) (by decide) (by decide) ?_
  refine r_iconst (pc := 112) C (v := (-1)) d_Text_kindAt_112 (by decide) ?_
  exact r_iret (pc := 113) C d_Text_kindAt_113 hf
theorem c_Text_kindAt (Γ : GmT) {a0 : Nat} {v1 : Int32} (h0 : kd a0 = 5) {D : Dt} {rr : Int32} {DD : Dt} (hf : f_Text_kindAt a0 v1 D = some (rr, DD)) : Mt Γ y_Text_kindAt b_Text_kindAt 2 (some .int) 1 [.ref (Γ.2.1 a0), .int v1] D (some (.int rr)) DD := Mt_of (by decide) (Nat.le_of_ble_eq_true rfl) (fun G C => te_Text_kindAt C h0 hf)
def s_Text_foldedInto_14 (a0 : Nat) (k14 : Int64 → Int32 → Dt → Option (Int64 × Dt)) (v1 : Int64) (v3 : Int32) (D : Dt) : Option (Int64 × Dt) :=
  (if (D a0 1) ≤ v3 then some (v1, D) else (if inb v3 60 = true then nm ((31 * v1) + ((D (a0 + 1) v3.toNatClampNeg).toInt64)) (fun x1 => k14 x1 (v3 + 1) D) else none))
def lp_Text_foldedInto_14 (a0 : Nat) (n : Nat) : Int64 → Int32 → Dt → Option (Int64 × Dt) := itr (fun _ _ _ => none) (s_Text_foldedInto_14 a0) n
set_option maxHeartbeats 4000000 in
theorem ts_Text_foldedInto_14 {Γ : GmT} {G : Dt → Nat → List (Nat × Value) → List Value → Prop} {rr : Int64} {DD : Dt} {a0 : Nat} (C : Cx Γ "RiverTuesdays$Text" b_Text_foldedInto 4 1 (some .long) (some (.long rr)) DD G) (h0 : kd a0 = 5) {k14 : Int64 → Int32 → Dt → Option (Int64 × Dt)} (hk14 : ∀ (v1 : Int64) (v3 : Int32) (D : Dt), k14 v1 v3 D = some (rr, DD) → G D 14 [(0, .ref (Γ.2.1 a0)), (1, .long v1), (3, .int v3)] []) {v1 : Int64} {v3 : Int32} {D : Dt} (hf : s_Text_foldedInto_14 a0 k14 v1 v3 D = some (rr, DD)) : G D 14 [(0, .ref (Γ.2.1 a0)), (1, .long v1), (3, .int v3)] [] := by
  unfold s_Text_foldedInto_14 at hf
  refine r_iload_n (pc := 14) C 2 d_Text_foldedInto_14 rfl rfl ?_
  refine r_aload_n (pc := 15) C 0 d_Text_foldedInto_15 rfl rfl ?_
  refine g_Text_size (pc := 16) C h0 Lf_Text_15 d_Text_foldedInto_16 ?_
  refine r_icmp_ge (pc := 19) C (tgt := 42) d_Text_foldedInto_19 (by decide) hf (fun c19 hf => ?_) (fun c19 hf => ?_)
  · refine r_lload_n (pc := 42) C 1 d_Text_foldedInto_42 rfl rfl ?_
    exact r_lret (pc := 43) C d_Text_foldedInto_43 hf
  · refine r_ldc2 (pc := 22) C Lc_Text_25 d_Text_foldedInto_22 ?_
    refine r_lload_n (pc := 25) C 1 d_Text_foldedInto_25 rfl rfl ?_
    refine r_lmul (pc := 26) C d_Text_foldedInto_26 ?_
    refine r_aload_n (pc := 27) C 0 d_Text_foldedInto_27 rfl rfl ?_
    refine g_Text_signs (pc := 28) C h0 Lf_Text_9 d_Text_foldedInto_28 ?_
    refine r_iload_n (pc := 31) C 2 d_Text_foldedInto_31 rfl rfl ?_
    refine r_bald (pc := 32) C (kq_Text_signs h0) d_Text_foldedInto_32 hf (fun hf => ?_)
    refine r_i2l (pc := 33) C d_Text_foldedInto_33 ?_
    refine r_ladd (pc := 34) C d_Text_foldedInto_34 ?_
    refine r_nml (pc := 35) hf (fun x1 hf => ?_)
    refine r_lstore_n (pc := 35) (lv' := [(1, .long x1), (0, .ref (Γ.2.1 a0)), (3, .int v3)]) C d_Text_foldedInto_35 rfl (Nat.le_of_ble_eq_true rfl) rfl ?_
    refine r_iinc (pc := 36) C (v := v3 + 1) (lv' := [(3, .int (v3 + 1)), (1, .long x1), (0, .ref (Γ.2.1 a0))]) 2 d_Text_foldedInto_36 rfl rfl (Nat.le_of_ble_eq_true rfl) rfl ?_
    refine r_goto (pc := 39) C (tgt := 14) d_Text_foldedInto_39 (by decide) ?_
    exact r_lv (pc := 14) C [2, 1, 0] rfl (hk14 x1 (v3 + 1) D hf)
theorem tl_Text_foldedInto_14 {Γ : GmT} {G : Dt → Nat → List (Nat × Value) → List Value → Prop} {rr : Int64} {DD : Dt} {a0 : Nat} (C : Cx Γ "RiverTuesdays$Text" b_Text_foldedInto 4 1 (some .long) (some (.long rr)) DD G) (h0 : kd a0 = 5) : ∀ (n : Nat) (v1 : Int64) (v3 : Int32) (D : Dt), lp_Text_foldedInto_14 a0 n v1 v3 D = some (rr, DD) → G D 14 [(0, .ref (Γ.2.1 a0)), (1, .long v1), (3, .int v3)] [] := by
  intro n
  induction n with
  | zero =>
    intro v1 v3 D hf
    exact absurd (show (none : Option (Int64 × Dt)) = some (rr, DD) from hf) (by simp)
  | succ n ih =>
    intro v1 v3 D hf
    exact ts_Text_foldedInto_14 C h0 (k14 := lp_Text_foldedInto_14 a0 n) ih hf
def f_Text_foldedInto (a0 : Nat) (v1 : Int64) (D : Dt) : Option (Int64 × Dt) :=
  lp_Text_foldedInto_14 a0 FU ((31 * v1) + ((D a0 1).toInt64)) 0 D
set_option maxHeartbeats 4000000 in
theorem te_Text_foldedInto {Γ : GmT} {G : Dt → Nat → List (Nat × Value) → List Value → Prop} {rr : Int64} {DD : Dt} {a0 : Nat} (C : Cx Γ "RiverTuesdays$Text" b_Text_foldedInto 4 1 (some .long) (some (.long rr)) DD G) (h0 : kd a0 = 5) {v1 : Int64} {D : Dt} (hf : f_Text_foldedInto a0 v1 D = some (rr, DD)) : G D 0 [(0, .ref (Γ.2.1 a0)), (1, .long v1)] [] := by
  unfold f_Text_foldedInto at hf
  refine r_ldc2 (pc := 0) C Lc_Text_25 d_Text_foldedInto_0 ?_
  refine r_lload_n (pc := 3) C 1 d_Text_foldedInto_3 rfl rfl ?_
  refine r_lmul (pc := 4) C d_Text_foldedInto_4 ?_
  refine r_aload_n (pc := 5) C 0 d_Text_foldedInto_5 rfl rfl ?_
  refine g_Text_size (pc := 6) C h0 Lf_Text_15 d_Text_foldedInto_6 ?_
  refine r_i2l (pc := 9) C d_Text_foldedInto_9 ?_
  refine r_ladd (pc := 10) C d_Text_foldedInto_10 ?_
  refine r_lstore_n (pc := 11) (lv' := [(1, .long ((31 * v1) + ((D a0 1).toInt64))), (0, .ref (Γ.2.1 a0))]) C d_Text_foldedInto_11 rfl (Nat.le_of_ble_eq_true rfl) rfl ?_
  refine r_iconst (pc := 12) C (v := 0) d_Text_foldedInto_12 (by decide) ?_
  refine r_istore_n (pc := 13) (lv' := [(3, .int 0), (1, .long ((31 * v1) + ((D a0 1).toInt64))), (0, .ref (Γ.2.1 a0))]) C d_Text_foldedInto_13 rfl (Nat.le_of_ble_eq_true rfl) rfl ?_
  exact r_lv (pc := 14) C [2, 1, 0] rfl (tl_Text_foldedInto_14 C h0 FU ((31 * v1) + ((D a0 1).toInt64)) 0 D hf)
theorem c_Text_foldedInto (Γ : GmT) {a0 : Nat} {v1 : Int64} (h0 : kd a0 = 5) {D : Dt} {rr : Int64} {DD : Dt} (hf : f_Text_foldedInto a0 v1 D = some (rr, DD)) : Mt Γ y_Text_foldedInto b_Text_foldedInto 4 (some .long) 1 [.ref (Γ.2.1 a0), .long v1] D (some (.long rr)) DD := Mt_of (by decide) (Nat.le_of_ble_eq_true rfl) (fun G C => te_Text_foldedInto C h0 hf)
def f_Bed_takeFrom (a0 : Nat) (a1 : Nat) (D : Dt) : Option (Unit × Dt) :=
  (if ¬ (0 : Int32) < 0 ∧ ¬ (0 : Int32) < 0 ∧ ¬ (8 : Int32) < 0 ∧ (0 : Int32).toNatClampNeg + (8 : Int32).toNatClampNeg ≤ 8 ∧ (0 : Int32).toNatClampNeg + (8 : Int32).toNatClampNeg ≤ 8 then nm (st D (a0 + 1) (va_cpy (D (a1 + 1)) (D (a0 + 1)) (0 : Int32).toNatClampNeg (0 : Int32).toNatClampNeg (8 : Int32).toNatClampNeg)) (fun D1 => (if ¬ (0 : Int32) < 0 ∧ ¬ (0 : Int32) < 0 ∧ ¬ (8 : Int32) < 0 ∧ (0 : Int32).toNatClampNeg + (8 : Int32).toNatClampNeg ≤ 8 ∧ (0 : Int32).toNatClampNeg + (8 : Int32).toNatClampNeg ≤ 8 then nm (st D1 (a0 + 2) (va_cpy (D1 (a1 + 2)) (D1 (a0 + 2)) (0 : Int32).toNatClampNeg (0 : Int32).toNatClampNeg (8 : Int32).toNatClampNeg)) (fun D2 => (if ¬ (0 : Int32) < 0 ∧ ¬ (0 : Int32) < 0 ∧ ¬ (8 : Int32) < 0 ∧ (0 : Int32).toNatClampNeg + (8 : Int32).toNatClampNeg ≤ 8 ∧ (0 : Int32).toNatClampNeg + (8 : Int32).toNatClampNeg ≤ 8 then nm (st D2 (a0 + 3) (va_cpy (D2 (a1 + 3)) (D2 (a0 + 3)) (0 : Int32).toNatClampNeg (0 : Int32).toNatClampNeg (8 : Int32).toNatClampNeg)) (fun D3 => (if ¬ (0 : Int32) < 0 ∧ ¬ (0 : Int32) < 0 ∧ ¬ (8 : Int32) < 0 ∧ (0 : Int32).toNatClampNeg + (8 : Int32).toNatClampNeg ≤ 8 ∧ (0 : Int32).toNatClampNeg + (8 : Int32).toNatClampNeg ≤ 8 then nm (st D3 (a0 + 4) (va_cpy (D3 (a1 + 4)) (D3 (a0 + 4)) (0 : Int32).toNatClampNeg (0 : Int32).toNatClampNeg (8 : Int32).toNatClampNeg)) (fun D4 => (if ¬ (0 : Int32) < 0 ∧ ¬ (0 : Int32) < 0 ∧ ¬ (8 : Int32) < 0 ∧ (0 : Int32).toNatClampNeg + (8 : Int32).toNatClampNeg ≤ 8 ∧ (0 : Int32).toNatClampNeg + (8 : Int32).toNatClampNeg ≤ 8 then nm (st D4 (a0 + 5) (va_cpy (D4 (a1 + 5)) (D4 (a0 + 5)) (0 : Int32).toNatClampNeg (0 : Int32).toNatClampNeg (8 : Int32).toNatClampNeg)) (fun D5 => nm (wr D5 a0 5 (D5 a1 5)) (fun D6 => nm (wr D6 a0 6 (D6 a1 6)) (fun D7 => nm (wr D7 a0 7 (D7 a1 7)) (fun D8 => some ((), D8))))) else none)) else none)) else none)) else none)) else none)
set_option maxHeartbeats 4000000 in
theorem te_Bed_takeFrom {Γ : GmT} {G : Dt → Nat → List (Nat × Value) → List Value → Prop} {rr : Unit} {DD : Dt} {a0 : Nat} {a1 : Nat} (C : Cx Γ "RiverTuesdays$Bed" b_Bed_takeFrom 2 2 none none DD G) (h0 : kd a0 = 0) (h1 : kd a1 = 0) {D : Dt} (hf : f_Bed_takeFrom a0 a1 D = some (rr, DD)) : G D 0 [(0, .ref (Γ.2.1 a0)), (1, .ref (Γ.2.1 a1))] [] := by
  unfold f_Bed_takeFrom at hf
  refine r_aload_n (pc := 0) C 1 d_Bed_takeFrom_0 rfl rfl ?_
  refine g_Bed_kinds (pc := 1) C h1 Lf_Bed_9 d_Bed_takeFrom_1 ?_
  refine r_iconst (pc := 4) C (v := 0) d_Bed_takeFrom_4 (by decide) ?_
  refine r_aload_n (pc := 5) C 0 d_Bed_takeFrom_5 rfl rfl ?_
  refine g_Bed_kinds (pc := 6) C h0 Lf_Bed_9 d_Bed_takeFrom_6 ?_
  refine r_iconst (pc := 9) C (v := 0) d_Bed_takeFrom_9 (by decide) ?_
  refine r_bipush (pc := 10) C (v := 8) d_Bed_takeFrom_10 (by decide) ?_
  refine r_acopy (pc := 12) C (kq_Bed_kinds h1) (kq_Bed_kinds h0) Lm_Bed_27 acw1 acw2 acw3 (by decide) (Nat.le_of_ble_eq_true rfl) d_Bed_takeFrom_12 hf (fun hf => ?_)
  refine r_nmD hf (fun D1 hf => ?_)
  refine r_aload_n (pc := 15) C 1 d_Bed_takeFrom_15 rfl rfl ?_
  refine g_Bed_ground (pc := 16) C h1 Lf_Bed_15 d_Bed_takeFrom_16 ?_
  refine r_iconst (pc := 19) C (v := 0) d_Bed_takeFrom_19 (by decide) ?_
  refine r_aload_n (pc := 20) C 0 d_Bed_takeFrom_20 rfl rfl ?_
  refine g_Bed_ground (pc := 21) C h0 Lf_Bed_15 d_Bed_takeFrom_21 ?_
  refine r_iconst (pc := 24) C (v := 0) d_Bed_takeFrom_24 (by decide) ?_
  refine r_bipush (pc := 25) C (v := 8) d_Bed_takeFrom_25 (by decide) ?_
  refine r_acopy (pc := 27) C (kq_Bed_ground h1) (kq_Bed_ground h0) Lm_Bed_27 acw1 acw2 acw3 (by decide) (Nat.le_of_ble_eq_true rfl) d_Bed_takeFrom_27 hf (fun hf => ?_)
  refine r_nmD hf (fun D2 hf => ?_)
  refine r_aload_n (pc := 30) C 1 d_Bed_takeFrom_30 rfl rfl ?_
  refine g_Bed_height (pc := 31) C h1 Lf_Bed_18 d_Bed_takeFrom_31 ?_
  refine r_iconst (pc := 34) C (v := 0) d_Bed_takeFrom_34 (by decide) ?_
  refine r_aload_n (pc := 35) C 0 d_Bed_takeFrom_35 rfl rfl ?_
  refine g_Bed_height (pc := 36) C h0 Lf_Bed_18 d_Bed_takeFrom_36 ?_
  refine r_iconst (pc := 39) C (v := 0) d_Bed_takeFrom_39 (by decide) ?_
  refine r_bipush (pc := 40) C (v := 8) d_Bed_takeFrom_40 (by decide) ?_
  refine r_acopy (pc := 42) C (kq_Bed_height h1) (kq_Bed_height h0) Lm_Bed_27 acw1 acw2 acw3 (by decide) (Nat.le_of_ble_eq_true rfl) d_Bed_takeFrom_42 hf (fun hf => ?_)
  refine r_nmD hf (fun D3 hf => ?_)
  refine r_aload_n (pc := 45) C 1 d_Bed_takeFrom_45 rfl rfl ?_
  refine g_Bed_cellar (pc := 46) C h1 Lf_Bed_21 d_Bed_takeFrom_46 ?_
  refine r_iconst (pc := 49) C (v := 0) d_Bed_takeFrom_49 (by decide) ?_
  refine r_aload_n (pc := 50) C 0 d_Bed_takeFrom_50 rfl rfl ?_
  refine g_Bed_cellar (pc := 51) C h0 Lf_Bed_21 d_Bed_takeFrom_51 ?_
  refine r_iconst (pc := 54) C (v := 0) d_Bed_takeFrom_54 (by decide) ?_
  refine r_bipush (pc := 55) C (v := 8) d_Bed_takeFrom_55 (by decide) ?_
  refine r_acopy (pc := 57) C (kq_Bed_cellar h1) (kq_Bed_cellar h0) Lm_Bed_27 acw1 acw2 acw3 (by decide) (Nat.le_of_ble_eq_true rfl) d_Bed_takeFrom_57 hf (fun hf => ?_)
  refine r_nmD hf (fun D4 hf => ?_)
  refine r_aload_n (pc := 60) C 1 d_Bed_takeFrom_60 rfl rfl ?_
  refine g_Bed_shutBit (pc := 61) C h1 Lf_Bed_24 d_Bed_takeFrom_61 ?_
  refine r_iconst (pc := 64) C (v := 0) d_Bed_takeFrom_64 (by decide) ?_
  refine r_aload_n (pc := 65) C 0 d_Bed_takeFrom_65 rfl rfl ?_
  refine g_Bed_shutBit (pc := 66) C h0 Lf_Bed_24 d_Bed_takeFrom_66 ?_
  refine r_iconst (pc := 69) C (v := 0) d_Bed_takeFrom_69 (by decide) ?_
  refine r_bipush (pc := 70) C (v := 8) d_Bed_takeFrom_70 (by decide) ?_
  refine r_acopy (pc := 72) C (kq_Bed_shutBit h1) (kq_Bed_shutBit h0) Lm_Bed_27 acw1 acw2 acw3 (by decide) (Nat.le_of_ble_eq_true rfl) d_Bed_takeFrom_72 hf (fun hf => ?_)
  refine r_nmD hf (fun D5 hf => ?_)
  refine r_aload_n (pc := 75) C 0 d_Bed_takeFrom_75 rfl rfl ?_
  refine r_aload_n (pc := 76) C 1 d_Bed_takeFrom_76 rfl rfl ?_
  refine g_Bed_houses (pc := 77) C h1 Lf_Bed_33 d_Bed_takeFrom_77 ?_
  refine p_Bed_houses (pc := 80) C h0 Lf_Bed_33 d_Bed_takeFrom_80 ?_
  refine r_nmD hf (fun D6 hf => ?_)
  refine r_aload_n (pc := 83) C 0 d_Bed_takeFrom_83 rfl rfl ?_
  refine r_aload_n (pc := 84) C 1 d_Bed_takeFrom_84 rfl rfl ?_
  refine g_Bed_inflow (pc := 85) C h1 Lf_Bed_37 d_Bed_takeFrom_85 ?_
  refine p_Bed_inflow (pc := 88) C h0 Lf_Bed_37 d_Bed_takeFrom_88 ?_
  refine r_nmD hf (fun D7 hf => ?_)
  refine r_aload_n (pc := 91) C 0 d_Bed_takeFrom_91 rfl rfl ?_
  refine r_aload_n (pc := 92) C 1 d_Bed_takeFrom_92 rfl rfl ?_
  refine g_Bed_sea (pc := 93) C h1 Lf_Bed_40 d_Bed_takeFrom_93 ?_
  refine p_Bed_sea (pc := 96) C h0 Lf_Bed_40 d_Bed_takeFrom_96 ?_
  refine r_nmD hf (fun D8 hf => ?_)
  exact r_vret (pc := 99) C d_Bed_takeFrom_99 hf
theorem c_Bed_takeFrom (Γ : GmT) {a0 : Nat} {a1 : Nat} (h0 : kd a0 = 0) (h1 : kd a1 = 0) {D : Dt} {rr : Unit} {DD : Dt} (hf : f_Bed_takeFrom a0 a1 D = some (rr, DD)) : Mt Γ y_Bed_takeFrom b_Bed_takeFrom 2 none 2 [.ref (Γ.2.1 a0), .ref (Γ.2.1 a1)] D none DD := Mt_of (by decide) (Nat.le_of_ble_eq_true rfl) (fun G C => te_Bed_takeFrom C h0 h1 hf)
def f_Bed_hasHouse (a0 : Nat) (v1 : Int32) (D : Dt) : Option (Int32 × Dt) :=
  (if v1 < 0 then some (0, D) else (if (D a0 5) ≤ v1 then some (0, D) else some (1, D)))
set_option maxHeartbeats 4000000 in
theorem te_Bed_hasHouse {Γ : GmT} {G : Dt → Nat → List (Nat × Value) → List Value → Prop} {rr : Int32} {DD : Dt} {a0 : Nat} (C : Cx Γ "RiverTuesdays$Bed" b_Bed_hasHouse 2 1 (some .boolean) (some (.int rr)) DD G) (h0 : kd a0 = 0) {v1 : Int32} {D : Dt} (hf : f_Bed_hasHouse a0 v1 D = some (rr, DD)) : G D 0 [(0, .ref (Γ.2.1 a0)), (1, .int v1)] [] := by
  unfold f_Bed_hasHouse at hf
  refine r_iload_n (pc := 0) C 1 d_Bed_hasHouse_0 rfl rfl ?_
  refine r_if_lt (pc := 1) C (tgt := 16) d_Bed_hasHouse_1 (by decide) hf (fun c1 hf => ?_) (fun c1 hf => ?_)
  · refine r_iconst (pc := 16) C (v := 0) d_Bed_hasHouse_16 (by decide) ?_
    exact r_zret (pc := 17) C d_Bed_hasHouse_17 rfl hf
  · refine r_iload_n (pc := 4) C 1 d_Bed_hasHouse_4 rfl rfl ?_
    refine r_aload_n (pc := 5) C 0 d_Bed_hasHouse_5 rfl rfl ?_
    refine g_Bed_houses (pc := 6) C h0 Lf_Bed_33 d_Bed_hasHouse_6 ?_
    refine r_icmp_ge (pc := 9) C (tgt := 16) d_Bed_hasHouse_9 (by decide) hf (fun c9 hf => ?_) (fun c9 hf => ?_)
    · refine r_iconst (pc := 16) C (v := 0) d_Bed_hasHouse_16 (by decide) ?_
      exact r_zret (pc := 17) C d_Bed_hasHouse_17 rfl hf
    · refine r_iconst (pc := 12) C (v := 1) d_Bed_hasHouse_12 (by decide) ?_
      refine r_goto (pc := 13) C (tgt := 17) d_Bed_hasHouse_13 (by decide) ?_
      exact r_zret (pc := 17) C d_Bed_hasHouse_17 rfl hf
theorem c_Bed_hasHouse (Γ : GmT) {a0 : Nat} {v1 : Int32} (h0 : kd a0 = 0) {D : Dt} {rr : Int32} {DD : Dt} (hf : f_Bed_hasHouse a0 v1 D = some (rr, DD)) : Mt Γ y_Bed_hasHouse b_Bed_hasHouse 2 (some .boolean) 1 [.ref (Γ.2.1 a0), .int v1] D (some (.int rr)) DD := Mt_of (by decide) (Nat.le_of_ble_eq_true rfl) (fun G C => te_Bed_hasHouse C h0 hf)
def b_Bed_isOfKind_32 (a0 : Nat) (D : Dt) : Option (Int32 × Dt) :=
  some (1, D)
set_option maxHeartbeats 4000000 in
theorem tb_Bed_isOfKind_32 {Γ : GmT} {G : Dt → Nat → List (Nat × Value) → List Value → Prop} {rr : Int32} {DD : Dt} {a0 : Nat} (C : Cx Γ "RiverTuesdays$Bed" b_Bed_isOfKind 4 1 (some .boolean) (some (.int rr)) DD G) (h0 : kd a0 = 0) {D : Dt} (hf : b_Bed_isOfKind_32 a0 D = some (rr, DD)) : G D 32 [] [] := by
  unfold b_Bed_isOfKind_32 at hf
  refine r_iconst (pc := 32) C (v := 1) d_Bed_isOfKind_32 (by decide) ?_
  refine r_goto (pc := 33) C (tgt := 37) d_Bed_isOfKind_33 (by decide) ?_
  exact r_zret (pc := 37) C d_Bed_isOfKind_37 rfl hf
def b_Bed_isOfKind_22 (a0 : Nat) (v2 : Int32) (v3 : Int32) (D : Dt) : Option (Int32 × Dt) :=
  (if v3 = 5 then (if v2 = 3 then b_Bed_isOfKind_32 a0 D else some (0, D)) else some (0, D))
set_option maxHeartbeats 4000000 in
theorem tb_Bed_isOfKind_22 {Γ : GmT} {G : Dt → Nat → List (Nat × Value) → List Value → Prop} {rr : Int32} {DD : Dt} {a0 : Nat} (C : Cx Γ "RiverTuesdays$Bed" b_Bed_isOfKind 4 1 (some .boolean) (some (.int rr)) DD G) (h0 : kd a0 = 0) {v2 : Int32} {v3 : Int32} {D : Dt} (hf : b_Bed_isOfKind_22 a0 v2 v3 D = some (rr, DD)) : G D 22 [(2, .int v2), (3, .int v3)] [] := by
  unfold b_Bed_isOfKind_22 at hf
  refine r_iload_n (pc := 22) C 1 d_Bed_isOfKind_22 rfl rfl ?_
  refine r_iconst (pc := 23) C (v := 5) d_Bed_isOfKind_23 (by decide) ?_
  refine r_icmp_ne (pc := 24) C (tgt := 36) d_Bed_isOfKind_24 (by decide) hf (fun c24 hf => ?_) (fun c24 hf => ?_)
  · refine r_iconst (pc := 36) C (v := 0) d_Bed_isOfKind_36 (by decide) ?_
    exact r_zret (pc := 37) C d_Bed_isOfKind_37 rfl hf
  · refine r_iload_n (pc := 27) C 0 d_Bed_isOfKind_27 rfl rfl ?_
    refine r_iconst (pc := 28) C (v := 3) d_Bed_isOfKind_28 (by decide) ?_
    refine r_icmp_ne (pc := 29) C (tgt := 36) d_Bed_isOfKind_29 (by decide) hf (fun c29 hf => ?_) (fun c29 hf => ?_)
    · refine r_iconst (pc := 36) C (v := 0) d_Bed_isOfKind_36 (by decide) ?_
      exact r_zret (pc := 37) C d_Bed_isOfKind_37 rfl hf
    · exact r_lv (pc := 32) C [] rfl (tb_Bed_isOfKind_32 C h0 hf)
def f_Bed_isOfKind (a0 : Nat) (v1 : Int32) (v2 : Int32) (D : Dt) : Option (Int32 × Dt) :=
  (if inb v1 8 = true then (if (D (a0 + 1) v1.toNatClampNeg) = v2 then b_Bed_isOfKind_32 a0 D else (if (D (a0 + 1) v1.toNatClampNeg) = 4 then (if v2 = 1 then b_Bed_isOfKind_32 a0 D else b_Bed_isOfKind_22 a0 v2 (D (a0 + 1) v1.toNatClampNeg) D) else b_Bed_isOfKind_22 a0 v2 (D (a0 + 1) v1.toNatClampNeg) D)) else none)
set_option maxHeartbeats 4000000 in
theorem te_Bed_isOfKind {Γ : GmT} {G : Dt → Nat → List (Nat × Value) → List Value → Prop} {rr : Int32} {DD : Dt} {a0 : Nat} (C : Cx Γ "RiverTuesdays$Bed" b_Bed_isOfKind 4 1 (some .boolean) (some (.int rr)) DD G) (h0 : kd a0 = 0) {v1 : Int32} {v2 : Int32} {D : Dt} (hf : f_Bed_isOfKind a0 v1 v2 D = some (rr, DD)) : G D 0 [(0, .ref (Γ.2.1 a0)), (1, .int v1), (2, .int v2)] [] := by
  unfold f_Bed_isOfKind at hf
  refine r_aload_n (pc := 0) C 0 d_Bed_isOfKind_0 rfl rfl ?_
  refine g_Bed_kinds (pc := 1) C h0 Lf_Bed_9 d_Bed_isOfKind_1 ?_
  refine r_iload_n (pc := 4) C 1 d_Bed_isOfKind_4 rfl rfl ?_
  refine r_iald (pc := 5) C (kq_Bed_kinds h0) d_Bed_isOfKind_5 hf (fun hf => ?_)
  refine r_istore_n (pc := 6) (lv' := [(3, .int (D (a0 + 1) v1.toNatClampNeg)), (0, .ref (Γ.2.1 a0)), (1, .int v1), (2, .int v2)]) C d_Bed_isOfKind_6 rfl (Nat.le_of_ble_eq_true rfl) rfl ?_
  refine r_iload_n (pc := 7) C 0 d_Bed_isOfKind_7 rfl rfl ?_
  refine r_iload_n (pc := 8) C 3 d_Bed_isOfKind_8 rfl rfl ?_
  refine r_icmp_eq (pc := 9) C (tgt := 32) d_Bed_isOfKind_9 (by decide) hf (fun c9 hf => ?_) (fun c9 hf => ?_)
  · exact r_lv (pc := 32) C [] rfl (tb_Bed_isOfKind_32 C h0 hf)
  · refine r_iload_n (pc := 12) C 0 d_Bed_isOfKind_12 rfl rfl ?_
    refine r_iconst (pc := 13) C (v := 4) d_Bed_isOfKind_13 (by decide) ?_
    refine r_icmp_ne (pc := 14) C (tgt := 22) d_Bed_isOfKind_14 (by decide) hf (fun c14 hf => ?_) (fun c14 hf => ?_)
    · exact r_lv (pc := 22) C [3, 0] rfl (tb_Bed_isOfKind_22 C h0 hf)
    · refine r_iload_n (pc := 17) C 3 d_Bed_isOfKind_17 rfl rfl ?_
      refine r_iconst (pc := 18) C (v := 1) d_Bed_isOfKind_18 (by decide) ?_
      refine r_icmp_eq (pc := 19) C (tgt := 32) d_Bed_isOfKind_19 (by decide) hf (fun c19 hf => ?_) (fun c19 hf => ?_)
      · exact r_lv (pc := 32) C [] rfl (tb_Bed_isOfKind_32 C h0 hf)
      · exact r_lv (pc := 22) C [3, 0] rfl (tb_Bed_isOfKind_22 C h0 hf)
theorem c_Bed_isOfKind (Γ : GmT) {a0 : Nat} {v1 : Int32} {v2 : Int32} (h0 : kd a0 = 0) {D : Dt} {rr : Int32} {DD : Dt} (hf : f_Bed_isOfKind a0 v1 v2 D = some (rr, DD)) : Mt Γ y_Bed_isOfKind b_Bed_isOfKind 4 (some .boolean) 1 [.ref (Γ.2.1 a0), .int v1, .int v2] D (some (.int rr)) DD := Mt_of (by decide) (Nat.le_of_ble_eq_true rfl) (fun G C => te_Bed_isOfKind C h0 hf)
def f_Bed_grinds (a0 : Nat) (v1 : Int32) (v2 : Int32) (D : Dt) : Option (Int32 × Dt) :=
  (if inb v1 8 = true then (if (D (a0 + 1) v1.toNatClampNeg) = 4 then (if (2 : Int32) = 0 then none else some (v2 / 2, D)) else (if inb v1 8 = true then (if (D (a0 + 1) v1.toNatClampNeg) = 1 then (if v2 < 2 then some (0, D) else some (1, D)) else some (0, D)) else none)) else none)
set_option maxHeartbeats 4000000 in
theorem te_Bed_grinds {Γ : GmT} {G : Dt → Nat → List (Nat × Value) → List Value → Prop} {rr : Int32} {DD : Dt} {a0 : Nat} (C : Cx Γ "RiverTuesdays$Bed" b_Bed_grinds 3 1 (some .int) (some (.int rr)) DD G) (h0 : kd a0 = 0) {v1 : Int32} {v2 : Int32} {D : Dt} (hf : f_Bed_grinds a0 v1 v2 D = some (rr, DD)) : G D 0 [(0, .ref (Γ.2.1 a0)), (1, .int v1), (2, .int v2)] [] := by
  unfold f_Bed_grinds at hf
  refine r_aload_n (pc := 0) C 0 d_Bed_grinds_0 rfl rfl ?_
  refine g_Bed_kinds (pc := 1) C h0 Lf_Bed_9 d_Bed_grinds_1 ?_
  refine r_iload_n (pc := 4) C 1 d_Bed_grinds_4 rfl rfl ?_
  refine r_iald (pc := 5) C (kq_Bed_kinds h0) d_Bed_grinds_5 hf (fun hf => ?_)
  refine r_iconst (pc := 6) C (v := 4) d_Bed_grinds_6 (by decide) ?_
  refine r_icmp_ne (pc := 7) C (tgt := 14) d_Bed_grinds_7 (by decide) hf (fun c7 hf => ?_) (fun c7 hf => ?_)
  · refine r_aload_n (pc := 14) C 0 d_Bed_grinds_14 rfl rfl ?_
    refine g_Bed_kinds (pc := 15) C h0 Lf_Bed_9 d_Bed_grinds_15 ?_
    refine r_iload_n (pc := 18) C 1 d_Bed_grinds_18 rfl rfl ?_
    refine r_iald (pc := 19) C (kq_Bed_kinds h0) d_Bed_grinds_19 hf (fun hf => ?_)
    refine r_iconst (pc := 20) C (v := 1) d_Bed_grinds_20 (by decide) ?_
    refine r_icmp_ne (pc := 21) C (tgt := 33) d_Bed_grinds_21 (by decide) hf (fun c21 hf => ?_) (fun c21 hf => ?_)
    · refine r_iconst (pc := 33) C (v := 0) d_Bed_grinds_33 (by decide) ?_
      exact r_iret (pc := 34) C d_Bed_grinds_34 hf
    · refine r_iload_n (pc := 24) C 2 d_Bed_grinds_24 rfl rfl ?_
      refine r_iconst (pc := 25) C (v := 2) d_Bed_grinds_25 (by decide) ?_
      refine r_icmp_lt (pc := 26) C (tgt := 33) d_Bed_grinds_26 (by decide) hf (fun c26 hf => ?_) (fun c26 hf => ?_)
      · refine r_iconst (pc := 33) C (v := 0) d_Bed_grinds_33 (by decide) ?_
        exact r_iret (pc := 34) C d_Bed_grinds_34 hf
      · refine r_iconst (pc := 29) C (v := 1) d_Bed_grinds_29 (by decide) ?_
        refine r_goto (pc := 30) C (tgt := 34) d_Bed_grinds_30 (by decide) ?_
        exact r_iret (pc := 34) C d_Bed_grinds_34 hf
  · refine r_iload_n (pc := 10) C 2 d_Bed_grinds_10 rfl rfl ?_
    refine r_iconst (pc := 11) C (v := 2) d_Bed_grinds_11 (by decide) ?_
    refine r_idiv (pc := 12) C d_Bed_grinds_12 hf (fun hf => ?_)
    exact r_iret (pc := 13) C d_Bed_grinds_13 hf
theorem c_Bed_grinds (Γ : GmT) {a0 : Nat} {v1 : Int32} {v2 : Int32} (h0 : kd a0 = 0) {D : Dt} {rr : Int32} {DD : Dt} (hf : f_Bed_grinds a0 v1 v2 D = some (rr, DD)) : Mt Γ y_Bed_grinds b_Bed_grinds 3 (some .int) 1 [.ref (Γ.2.1 a0), .int v1, .int v2] D (some (.int rr)) DD := Mt_of (by decide) (Nat.le_of_ble_eq_true rfl) (fun G C => te_Bed_grinds C h0 hf)
def b_Bed_letsOn_32 (a0 : Nat) (D : Dt) : Option (Int32 × Dt) :=
  some (2, D)
set_option maxHeartbeats 4000000 in
theorem tb_Bed_letsOn_32 {Γ : GmT} {G : Dt → Nat → List (Nat × Value) → List Value → Prop} {rr : Int32} {DD : Dt} {a0 : Nat} (C : Cx Γ "RiverTuesdays$Bed" b_Bed_letsOn 2 1 (some .int) (some (.int rr)) DD G) (h0 : kd a0 = 0) {D : Dt} (hf : b_Bed_letsOn_32 a0 D = some (rr, DD)) : G D 32 [] [] := by
  unfold b_Bed_letsOn_32 at hf
  refine r_iconst (pc := 32) C (v := 2) d_Bed_letsOn_32 (by decide) ?_
  refine r_goto (pc := 33) C (tgt := 38) d_Bed_letsOn_33 (by decide) ?_
  exact r_iret (pc := 38) C d_Bed_letsOn_38 hf
def f_Bed_letsOn (a0 : Nat) (v1 : Int32) (D : Dt) : Option (Int32 × Dt) :=
  (if inb v1 8 = true then (if (D (a0 + 5) v1.toNatClampNeg) = 1 then some (0, D) else (if inb v1 8 = true then (if (D (a0 + 1) v1.toNatClampNeg) = 3 then b_Bed_letsOn_32 a0 D else (if inb v1 8 = true then (if (D (a0 + 1) v1.toNatClampNeg) = 5 then b_Bed_letsOn_32 a0 D else some (1000000000, D)) else none)) else none)) else none)
set_option maxHeartbeats 4000000 in
theorem te_Bed_letsOn {Γ : GmT} {G : Dt → Nat → List (Nat × Value) → List Value → Prop} {rr : Int32} {DD : Dt} {a0 : Nat} (C : Cx Γ "RiverTuesdays$Bed" b_Bed_letsOn 2 1 (some .int) (some (.int rr)) DD G) (h0 : kd a0 = 0) {v1 : Int32} {D : Dt} (hf : f_Bed_letsOn a0 v1 D = some (rr, DD)) : G D 0 [(0, .ref (Γ.2.1 a0)), (1, .int v1)] [] := by
  unfold f_Bed_letsOn at hf
  refine r_aload_n (pc := 0) C 0 d_Bed_letsOn_0 rfl rfl ?_
  refine g_Bed_shutBit (pc := 1) C h0 Lf_Bed_24 d_Bed_letsOn_1 ?_
  refine r_iload_n (pc := 4) C 1 d_Bed_letsOn_4 rfl rfl ?_
  refine r_iald (pc := 5) C (kq_Bed_shutBit h0) d_Bed_letsOn_5 hf (fun hf => ?_)
  refine r_iconst (pc := 6) C (v := 1) d_Bed_letsOn_6 (by decide) ?_
  refine r_icmp_ne (pc := 7) C (tgt := 12) d_Bed_letsOn_7 (by decide) hf (fun c7 hf => ?_) (fun c7 hf => ?_)
  · refine r_aload_n (pc := 12) C 0 d_Bed_letsOn_12 rfl rfl ?_
    refine g_Bed_kinds (pc := 13) C h0 Lf_Bed_9 d_Bed_letsOn_13 ?_
    refine r_iload_n (pc := 16) C 1 d_Bed_letsOn_16 rfl rfl ?_
    refine r_iald (pc := 17) C (kq_Bed_kinds h0) d_Bed_letsOn_17 hf (fun hf => ?_)
    refine r_iconst (pc := 18) C (v := 3) d_Bed_letsOn_18 (by decide) ?_
    refine r_icmp_eq (pc := 19) C (tgt := 32) d_Bed_letsOn_19 (by decide) hf (fun c19 hf => ?_) (fun c19 hf => ?_)
    · exact r_lv (pc := 32) C [] rfl (tb_Bed_letsOn_32 C h0 hf)
    · refine r_aload_n (pc := 22) C 0 d_Bed_letsOn_22 rfl rfl ?_
      refine g_Bed_kinds (pc := 23) C h0 Lf_Bed_9 d_Bed_letsOn_23 ?_
      refine r_iload_n (pc := 26) C 1 d_Bed_letsOn_26 rfl rfl ?_
      refine r_iald (pc := 27) C (kq_Bed_kinds h0) d_Bed_letsOn_27 hf (fun hf => ?_)
      refine r_iconst (pc := 28) C (v := 5) d_Bed_letsOn_28 (by decide) ?_
      refine r_icmp_ne (pc := 29) C (tgt := 36) d_Bed_letsOn_29 (by decide) hf (fun c29 hf => ?_) (fun c29 hf => ?_)
      · refine r_ldc (pc := 36) C Lc_Bed_43 d_Bed_letsOn_36 ?_
        exact r_iret (pc := 38) C d_Bed_letsOn_38 hf
      · exact r_lv (pc := 32) C [] rfl (tb_Bed_letsOn_32 C h0 hf)
  · refine r_iconst (pc := 10) C (v := 0) d_Bed_letsOn_10 (by decide) ?_
    exact r_iret (pc := 11) C d_Bed_letsOn_11 hf
theorem c_Bed_letsOn (Γ : GmT) {a0 : Nat} {v1 : Int32} (h0 : kd a0 = 0) {D : Dt} {rr : Int32} {DD : Dt} (hf : f_Bed_letsOn a0 v1 D = some (rr, DD)) : Mt Γ y_Bed_letsOn b_Bed_letsOn 2 (some .int) 1 [.ref (Γ.2.1 a0), .int v1] D (some (.int rr)) DD := Mt_of (by decide) (Nat.le_of_ble_eq_true rfl) (fun G C => te_Bed_letsOn C h0 hf)
def b_Bed_howManyOf_27 (a0 : Nat) (k4 : Int32 → Int32 → Int32 → Dt → Option (Int32 × Dt)) (v1 : Int32) (v3 : Int32) (s0 : Int32) (s1 : Int32) (D : Dt) : Option (Int32 × Dt) :=
  k4 v1 (s1 + s0) (v3 + 1) D
set_option maxHeartbeats 4000000 in
theorem tb_Bed_howManyOf_27 {Γ : GmT} {G : Dt → Nat → List (Nat × Value) → List Value → Prop} {rr : Int32} {DD : Dt} {a0 : Nat} (C : Cx Γ "RiverTuesdays$Bed" b_Bed_howManyOf 4 2 (some .int) (some (.int rr)) DD G) (h0 : kd a0 = 0) {k4 : Int32 → Int32 → Int32 → Dt → Option (Int32 × Dt)} (hk4 : ∀ (v1 : Int32) (v2 : Int32) (v3 : Int32) (D : Dt), k4 v1 v2 v3 D = some (rr, DD) → G D 4 [(0, .ref (Γ.2.1 a0)), (1, .int v1), (2, .int v2), (3, .int v3)] []) {v1 : Int32} {v3 : Int32} {s0 : Int32} {s1 : Int32} {D : Dt} (hf : b_Bed_howManyOf_27 a0 k4 v1 v3 s0 s1 D = some (rr, DD)) : G D 27 [(0, .ref (Γ.2.1 a0)), (1, .int v1), (3, .int v3)] [.int s0, .int s1] := by
  unfold b_Bed_howManyOf_27 at hf
  refine r_iadd (pc := 27) C d_Bed_howManyOf_27 ?_
  refine r_istore_n (pc := 28) (lv' := [(2, .int (s1 + s0)), (0, .ref (Γ.2.1 a0)), (1, .int v1), (3, .int v3)]) C d_Bed_howManyOf_28 rfl (Nat.le_of_ble_eq_true rfl) rfl ?_
  refine r_iinc (pc := 29) C (v := v3 + 1) (lv' := [(3, .int (v3 + 1)), (2, .int (s1 + s0)), (0, .ref (Γ.2.1 a0)), (1, .int v1)]) 3 d_Bed_howManyOf_29 rfl rfl (Nat.le_of_ble_eq_true rfl) rfl ?_
  refine r_goto (pc := 32) C (tgt := 4) d_Bed_howManyOf_32 (by decide) ?_
  exact r_lv (pc := 4) C [2, 3, 1, 0] rfl (hk4 v1 (s1 + s0) (v3 + 1) D hf)
def s_Bed_howManyOf_4 (a0 : Nat) (k4 : Int32 → Int32 → Int32 → Dt → Option (Int32 × Dt)) (v1 : Int32) (v2 : Int32) (v3 : Int32) (D : Dt) : Option (Int32 × Dt) :=
  (if (D a0 5) ≤ v3 then some (v2, D) else bnd (f_Bed_isOfKind a0 v3 v1 D) (fun x1 D2 => (if x1 = 0 then b_Bed_howManyOf_27 a0 k4 v1 v3 0 v2 D2 else b_Bed_howManyOf_27 a0 k4 v1 v3 1 v2 D2)))
def lp_Bed_howManyOf_4 (a0 : Nat) (n : Nat) : Int32 → Int32 → Int32 → Dt → Option (Int32 × Dt) := itr (fun _ _ _ _ => none) (s_Bed_howManyOf_4 a0) n
set_option maxHeartbeats 4000000 in
theorem ts_Bed_howManyOf_4 {Γ : GmT} {G : Dt → Nat → List (Nat × Value) → List Value → Prop} {rr : Int32} {DD : Dt} {a0 : Nat} (C : Cx Γ "RiverTuesdays$Bed" b_Bed_howManyOf 4 2 (some .int) (some (.int rr)) DD G) (h0 : kd a0 = 0) {k4 : Int32 → Int32 → Int32 → Dt → Option (Int32 × Dt)} (hk4 : ∀ (v1 : Int32) (v2 : Int32) (v3 : Int32) (D : Dt), k4 v1 v2 v3 D = some (rr, DD) → G D 4 [(0, .ref (Γ.2.1 a0)), (1, .int v1), (2, .int v2), (3, .int v3)] []) {v1 : Int32} {v2 : Int32} {v3 : Int32} {D : Dt} (hf : s_Bed_howManyOf_4 a0 k4 v1 v2 v3 D = some (rr, DD)) : G D 4 [(0, .ref (Γ.2.1 a0)), (1, .int v1), (2, .int v2), (3, .int v3)] [] := by
  unfold s_Bed_howManyOf_4 at hf
  refine r_iload_n (pc := 4) C 3 d_Bed_howManyOf_4 rfl rfl ?_
  refine r_aload_n (pc := 5) C 0 d_Bed_howManyOf_5 rfl rfl ?_
  refine g_Bed_houses (pc := 6) C h0 Lf_Bed_33 d_Bed_howManyOf_6 ?_
  refine r_icmp_ge (pc := 9) C (tgt := 35) d_Bed_howManyOf_9 (by decide) hf (fun c9 hf => ?_) (fun c9 hf => ?_)
  · refine r_iload_n (pc := 35) C 2 d_Bed_howManyOf_35 rfl rfl ?_
    exact r_iret (pc := 36) C d_Bed_howManyOf_36 hf
  · refine r_iload_n (pc := 12) C 2 d_Bed_howManyOf_12 rfl rfl ?_
    refine r_aload_n (pc := 13) C 0 d_Bed_howManyOf_13 rfl rfl ?_
    refine r_iload_n (pc := 14) C 3 d_Bed_howManyOf_14 rfl rfl ?_
    refine r_iload_n (pc := 15) C 1 d_Bed_howManyOf_15 rfl rfl ?_
    refine r_callVi (pc := 16) (As := [.int v3, .int v1]) (rest := [.int v2]) C ok_Bed_isOfKind Lm_Bed_44 h0 (by decide) ⟨by decide, by decide⟩ rfl rfl (Nat.le_of_ble_eq_true rfl) d_Bed_howManyOf_16 hf (fun x D1 hc => c_Bed_isOfKind Γ h0 hc) (fun x1 D2 hf => ?_)
    refine r_if_eq (pc := 19) C (tgt := 26) d_Bed_howManyOf_19 (by decide) hf (fun c19 hf => ?_) (fun c19 hf => ?_)
    · refine r_iconst (pc := 26) C (v := 0) d_Bed_howManyOf_26 (by decide) ?_
      exact r_lv (pc := 27) C [0, 1, 3] rfl (tb_Bed_howManyOf_27 C h0 hk4 hf)
    · refine r_iconst (pc := 22) C (v := 1) d_Bed_howManyOf_22 (by decide) ?_
      refine r_goto (pc := 23) C (tgt := 27) d_Bed_howManyOf_23 (by decide) ?_
      exact r_lv (pc := 27) C [0, 1, 3] rfl (tb_Bed_howManyOf_27 C h0 hk4 hf)
theorem tl_Bed_howManyOf_4 {Γ : GmT} {G : Dt → Nat → List (Nat × Value) → List Value → Prop} {rr : Int32} {DD : Dt} {a0 : Nat} (C : Cx Γ "RiverTuesdays$Bed" b_Bed_howManyOf 4 2 (some .int) (some (.int rr)) DD G) (h0 : kd a0 = 0) : ∀ (n : Nat) (v1 : Int32) (v2 : Int32) (v3 : Int32) (D : Dt), lp_Bed_howManyOf_4 a0 n v1 v2 v3 D = some (rr, DD) → G D 4 [(0, .ref (Γ.2.1 a0)), (1, .int v1), (2, .int v2), (3, .int v3)] [] := by
  intro n
  induction n with
  | zero =>
    intro v1 v2 v3 D hf
    exact absurd (show (none : Option (Int32 × Dt)) = some (rr, DD) from hf) (by simp)
  | succ n ih =>
    intro v1 v2 v3 D hf
    exact ts_Bed_howManyOf_4 C h0 (k4 := lp_Bed_howManyOf_4 a0 n) ih hf
def f_Bed_howManyOf (a0 : Nat) (v1 : Int32) (D : Dt) : Option (Int32 × Dt) :=
  lp_Bed_howManyOf_4 a0 FU v1 0 0 D
set_option maxHeartbeats 4000000 in
theorem te_Bed_howManyOf {Γ : GmT} {G : Dt → Nat → List (Nat × Value) → List Value → Prop} {rr : Int32} {DD : Dt} {a0 : Nat} (C : Cx Γ "RiverTuesdays$Bed" b_Bed_howManyOf 4 2 (some .int) (some (.int rr)) DD G) (h0 : kd a0 = 0) {v1 : Int32} {D : Dt} (hf : f_Bed_howManyOf a0 v1 D = some (rr, DD)) : G D 0 [(0, .ref (Γ.2.1 a0)), (1, .int v1)] [] := by
  unfold f_Bed_howManyOf at hf
  refine r_iconst (pc := 0) C (v := 0) d_Bed_howManyOf_0 (by decide) ?_
  refine r_istore_n (pc := 1) (lv' := [(2, .int 0), (0, .ref (Γ.2.1 a0)), (1, .int v1)]) C d_Bed_howManyOf_1 rfl (Nat.le_of_ble_eq_true rfl) rfl ?_
  refine r_iconst (pc := 2) C (v := 0) d_Bed_howManyOf_2 (by decide) ?_
  refine r_istore_n (pc := 3) (lv' := [(3, .int 0), (2, .int 0), (0, .ref (Γ.2.1 a0)), (1, .int v1)]) C d_Bed_howManyOf_3 rfl (Nat.le_of_ble_eq_true rfl) rfl ?_
  exact r_lv (pc := 4) C [2, 3, 1, 0] rfl (tl_Bed_howManyOf_4 C h0 FU v1 0 0 D hf)
theorem c_Bed_howManyOf (Γ : GmT) {a0 : Nat} {v1 : Int32} (h0 : kd a0 = 0) {D : Dt} {rr : Int32} {DD : Dt} (hf : f_Bed_howManyOf a0 v1 D = some (rr, DD)) : Mt Γ y_Bed_howManyOf b_Bed_howManyOf 4 (some .int) 2 [.ref (Γ.2.1 a0), .int v1] D (some (.int rr)) DD := Mt_of (by decide) (Nat.le_of_ble_eq_true rfl) (fun G C => te_Bed_howManyOf C h0 hf)
def s_Bed_howManyShut_4 (a0 : Nat) (k4 : Int32 → Int32 → Dt → Option (Int32 × Dt)) (v1 : Int32) (v2 : Int32) (D : Dt) : Option (Int32 × Dt) :=
  (if (D a0 5) ≤ v2 then some (v1, D) else (if inb v2 8 = true then nm (v1 + (D (a0 + 5) v2.toNatClampNeg)) (fun x1 => k4 x1 (v2 + 1) D) else none))
def lp_Bed_howManyShut_4 (a0 : Nat) (n : Nat) : Int32 → Int32 → Dt → Option (Int32 × Dt) := itr (fun _ _ _ => none) (s_Bed_howManyShut_4 a0) n
set_option maxHeartbeats 4000000 in
theorem ts_Bed_howManyShut_4 {Γ : GmT} {G : Dt → Nat → List (Nat × Value) → List Value → Prop} {rr : Int32} {DD : Dt} {a0 : Nat} (C : Cx Γ "RiverTuesdays$Bed" b_Bed_howManyShut 3 1 (some .int) (some (.int rr)) DD G) (h0 : kd a0 = 0) {k4 : Int32 → Int32 → Dt → Option (Int32 × Dt)} (hk4 : ∀ (v1 : Int32) (v2 : Int32) (D : Dt), k4 v1 v2 D = some (rr, DD) → G D 4 [(0, .ref (Γ.2.1 a0)), (1, .int v1), (2, .int v2)] []) {v1 : Int32} {v2 : Int32} {D : Dt} (hf : s_Bed_howManyShut_4 a0 k4 v1 v2 D = some (rr, DD)) : G D 4 [(0, .ref (Γ.2.1 a0)), (1, .int v1), (2, .int v2)] [] := by
  unfold s_Bed_howManyShut_4 at hf
  refine r_iload_n (pc := 4) C 2 d_Bed_howManyShut_4 rfl rfl ?_
  refine r_aload_n (pc := 5) C 0 d_Bed_howManyShut_5 rfl rfl ?_
  refine g_Bed_houses (pc := 6) C h0 Lf_Bed_33 d_Bed_howManyShut_6 ?_
  refine r_icmp_ge (pc := 9) C (tgt := 27) d_Bed_howManyShut_9 (by decide) hf (fun c9 hf => ?_) (fun c9 hf => ?_)
  · refine r_iload_n (pc := 27) C 1 d_Bed_howManyShut_27 rfl rfl ?_
    exact r_iret (pc := 28) C d_Bed_howManyShut_28 hf
  · refine r_iload_n (pc := 12) C 1 d_Bed_howManyShut_12 rfl rfl ?_
    refine r_aload_n (pc := 13) C 0 d_Bed_howManyShut_13 rfl rfl ?_
    refine g_Bed_shutBit (pc := 14) C h0 Lf_Bed_24 d_Bed_howManyShut_14 ?_
    refine r_iload_n (pc := 17) C 2 d_Bed_howManyShut_17 rfl rfl ?_
    refine r_iald (pc := 18) C (kq_Bed_shutBit h0) d_Bed_howManyShut_18 hf (fun hf => ?_)
    refine r_iadd (pc := 19) C d_Bed_howManyShut_19 ?_
    refine r_nmi (pc := 20) hf (fun x1 hf => ?_)
    refine r_istore_n (pc := 20) (lv' := [(1, .int x1), (0, .ref (Γ.2.1 a0)), (2, .int v2)]) C d_Bed_howManyShut_20 rfl (Nat.le_of_ble_eq_true rfl) rfl ?_
    refine r_iinc (pc := 21) C (v := v2 + 1) (lv' := [(2, .int (v2 + 1)), (1, .int x1), (0, .ref (Γ.2.1 a0))]) 2 d_Bed_howManyShut_21 rfl rfl (Nat.le_of_ble_eq_true rfl) rfl ?_
    refine r_goto (pc := 24) C (tgt := 4) d_Bed_howManyShut_24 (by decide) ?_
    exact r_lv (pc := 4) C [2, 1, 0] rfl (hk4 x1 (v2 + 1) D hf)
theorem tl_Bed_howManyShut_4 {Γ : GmT} {G : Dt → Nat → List (Nat × Value) → List Value → Prop} {rr : Int32} {DD : Dt} {a0 : Nat} (C : Cx Γ "RiverTuesdays$Bed" b_Bed_howManyShut 3 1 (some .int) (some (.int rr)) DD G) (h0 : kd a0 = 0) : ∀ (n : Nat) (v1 : Int32) (v2 : Int32) (D : Dt), lp_Bed_howManyShut_4 a0 n v1 v2 D = some (rr, DD) → G D 4 [(0, .ref (Γ.2.1 a0)), (1, .int v1), (2, .int v2)] [] := by
  intro n
  induction n with
  | zero =>
    intro v1 v2 D hf
    exact absurd (show (none : Option (Int32 × Dt)) = some (rr, DD) from hf) (by simp)
  | succ n ih =>
    intro v1 v2 D hf
    exact ts_Bed_howManyShut_4 C h0 (k4 := lp_Bed_howManyShut_4 a0 n) ih hf
def f_Bed_howManyShut (a0 : Nat) (D : Dt) : Option (Int32 × Dt) :=
  lp_Bed_howManyShut_4 a0 FU 0 0 D
set_option maxHeartbeats 4000000 in
theorem te_Bed_howManyShut {Γ : GmT} {G : Dt → Nat → List (Nat × Value) → List Value → Prop} {rr : Int32} {DD : Dt} {a0 : Nat} (C : Cx Γ "RiverTuesdays$Bed" b_Bed_howManyShut 3 1 (some .int) (some (.int rr)) DD G) (h0 : kd a0 = 0) {D : Dt} (hf : f_Bed_howManyShut a0 D = some (rr, DD)) : G D 0 [(0, .ref (Γ.2.1 a0))] [] := by
  unfold f_Bed_howManyShut at hf
  refine r_iconst (pc := 0) C (v := 0) d_Bed_howManyShut_0 (by decide) ?_
  refine r_istore_n (pc := 1) (lv' := [(1, .int 0), (0, .ref (Γ.2.1 a0))]) C d_Bed_howManyShut_1 rfl (Nat.le_of_ble_eq_true rfl) rfl ?_
  refine r_iconst (pc := 2) C (v := 0) d_Bed_howManyShut_2 (by decide) ?_
  refine r_istore_n (pc := 3) (lv' := [(2, .int 0), (1, .int 0), (0, .ref (Γ.2.1 a0))]) C d_Bed_howManyShut_3 rfl (Nat.le_of_ble_eq_true rfl) rfl ?_
  exact r_lv (pc := 4) C [2, 1, 0] rfl (tl_Bed_howManyShut_4 C h0 FU 0 0 D hf)
theorem c_Bed_howManyShut (Γ : GmT) {a0 : Nat} (h0 : kd a0 = 0) {D : Dt} {rr : Int32} {DD : Dt} (hf : f_Bed_howManyShut a0 D = some (rr, DD)) : Mt Γ y_Bed_howManyShut b_Bed_howManyShut 3 (some .int) 1 [.ref (Γ.2.1 a0)] D (some (.int rr)) DD := Mt_of (by decide) (Nat.le_of_ble_eq_true rfl) (fun G C => te_Bed_howManyShut C h0 hf)
def s_Bed_readHouse_25 (a0 : Nat) (a1 : Nat) (k25 : Int32 → Int32 → Int32 → Dt → Option (Int32 × Dt)) (v2 : Int32) (v3 : Int32) (v4 : Int32) (D : Dt) : Option (Int32 × Dt) :=
  (if 3 < v4 then (if inb (D a0 5) 8 = true then nm (wr D (a0 + 1) (D a0 5).toNatClampNeg v3) (fun D3 => bnd (f_Text_figureAt a1 (v2 + 1) D3) (fun x4 D5 => (if inb (D3 a0 5) 8 = true then nm (wr D5 (a0 + 2) (D3 a0 5).toNatClampNeg x4) (fun D6 => bnd (f_Text_figureAt a1 (v2 + 2) D6) (fun x7 D8 => (if inb (D6 a0 5) 8 = true then nm (wr D8 (a0 + 3) (D6 a0 5).toNatClampNeg x7) (fun D9 => bnd (f_Text_figureAt a1 (v2 + 3) D9) (fun x10 D11 => (if inb (D9 a0 5) 8 = true then nm (wr D11 (a0 + 4) (D9 a0 5).toNatClampNeg x10) (fun D12 => nm (wr D12 a0 5 ((D12 a0 5) + 1)) (fun D13 => some ((-9), D13))) else none))) else none))) else none))) else none) else bnd (f_Text_figureAt a1 (v2 + v4) D) (fun x14 D15 => (if x14 = (-1) then some (v2 + v4, D15) else k25 v2 v3 (v4 + 1) D15)))
def lp_Bed_readHouse_25 (a0 : Nat) (a1 : Nat) (n : Nat) : Int32 → Int32 → Int32 → Dt → Option (Int32 × Dt) := itr (fun _ _ _ _ => none) (s_Bed_readHouse_25 a0 a1) n
set_option maxHeartbeats 4000000 in
theorem ts_Bed_readHouse_25 {Γ : GmT} {G : Dt → Nat → List (Nat × Value) → List Value → Prop} {rr : Int32} {DD : Dt} {a0 : Nat} {a1 : Nat} (C : Cx Γ "RiverTuesdays$Bed" b_Bed_readHouse 5 2 (some .int) (some (.int rr)) DD G) (h0 : kd a0 = 0) (h1 : kd a1 = 5) {k25 : Int32 → Int32 → Int32 → Dt → Option (Int32 × Dt)} (hk25 : ∀ (v2 : Int32) (v3 : Int32) (v4 : Int32) (D : Dt), k25 v2 v3 v4 D = some (rr, DD) → G D 25 [(0, .ref (Γ.2.1 a0)), (1, .ref (Γ.2.1 a1)), (2, .int v2), (3, .int v3), (4, .int v4)] []) {v2 : Int32} {v3 : Int32} {v4 : Int32} {D : Dt} (hf : s_Bed_readHouse_25 a0 a1 k25 v2 v3 v4 D = some (rr, DD)) : G D 25 [(0, .ref (Γ.2.1 a0)), (1, .ref (Γ.2.1 a1)), (2, .int v2), (3, .int v3), (4, .int v4)] [] := by
  unfold s_Bed_readHouse_25 at hf
  refine r_iload (pc := 25) C 4 d_Bed_readHouse_25 rfl ?_
  refine r_iconst (pc := 27) C (v := 3) d_Bed_readHouse_27 (by decide) ?_
  refine r_icmp_gt (pc := 28) C (tgt := 54) d_Bed_readHouse_28 (by decide) hf (fun c28 hf => ?_) (fun c28 hf => ?_)
  · refine r_aload_n (pc := 54) C 0 d_Bed_readHouse_54 rfl rfl ?_
    refine g_Bed_kinds (pc := 55) C h0 Lf_Bed_9 d_Bed_readHouse_55 ?_
    refine r_aload_n (pc := 58) C 0 d_Bed_readHouse_58 rfl rfl ?_
    refine g_Bed_houses (pc := 59) C h0 Lf_Bed_33 d_Bed_readHouse_59 ?_
    refine r_iload_n (pc := 62) C 3 d_Bed_readHouse_62 rfl rfl ?_
    refine r_iast (pc := 63) C (kq_Bed_kinds h0) d_Bed_readHouse_63 hf (fun hf => ?_)
    refine r_nmD hf (fun D3 hf => ?_)
    refine r_aload_n (pc := 64) C 0 d_Bed_readHouse_64 rfl rfl ?_
    refine g_Bed_ground (pc := 65) C h0 Lf_Bed_15 d_Bed_readHouse_65 ?_
    refine r_aload_n (pc := 68) C 0 d_Bed_readHouse_68 rfl rfl ?_
    refine g_Bed_houses (pc := 69) C h0 Lf_Bed_33 d_Bed_readHouse_69 ?_
    refine r_aload_n (pc := 72) C 1 d_Bed_readHouse_72 rfl rfl ?_
    refine r_iload_n (pc := 73) C 2 d_Bed_readHouse_73 rfl rfl ?_
    refine r_iconst (pc := 74) C (v := 1) d_Bed_readHouse_74 (by decide) ?_
    refine r_iadd (pc := 75) C d_Bed_readHouse_75 ?_
    refine r_callVi (pc := 76) (As := [.int (v2 + 1)]) (rest := [.int (D3 a0 5), .ref (Γ.2.1 (a0 + 2))]) C ok_Text_figureAt Lm_Bed_67 h1 (by decide) ⟨by decide, by decide⟩ rfl rfl (Nat.le_of_ble_eq_true rfl) d_Bed_readHouse_76 hf (fun x D1 hc => c_Text_figureAt Γ h1 hc) (fun x4 D5 hf => ?_)
    refine r_iast (pc := 79) C (kq_Bed_ground h0) d_Bed_readHouse_79 hf (fun hf => ?_)
    refine r_nmD hf (fun D6 hf => ?_)
    refine r_aload_n (pc := 80) C 0 d_Bed_readHouse_80 rfl rfl ?_
    refine g_Bed_height (pc := 81) C h0 Lf_Bed_18 d_Bed_readHouse_81 ?_
    refine r_aload_n (pc := 84) C 0 d_Bed_readHouse_84 rfl rfl ?_
    refine g_Bed_houses (pc := 85) C h0 Lf_Bed_33 d_Bed_readHouse_85 ?_
    refine r_aload_n (pc := 88) C 1 d_Bed_readHouse_88 rfl rfl ?_
    refine r_iload_n (pc := 89) C 2 d_Bed_readHouse_89 rfl rfl ?_
    refine r_iconst (pc := 90) C (v := 2) d_Bed_readHouse_90 (by decide) ?_
    refine r_iadd (pc := 91) C d_Bed_readHouse_91 ?_
    refine r_callVi (pc := 92) (As := [.int (v2 + 2)]) (rest := [.int (D6 a0 5), .ref (Γ.2.1 (a0 + 3))]) C ok_Text_figureAt Lm_Bed_67 h1 (by decide) ⟨by decide, by decide⟩ rfl rfl (Nat.le_of_ble_eq_true rfl) d_Bed_readHouse_92 hf (fun x D1 hc => c_Text_figureAt Γ h1 hc) (fun x7 D8 hf => ?_)
    refine r_iast (pc := 95) C (kq_Bed_height h0) d_Bed_readHouse_95 hf (fun hf => ?_)
    refine r_nmD hf (fun D9 hf => ?_)
    refine r_aload_n (pc := 96) C 0 d_Bed_readHouse_96 rfl rfl ?_
    refine g_Bed_cellar (pc := 97) C h0 Lf_Bed_21 d_Bed_readHouse_97 ?_
    refine r_aload_n (pc := 100) C 0 d_Bed_readHouse_100 rfl rfl ?_
    refine g_Bed_houses (pc := 101) C h0 Lf_Bed_33 d_Bed_readHouse_101 ?_
    refine r_aload_n (pc := 104) C 1 d_Bed_readHouse_104 rfl rfl ?_
    refine r_iload_n (pc := 105) C 2 d_Bed_readHouse_105 rfl rfl ?_
    refine r_iconst (pc := 106) C (v := 3) d_Bed_readHouse_106 (by decide) ?_
    refine r_iadd (pc := 107) C d_Bed_readHouse_107 ?_
    refine r_callVi (pc := 108) (As := [.int (v2 + 3)]) (rest := [.int (D9 a0 5), .ref (Γ.2.1 (a0 + 4))]) C ok_Text_figureAt Lm_Bed_67 h1 (by decide) ⟨by decide, by decide⟩ rfl rfl (Nat.le_of_ble_eq_true rfl) d_Bed_readHouse_108 hf (fun x D1 hc => c_Text_figureAt Γ h1 hc) (fun x10 D11 hf => ?_)
    refine r_iast (pc := 111) C (kq_Bed_cellar h0) d_Bed_readHouse_111 hf (fun hf => ?_)
    refine r_nmD hf (fun D12 hf => ?_)
    refine r_aload_n (pc := 112) C 0 d_Bed_readHouse_112 rfl rfl ?_
    refine r_dup (pc := 113) C d_Bed_readHouse_113 rfl ?_
    refine g_Bed_houses (pc := 114) C h0 Lf_Bed_33 d_Bed_readHouse_114 ?_
    refine r_iconst (pc := 117) C (v := 1) d_Bed_readHouse_117 (by decide) ?_
    refine r_iadd (pc := 118) C d_Bed_readHouse_118 ?_
    refine p_Bed_houses (pc := 119) C h0 Lf_Bed_33 d_Bed_readHouse_119 ?_
    refine r_nmD hf (fun D13 hf => ?_)
    refine r_bipush (pc := 122) C (v := (-9)) d_Bed_readHouse_122 (by decide) ?_
    exact r_iret (pc := 124) C d_Bed_readHouse_124 hf
  · refine r_aload_n (pc := 31) C 1 d_Bed_readHouse_31 rfl rfl ?_
    refine r_iload_n (pc := 32) C 2 d_Bed_readHouse_32 rfl rfl ?_
    refine r_iload (pc := 33) C 4 d_Bed_readHouse_33 rfl ?_
    refine r_iadd (pc := 35) C d_Bed_readHouse_35 ?_
    refine r_callVi (pc := 36) (As := [.int (v2 + v4)]) (rest := []) C ok_Text_figureAt Lm_Bed_67 h1 (by decide) ⟨by decide, by decide⟩ rfl rfl (Nat.le_of_ble_eq_true rfl) d_Bed_readHouse_36 hf (fun x D1 hc => c_Text_figureAt Γ h1 hc) (fun x14 D15 hf => ?_)
    refine r_iconst (pc := 39) C (v := (-1)) d_Bed_readHouse_39 (by decide) ?_
    refine r_icmp_ne (pc := 40) C (tgt := 48) d_Bed_readHouse_40 (by decide) hf (fun c40 hf => ?_) (fun c40 hf => ?_)
    · refine r_iinc (pc := 48) C (v := v4 + 1) (lv' := [(4, .int (v4 + 1)), (0, .ref (Γ.2.1 a0)), (1, .ref (Γ.2.1 a1)), (2, .int v2), (3, .int v3)]) 4 d_Bed_readHouse_48 rfl rfl (Nat.le_of_ble_eq_true rfl) rfl ?_
      refine r_goto (pc := 51) C (tgt := 25) d_Bed_readHouse_51 (by decide) ?_
      exact r_lv (pc := 25) C [1, 2, 3, 4, 0] rfl (hk25 v2 v3 (v4 + 1) D15 hf)
    · refine r_iload_n (pc := 43) C 2 d_Bed_readHouse_43 rfl rfl ?_
      refine r_iload (pc := 44) C 4 d_Bed_readHouse_44 rfl ?_
      refine r_iadd (pc := 46) C d_Bed_readHouse_46 ?_
      exact r_iret (pc := 47) C d_Bed_readHouse_47 hf
theorem tl_Bed_readHouse_25 {Γ : GmT} {G : Dt → Nat → List (Nat × Value) → List Value → Prop} {rr : Int32} {DD : Dt} {a0 : Nat} {a1 : Nat} (C : Cx Γ "RiverTuesdays$Bed" b_Bed_readHouse 5 2 (some .int) (some (.int rr)) DD G) (h0 : kd a0 = 0) (h1 : kd a1 = 5) : ∀ (n : Nat) (v2 : Int32) (v3 : Int32) (v4 : Int32) (D : Dt), lp_Bed_readHouse_25 a0 a1 n v2 v3 v4 D = some (rr, DD) → G D 25 [(0, .ref (Γ.2.1 a0)), (1, .ref (Γ.2.1 a1)), (2, .int v2), (3, .int v3), (4, .int v4)] [] := by
  intro n
  induction n with
  | zero =>
    intro v2 v3 v4 D hf
    exact absurd (show (none : Option (Int32 × Dt)) = some (rr, DD) from hf) (by simp)
  | succ n ih =>
    intro v2 v3 v4 D hf
    exact ts_Bed_readHouse_25 C h0 h1 (k25 := lp_Bed_readHouse_25 a0 a1 n) ih hf
def f_Bed_readHouse (a0 : Nat) (a1 : Nat) (v2 : Int32) (D : Dt) : Option (Int32 × Dt) :=
  bnd (f_Text_kindAt a1 v2 D) (fun x1 D2 => (if 8 ≤ (D2 a0 5) then some (v2, D2) else (if x1 = (-1) then some (v2, D2) else lp_Bed_readHouse_25 a0 a1 FU v2 x1 1 D2)))
set_option maxHeartbeats 4000000 in
theorem te_Bed_readHouse {Γ : GmT} {G : Dt → Nat → List (Nat × Value) → List Value → Prop} {rr : Int32} {DD : Dt} {a0 : Nat} {a1 : Nat} (C : Cx Γ "RiverTuesdays$Bed" b_Bed_readHouse 5 2 (some .int) (some (.int rr)) DD G) (h0 : kd a0 = 0) (h1 : kd a1 = 5) {v2 : Int32} {D : Dt} (hf : f_Bed_readHouse a0 a1 v2 D = some (rr, DD)) : G D 0 [(0, .ref (Γ.2.1 a0)), (1, .ref (Γ.2.1 a1)), (2, .int v2)] [] := by
  unfold f_Bed_readHouse at hf
  refine r_aload_n (pc := 0) C 1 d_Bed_readHouse_0 rfl rfl ?_
  refine r_iload_n (pc := 1) C 2 d_Bed_readHouse_1 rfl rfl ?_
  refine r_callVi (pc := 2) (As := [.int v2]) (rest := []) C ok_Text_kindAt Lm_Bed_77 h1 (by decide) ⟨by decide, by decide⟩ rfl rfl (Nat.le_of_ble_eq_true rfl) d_Bed_readHouse_2 hf (fun x D1 hc => c_Text_kindAt Γ h1 hc) (fun x1 D2 hf => ?_)
  refine r_istore_n (pc := 5) (lv' := [(3, .int x1), (0, .ref (Γ.2.1 a0)), (1, .ref (Γ.2.1 a1)), (2, .int v2)]) C d_Bed_readHouse_5 rfl (Nat.le_of_ble_eq_true rfl) rfl ?_
  refine r_aload_n (pc := 6) C 1 d_Bed_readHouse_6 rfl rfl ?_
  refine g_Bed_houses (pc := 7) C h0 Lf_Bed_33 d_Bed_readHouse_7 ?_
  refine r_bipush (pc := 10) C (v := 8) d_Bed_readHouse_10 (by decide) ?_
  refine r_icmp_ge (pc := 12) C (tgt := 20) d_Bed_readHouse_12 (by decide) hf (fun c12 hf => ?_) (fun c12 hf => ?_)
  · refine r_iload_n (pc := 20) C 3 d_Bed_readHouse_20 rfl rfl ?_
    exact r_iret (pc := 21) C d_Bed_readHouse_21 hf
  · refine r_iload_n (pc := 15) C 0 d_Bed_readHouse_15 rfl rfl ?_
    refine r_iconst (pc := 16) C (v := (-1)) d_Bed_readHouse_16 (by decide) ?_
    refine r_icmp_ne (pc := 17) C (tgt := 22) d_Bed_readHouse_17 (by decide) hf (fun c17 hf => ?_) (fun c17 hf => ?_)
    · refine r_iconst (pc := 22) C (v := 1) d_Bed_readHouse_22 (by decide) ?_
      refine r_istore (pc := 23) (lv' := [(4, .int 1), (3, .int x1), (0, .ref (Γ.2.1 a0)), (1, .ref (Γ.2.1 a1)), (2, .int v2)]) C d_Bed_readHouse_23 (Nat.le_of_ble_eq_true rfl) rfl ?_
      exact r_lv (pc := 25) C [2, 3, 4, 1, 0] rfl (tl_Bed_readHouse_25 C h0 h1 FU v2 x1 1 D2 hf)
    · refine r_iload_n (pc := 20) C 3 d_Bed_readHouse_20 rfl rfl ?_
      exact r_iret (pc := 21) C d_Bed_readHouse_21 hf
theorem c_Bed_readHouse (Γ : GmT) {a0 : Nat} {a1 : Nat} {v2 : Int32} (h0 : kd a0 = 0) (h1 : kd a1 = 5) {D : Dt} {rr : Int32} {DD : Dt} (hf : f_Bed_readHouse a0 a1 v2 D = some (rr, DD)) : Mt Γ y_Bed_readHouse b_Bed_readHouse 5 (some .int) 2 [.ref (Γ.2.1 a0), .ref (Γ.2.1 a1), .int v2] D (some (.int rr)) DD := Mt_of (by decide) (Nat.le_of_ble_eq_true rfl) (fun G C => te_Bed_readHouse C h0 h1 hf)
def s_Bed_readHouses_9 (a0 : Nat) (a1 : Nat) (k9 : Int32 → Int32 → Dt → Option (Int32 × Dt)) (v3 : Int32) (v4 : Int32) (D : Dt) : Option (Int32 × Dt) :=
  (if 8 < v4 then some ((-9), D) else (if (D a1 1) ≤ v3 then some ((-9), D) else bnd (f_Bed_readHouse a0 a1 v3 D) (fun x3 D4 => (if x3 = (-9) then bnd (f_Text_behindBlanks a1 (v3 + 4) D4) (fun x5 D6 => k9 x5 (v4 + 1) D6) else some (x3, D4)))))
def lp_Bed_readHouses_9 (a0 : Nat) (a1 : Nat) (n : Nat) : Int32 → Int32 → Dt → Option (Int32 × Dt) := itr (fun _ _ _ => none) (s_Bed_readHouses_9 a0 a1) n
set_option maxHeartbeats 4000000 in
theorem ts_Bed_readHouses_9 {Γ : GmT} {G : Dt → Nat → List (Nat × Value) → List Value → Prop} {rr : Int32} {DD : Dt} {a0 : Nat} {a1 : Nat} (C : Cx Γ "RiverTuesdays$Bed" b_Bed_readHouses 6 3 (some .int) (some (.int rr)) DD G) (h0 : kd a0 = 0) (h1 : kd a1 = 5) {k9 : Int32 → Int32 → Dt → Option (Int32 × Dt)} (hk9 : ∀ (v3 : Int32) (v4 : Int32) (D : Dt), k9 v3 v4 D = some (rr, DD) → G D 9 [(0, .ref (Γ.2.1 a0)), (1, .ref (Γ.2.1 a1)), (3, .int v3), (4, .int v4)] []) {v3 : Int32} {v4 : Int32} {D : Dt} (hf : s_Bed_readHouses_9 a0 a1 k9 v3 v4 D = some (rr, DD)) : G D 9 [(0, .ref (Γ.2.1 a0)), (1, .ref (Γ.2.1 a1)), (3, .int v3), (4, .int v4)] [] := by
  unfold s_Bed_readHouses_9 at hf
  refine r_iload (pc := 9) C 3 d_Bed_readHouses_9 rfl ?_
  refine r_bipush (pc := 11) C (v := 8) d_Bed_readHouses_11 (by decide) ?_
  refine r_icmp_gt (pc := 13) C (tgt := 56) d_Bed_readHouses_13 (by decide) hf (fun c13 hf => ?_) (fun c13 hf => ?_)
  · refine r_bipush (pc := 56) C (v := (-9)) d_Bed_readHouses_56 (by decide) ?_
    exact r_iret (pc := 58) C d_Bed_readHouses_58 hf
  · refine r_iload_n (pc := 16) C 2 d_Bed_readHouses_16 rfl rfl ?_
    refine r_aload_n (pc := 17) C 1 d_Bed_readHouses_17 rfl rfl ?_
    refine g_Text_size (pc := 18) C h1 Lf_Bed_60 d_Bed_readHouses_18 ?_
    refine r_icmp_ge (pc := 21) C (tgt := 56) d_Bed_readHouses_21 (by decide) hf (fun c21 hf => ?_) (fun c21 hf => ?_)
    · refine r_bipush (pc := 56) C (v := (-9)) d_Bed_readHouses_56 (by decide) ?_
      exact r_iret (pc := 58) C d_Bed_readHouses_58 hf
    · refine r_aload_n (pc := 24) C 0 d_Bed_readHouses_24 rfl rfl ?_
      refine r_aload_n (pc := 25) C 1 d_Bed_readHouses_25 rfl rfl ?_
      refine r_iload_n (pc := 26) C 2 d_Bed_readHouses_26 rfl rfl ?_
      refine r_callVi (pc := 27) (As := [.ref (Γ.2.1 a1), .int v3]) (rest := []) C ok_Bed_readHouse Lm_Bed_74 h0 (by decide) ⟨by decide, by decide⟩ rfl rfl (Nat.le_of_ble_eq_true rfl) d_Bed_readHouses_27 hf (fun x D1 hc => c_Bed_readHouse Γ h0 h1 hc) (fun x3 D4 hf => ?_)
      refine r_istore (pc := 30) (lv' := [(5, .int x3), (0, .ref (Γ.2.1 a0)), (1, .ref (Γ.2.1 a1)), (3, .int v3), (4, .int v4)]) C d_Bed_readHouses_30 (Nat.le_of_ble_eq_true rfl) rfl ?_
      refine r_iload (pc := 32) C 0 d_Bed_readHouses_32 rfl ?_
      refine r_bipush (pc := 34) C (v := (-9)) d_Bed_readHouses_34 (by decide) ?_
      refine r_icmp_eq (pc := 36) C (tgt := 42) d_Bed_readHouses_36 (by decide) hf (fun c36 hf => ?_) (fun c36 hf => ?_)
      · refine r_aload_n (pc := 42) C 2 d_Bed_readHouses_42 rfl rfl ?_
        refine r_iload_n (pc := 43) C 3 d_Bed_readHouses_43 rfl rfl ?_
        refine r_iconst (pc := 44) C (v := 4) d_Bed_readHouses_44 (by decide) ?_
        refine r_iadd (pc := 45) C d_Bed_readHouses_45 ?_
        refine r_callVi (pc := 46) (As := [.int (v3 + 4)]) (rest := []) C ok_Text_behindBlanks Lm_Bed_54 h1 (by decide) ⟨by decide, by decide⟩ rfl rfl (Nat.le_of_ble_eq_true rfl) d_Bed_readHouses_46 hf (fun x D1 hc => c_Text_behindBlanks Γ h1 hc) (fun x5 D6 hf => ?_)
        refine r_istore_n (pc := 49) (lv' := [(3, .int x5), (5, .int x3), (0, .ref (Γ.2.1 a0)), (1, .ref (Γ.2.1 a1)), (4, .int v4)]) C d_Bed_readHouses_49 rfl (Nat.le_of_ble_eq_true rfl) rfl ?_
        refine r_iinc (pc := 50) C (v := v4 + 1) (lv' := [(4, .int (v4 + 1)), (3, .int x5), (5, .int x3), (0, .ref (Γ.2.1 a0)), (1, .ref (Γ.2.1 a1))]) 4 d_Bed_readHouses_50 rfl rfl (Nat.le_of_ble_eq_true rfl) rfl ?_
        refine r_goto (pc := 53) C (tgt := 9) d_Bed_readHouses_53 (by decide) ?_
        exact r_lv (pc := 9) C [3, 4, 1, 0] rfl (hk9 x5 (v4 + 1) D6 hf)
      · refine r_iload (pc := 39) C 0 d_Bed_readHouses_39 rfl ?_
        exact r_iret (pc := 41) C d_Bed_readHouses_41 hf
theorem tl_Bed_readHouses_9 {Γ : GmT} {G : Dt → Nat → List (Nat × Value) → List Value → Prop} {rr : Int32} {DD : Dt} {a0 : Nat} {a1 : Nat} (C : Cx Γ "RiverTuesdays$Bed" b_Bed_readHouses 6 3 (some .int) (some (.int rr)) DD G) (h0 : kd a0 = 0) (h1 : kd a1 = 5) : ∀ (n : Nat) (v3 : Int32) (v4 : Int32) (D : Dt), lp_Bed_readHouses_9 a0 a1 n v3 v4 D = some (rr, DD) → G D 9 [(0, .ref (Γ.2.1 a0)), (1, .ref (Γ.2.1 a1)), (3, .int v3), (4, .int v4)] [] := by
  intro n
  induction n with
  | zero =>
    intro v3 v4 D hf
    exact absurd (show (none : Option (Int32 × Dt)) = some (rr, DD) from hf) (by simp)
  | succ n ih =>
    intro v3 v4 D hf
    exact ts_Bed_readHouses_9 C h0 h1 (k9 := lp_Bed_readHouses_9 a0 a1 n) ih hf
def f_Bed_readHouses (a0 : Nat) (a1 : Nat) (v2 : Int32) (D : Dt) : Option (Int32 × Dt) :=
  bnd (f_Text_behindBlanks a1 v2 D) (fun x1 D2 => lp_Bed_readHouses_9 a0 a1 FU x1 0 D2)
set_option maxHeartbeats 4000000 in
theorem te_Bed_readHouses {Γ : GmT} {G : Dt → Nat → List (Nat × Value) → List Value → Prop} {rr : Int32} {DD : Dt} {a0 : Nat} {a1 : Nat} (C : Cx Γ "RiverTuesdays$Bed" b_Bed_readHouses 6 3 (some .int) (some (.int rr)) DD G) (h0 : kd a0 = 0) (h1 : kd a1 = 5) {v2 : Int32} {D : Dt} (hf : f_Bed_readHouses a0 a1 v2 D = some (rr, DD)) : G D 0 [(0, .ref (Γ.2.1 a0)), (1, .ref (Γ.2.1 a1)), (2, .int v2)] [] := by
  unfold f_Bed_readHouses at hf
  refine r_aload_n (pc := 0) C 1 d_Bed_readHouses_0 rfl rfl ?_
  refine r_iload_n (pc := 1) C 2 d_Bed_readHouses_1 rfl rfl ?_
  refine r_callVi (pc := 2) (As := [.int v2]) (rest := []) C ok_Text_behindBlanks Lm_Bed_54 h1 (by decide) ⟨by decide, by decide⟩ rfl rfl (Nat.le_of_ble_eq_true rfl) d_Bed_readHouses_2 hf (fun x D1 hc => c_Text_behindBlanks Γ h1 hc) (fun x1 D2 hf => ?_)
  refine r_istore_n (pc := 5) (lv' := [(3, .int x1), (0, .ref (Γ.2.1 a0)), (1, .ref (Γ.2.1 a1)), (2, .int v2)]) C d_Bed_readHouses_5 rfl (Nat.le_of_ble_eq_true rfl) rfl ?_
  refine r_iconst (pc := 6) C (v := 0) d_Bed_readHouses_6 (by decide) ?_
  refine r_istore (pc := 7) (lv' := [(4, .int 0), (3, .int x1), (0, .ref (Γ.2.1 a0)), (1, .ref (Γ.2.1 a1)), (2, .int v2)]) C d_Bed_readHouses_7 (Nat.le_of_ble_eq_true rfl) rfl ?_
  exact r_lv (pc := 9) C [2, 3, 1, 0] rfl (tl_Bed_readHouses_9 C h0 h1 FU x1 0 D2 hf)
theorem c_Bed_readHouses (Γ : GmT) {a0 : Nat} {a1 : Nat} {v2 : Int32} (h0 : kd a0 = 0) (h1 : kd a1 = 5) {D : Dt} {rr : Int32} {DD : Dt} (hf : f_Bed_readHouses a0 a1 v2 D = some (rr, DD)) : Mt Γ y_Bed_readHouses b_Bed_readHouses 6 (some .int) 3 [.ref (Γ.2.1 a0), .ref (Γ.2.1 a1), .int v2] D (some (.int rr)) DD := Mt_of (by decide) (Nat.le_of_ble_eq_true rfl) (fun G C => te_Bed_readHouses C h0 h1 hf)
def f_Bed_readStreet (a0 : Nat) (a1 : Nat) (D : Dt) : Option (Int32 × Dt) :=
  nm (wr D a0 5 0) (fun D1 => bnd (f_J_fillI (a0 + 5) 0 D1) (fun x2 D3 => bnd (f_Text_behindBlanks a1 0 D3) (fun x4 D5 => (if (D5 a1 1) ≤ x4 then some (x4, D5) else (if inb x4 60 = true then (if (D5 (a1 + 1) x4.toNatClampNeg) = 113 then bnd (f_Text_figureAt a1 (x4 + 1) D5) (fun x6 D7 => nm (wr D7 a0 6 x6) (fun D8 => (if 1 ≤ (D8 a0 6) then bnd (f_Text_figureAt a1 (x4 + 2) D8) (fun x9 D10 => nm (wr D10 a0 7 x9) (fun D11 => (if (D11 a0 7) = (-1) then some (x4 + 2, D11) else bnd (f_Bed_readHouses a0 a1 (x4 + 3) D11) (fun x12 D13 => some (x12, D13))))) else some (x4 + 1, D8)))) else some (x4, D5)) else none)))))
set_option maxHeartbeats 4000000 in
theorem te_Bed_readStreet {Γ : GmT} {G : Dt → Nat → List (Nat × Value) → List Value → Prop} {rr : Int32} {DD : Dt} {a0 : Nat} {a1 : Nat} (C : Cx Γ "RiverTuesdays$Bed" b_Bed_readStreet 3 4 (some .int) (some (.int rr)) DD G) (h0 : kd a0 = 0) (h1 : kd a1 = 5) {D : Dt} (hf : f_Bed_readStreet a0 a1 D = some (rr, DD)) : G D 0 [(0, .ref (Γ.2.1 a0)), (1, .ref (Γ.2.1 a1))] [] := by
  unfold f_Bed_readStreet at hf
  refine r_aload_n (pc := 0) C 0 d_Bed_readStreet_0 rfl rfl ?_
  refine r_iconst (pc := 1) C (v := 0) d_Bed_readStreet_1 (by decide) ?_
  refine p_Bed_houses (pc := 2) C h0 Lf_Bed_33 d_Bed_readStreet_2 ?_
  refine r_nmD hf (fun D1 hf => ?_)
  refine r_aload_n (pc := 5) C 0 d_Bed_readStreet_5 rfl rfl ?_
  refine g_Bed_shutBit (pc := 6) C h0 Lf_Bed_24 d_Bed_readStreet_6 ?_
  refine r_iconst (pc := 9) C (v := 0) d_Bed_readStreet_9 (by decide) ?_
  refine r_callSv (pc := 10) (As := [.ref (Γ.2.1 (a0 + 5)), .int 0]) (rest := []) C ok_J_fillI Lm_Bed_48 ⟨by decide, by decide⟩ rfl rfl (Nat.le_of_ble_eq_true rfl) d_Bed_readStreet_10 hf (fun x D1 hc => c_J_fillI Γ ((kq_Bed_shutBit h0)).1 hc) (fun x2 D3 hf => ?_)
  refine r_aload_n (pc := 13) C 1 d_Bed_readStreet_13 rfl rfl ?_
  refine r_iconst (pc := 14) C (v := 0) d_Bed_readStreet_14 (by decide) ?_
  refine r_callVi (pc := 15) (As := [.int 0]) (rest := []) C ok_Text_behindBlanks Lm_Bed_54 h1 (by decide) ⟨by decide, by decide⟩ rfl rfl (Nat.le_of_ble_eq_true rfl) d_Bed_readStreet_15 hf (fun x D1 hc => c_Text_behindBlanks Γ h1 hc) (fun x4 D5 hf => ?_)
  refine r_istore_n (pc := 18) (lv' := [(2, .int x4), (0, .ref (Γ.2.1 a0)), (1, .ref (Γ.2.1 a1))]) C d_Bed_readStreet_18 rfl (Nat.le_of_ble_eq_true rfl) rfl ?_
  refine r_iload_n (pc := 19) C 0 d_Bed_readStreet_19 rfl rfl ?_
  refine r_aload_n (pc := 20) C 2 d_Bed_readStreet_20 rfl rfl ?_
  refine g_Text_size (pc := 21) C h1 Lf_Bed_60 d_Bed_readStreet_21 ?_
  refine r_icmp_ge (pc := 24) C (tgt := 38) d_Bed_readStreet_24 (by decide) hf (fun c24 hf => ?_) (fun c24 hf => ?_)
  · refine r_iload_n (pc := 38) C 0 d_Bed_readStreet_38 rfl rfl ?_
    exact r_iret (pc := 39) C d_Bed_readStreet_39 hf
  · refine r_aload_n (pc := 27) C 2 d_Bed_readStreet_27 rfl rfl ?_
    refine g_Text_signs (pc := 28) C h1 Lf_Bed_63 d_Bed_readStreet_28 ?_
    refine r_iload_n (pc := 31) C 0 d_Bed_readStreet_31 rfl rfl ?_
    refine r_bald (pc := 32) C (kq_Text_signs h1) d_Bed_readStreet_32 hf (fun hf => ?_)
    refine r_bipush (pc := 33) C (v := 113) d_Bed_readStreet_33 (by decide) ?_
    refine r_icmp_eq (pc := 35) C (tgt := 40) d_Bed_readStreet_35 (by decide) hf (fun c35 hf => ?_) (fun c35 hf => ?_)
    · refine r_aload_n (pc := 40) C 1 d_Bed_readStreet_40 rfl rfl ?_
      refine r_aload_n (pc := 41) C 2 d_Bed_readStreet_41 rfl rfl ?_
      refine r_iload_n (pc := 42) C 0 d_Bed_readStreet_42 rfl rfl ?_
      refine r_iconst (pc := 43) C (v := 1) d_Bed_readStreet_43 (by decide) ?_
      refine r_iadd (pc := 44) C d_Bed_readStreet_44 ?_
      refine r_callVi (pc := 45) (As := [.int (x4 + 1)]) (rest := [.ref (Γ.2.1 a0)]) C ok_Text_figureAt Lm_Bed_67 h1 (by decide) ⟨by decide, by decide⟩ rfl rfl (Nat.le_of_ble_eq_true rfl) d_Bed_readStreet_45 hf (fun x D1 hc => c_Text_figureAt Γ h1 hc) (fun x6 D7 hf => ?_)
      refine p_Bed_inflow (pc := 48) C h0 Lf_Bed_37 d_Bed_readStreet_48 ?_
      refine r_nmD hf (fun D8 hf => ?_)
      refine r_aload_n (pc := 51) C 1 d_Bed_readStreet_51 rfl rfl ?_
      refine g_Bed_inflow (pc := 52) C h0 Lf_Bed_37 d_Bed_readStreet_52 ?_
      refine r_iconst (pc := 55) C (v := 1) d_Bed_readStreet_55 (by decide) ?_
      refine r_icmp_ge (pc := 56) C (tgt := 63) d_Bed_readStreet_56 (by decide) hf (fun c56 hf => ?_) (fun c56 hf => ?_)
      · refine r_aload_n (pc := 63) C 1 d_Bed_readStreet_63 rfl rfl ?_
        refine r_aload_n (pc := 64) C 2 d_Bed_readStreet_64 rfl rfl ?_
        refine r_iload_n (pc := 65) C 0 d_Bed_readStreet_65 rfl rfl ?_
        refine r_iconst (pc := 66) C (v := 2) d_Bed_readStreet_66 (by decide) ?_
        refine r_iadd (pc := 67) C d_Bed_readStreet_67 ?_
        refine r_callVi (pc := 68) (As := [.int (x4 + 2)]) (rest := [.ref (Γ.2.1 a0)]) C ok_Text_figureAt Lm_Bed_67 h1 (by decide) ⟨by decide, by decide⟩ rfl rfl (Nat.le_of_ble_eq_true rfl) d_Bed_readStreet_68 hf (fun x D1 hc => c_Text_figureAt Γ h1 hc) (fun x9 D10 hf => ?_)
        refine p_Bed_sea (pc := 71) C h0 Lf_Bed_40 d_Bed_readStreet_71 ?_
        refine r_nmD hf (fun D11 hf => ?_)
        refine r_aload_n (pc := 74) C 1 d_Bed_readStreet_74 rfl rfl ?_
        refine g_Bed_sea (pc := 75) C h0 Lf_Bed_40 d_Bed_readStreet_75 ?_
        refine r_iconst (pc := 78) C (v := (-1)) d_Bed_readStreet_78 (by decide) ?_
        refine r_icmp_ne (pc := 79) C (tgt := 86) d_Bed_readStreet_79 (by decide) hf (fun c79 hf => ?_) (fun c79 hf => ?_)
        · refine r_aload_n (pc := 86) C 1 d_Bed_readStreet_86 rfl rfl ?_
          refine r_aload_n (pc := 87) C 2 d_Bed_readStreet_87 rfl rfl ?_
          refine r_iload_n (pc := 88) C 0 d_Bed_readStreet_88 rfl rfl ?_
          refine r_iconst (pc := 89) C (v := 3) d_Bed_readStreet_89 (by decide) ?_
          refine r_iadd (pc := 90) C d_Bed_readStreet_90 ?_
          refine r_callVi (pc := 91) (As := [.ref (Γ.2.1 a1), .int (x4 + 3)]) (rest := []) C ok_Bed_readHouses Lm_Bed_70 h0 (by decide) ⟨by decide, by decide⟩ rfl rfl (Nat.le_of_ble_eq_true rfl) d_Bed_readStreet_91 hf (fun x D1 hc => c_Bed_readHouses Γ h0 h1 hc) (fun x12 D13 hf => ?_)
          exact r_iret (pc := 94) C d_Bed_readStreet_94 hf
        · refine r_iload_n (pc := 82) C 0 d_Bed_readStreet_82 rfl rfl ?_
          refine r_iconst (pc := 83) C (v := 2) d_Bed_readStreet_83 (by decide) ?_
          refine r_iadd (pc := 84) C d_Bed_readStreet_84 ?_
          exact r_iret (pc := 85) C d_Bed_readStreet_85 hf
      · refine r_iload_n (pc := 59) C 0 d_Bed_readStreet_59 rfl rfl ?_
        refine r_iconst (pc := 60) C (v := 1) d_Bed_readStreet_60 (by decide) ?_
        refine r_iadd (pc := 61) C d_Bed_readStreet_61 ?_
        exact r_iret (pc := 62) C d_Bed_readStreet_62 hf
    · refine r_iload_n (pc := 38) C 0 d_Bed_readStreet_38 rfl rfl ?_
      exact r_iret (pc := 39) C d_Bed_readStreet_39 hf
theorem c_Bed_readStreet (Γ : GmT) {a0 : Nat} {a1 : Nat} (h0 : kd a0 = 0) (h1 : kd a1 = 5) {D : Dt} {rr : Int32} {DD : Dt} (hf : f_Bed_readStreet a0 a1 D = some (rr, DD)) : Mt Γ y_Bed_readStreet b_Bed_readStreet 3 (some .int) 4 [.ref (Γ.2.1 a0), .ref (Γ.2.1 a1)] D (some (.int rr)) DD := Mt_of (by decide) (Nat.le_of_ble_eq_true rfl) (fun G C => te_Bed_readStreet C h0 h1 hf)
