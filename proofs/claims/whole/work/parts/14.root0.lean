/-! 14.root0: printed by wip/whole/gen/gmeth.py out of the bytecode -/
abbrev b_Root_find : ByteArray := prog_1_method_51_code
abbrev y_Root_find : MethodName := ⟨"RiverTuesdays", "find", "(I)I"⟩
theorem ok_Root_find : okV y_Root_find b_Root_find 2 (some .int) 1 8 := ⟨mGW (List.mem_of_getElem? (i := 388) (by decide +kernel)) rfl, mGW (List.mem_of_getElem? (i := 0) (by decide +kernel)) rfl, mGW (List.mem_of_getElem? (i := 74) (by decide +kernel)) rfl, mGW (List.mem_of_getElem? (i := 389) (by decide +kernel)) rfl, ⟨by decide, by decide, by decide +kernel⟩, rfl⟩
theorem d_Root_find_0 : decode b_Root_find 0 = .ok (.aload_n 0, 1) := by decide +kernel
theorem d_Root_find_1 : decode b_Root_find 1 = .ok (.iload_n 1, 1) := by decide +kernel
theorem d_Root_find_2 : decode b_Root_find 2 = .ok (.putfield 409, 3) := by decide +kernel
theorem d_Root_find_5 : decode b_Root_find 5 = .ok (.aload_n 0, 1) := by decide +kernel
theorem d_Root_find_6 : decode b_Root_find 6 = .ok (.getfield 75, 3) := by decide +kernel
theorem d_Root_find_9 : decode b_Root_find 9 = .ok (.iload_n 1, 1) := by decide +kernel
theorem d_Root_find_10 : decode b_Root_find 10 = .ok (.dup2, 1) := by decide +kernel
theorem d_Root_find_11 : decode b_Root_find 11 = .ok (.iaload, 1) := by decide +kernel
theorem d_Root_find_12 : decode b_Root_find 12 = .ok (.iconst 1, 1) := by decide +kernel
theorem d_Root_find_13 : decode b_Root_find 13 = .ok (.iadd, 1) := by decide +kernel
theorem d_Root_find_14 : decode b_Root_find 14 = .ok (.iastore, 1) := by decide +kernel
theorem d_Root_find_15 : decode b_Root_find 15 = .ok (.bipush (-3), 2) := by decide +kernel
theorem d_Root_find_17 : decode b_Root_find 17 = .ok (.ireturn, 1) := by decide +kernel
abbrev b_Root_isRow : ByteArray := prog_1_method_54_code
abbrev y_Root_isRow : MethodName := ⟨"RiverTuesdays", "isRow", "(I)Z"⟩
theorem ok_Root_isRow : okS y_Root_isRow b_Root_isRow 1 (some .boolean) 1 := ⟨mGW (List.mem_of_getElem? (i := 381) (by decide +kernel)) rfl, mGW (List.mem_of_getElem? (i := 74) (by decide +kernel)) rfl, mGW (List.mem_of_getElem? (i := 382) (by decide +kernel)) rfl, ⟨by decide, by decide, by decide +kernel⟩⟩
theorem d_Root_isRow_0 : decode b_Root_isRow 0 = .ok (.iload_n 0, 1) := by decide +kernel
theorem d_Root_isRow_1 : decode b_Root_isRow 1 = .ok (.iconst 0, 1) := by decide +kernel
theorem d_Root_isRow_2 : decode b_Root_isRow 2 = .ok (.iconst 5, 1) := by decide +kernel
theorem d_Root_isRow_3 : decode b_Root_isRow 3 = .ok (.invokestatic 155, 3) := by decide +kernel
theorem d_Root_isRow_6 : decode b_Root_isRow 6 = .ok (.ireturn, 1) := by decide +kernel
abbrev b_Root_row : ByteArray := prog_1_method_2_code
abbrev y_Root_row : MethodName := ⟨"RiverTuesdays", "row", "(II)I"⟩
theorem ok_Root_row : okV y_Root_row b_Root_row 3 (some .int) 2 8 := ⟨mGW (List.mem_of_getElem? (i := 377) (by decide +kernel)) rfl, mGW (List.mem_of_getElem? (i := 378) (by decide +kernel)) rfl, mGW (List.mem_of_getElem? (i := 74) (by decide +kernel)) rfl, mGW (List.mem_of_getElem? (i := 379) (by decide +kernel)) rfl, ⟨by decide, by decide, by decide +kernel⟩, rfl⟩
theorem d_Root_row_0 : decode b_Root_row 0 = .ok (.iload_n 1, 1) := by decide +kernel
theorem d_Root_row_1 : decode b_Root_row 1 = .ok (.invokestatic 80, 3) := by decide +kernel
theorem d_Root_row_4 : decode b_Root_row 4 = .ok (.ifCond .eq 9, 3) := by decide +kernel
theorem d_Root_row_7 : decode b_Root_row 7 = .ok (.iload_n 2, 1) := by decide +kernel
theorem d_Root_row_8 : decode b_Root_row 8 = .ok (.bipush 60, 2) := by decide +kernel
theorem d_Root_row_10 : decode b_Root_row 10 = .ok (.if_icmp .le 5, 3) := by decide +kernel
theorem d_Root_row_13 : decode b_Root_row 13 = .ok (.iconst (-1), 1) := by decide +kernel
theorem d_Root_row_14 : decode b_Root_row 14 = .ok (.ireturn, 1) := by decide +kernel
theorem d_Root_row_15 : decode b_Root_row 15 = .ok (.iload_n 2, 1) := by decide +kernel
theorem d_Root_row_16 : decode b_Root_row 16 = .ok (.ifCond .ge 9, 3) := by decide +kernel
theorem d_Root_row_19 : decode b_Root_row 19 = .ok (.aload_n 0, 1) := by decide +kernel
theorem d_Root_row_20 : decode b_Root_row 20 = .ok (.iconst 5, 1) := by decide +kernel
theorem d_Root_row_21 : decode b_Root_row 21 = .ok (.invokevirtual 84, 3) := by decide +kernel
theorem d_Root_row_24 : decode b_Root_row 24 = .ok (.ireturn, 1) := by decide +kernel
theorem d_Root_row_25 : decode b_Root_row 25 = .ok (.aload_n 0, 1) := by decide +kernel
theorem d_Root_row_26 : decode b_Root_row 26 = .ok (.getfield 11, 3) := by decide +kernel
theorem d_Root_row_29 : decode b_Root_row 29 = .ok (.iload_n 1, 1) := by decide +kernel
theorem d_Root_row_30 : decode b_Root_row 30 = .ok (.aaload, 1) := by decide +kernel
theorem d_Root_row_31 : decode b_Root_row 31 = .ok (.iload_n 2, 1) := by decide +kernel
theorem d_Root_row_32 : decode b_Root_row 32 = .ok (.invokevirtual 88, 3) := by decide +kernel
theorem d_Root_row_35 : decode b_Root_row 35 = .ok (.iload_n 2, 1) := by decide +kernel
theorem d_Root_row_36 : decode b_Root_row 36 = .ok (.ireturn, 1) := by decide +kernel
abbrev b_Root_refusedRow : ByteArray := prog_1_method_59_code
abbrev y_Root_refusedRow : MethodName := ⟨"RiverTuesdays", "refusedRow", "(I)I"⟩
theorem ok_Root_refusedRow : okV y_Root_refusedRow b_Root_refusedRow 2 (some .int) 1 8 := ⟨mGW (List.mem_of_getElem? (i := 407) (by decide +kernel)) rfl, mGW (List.mem_of_getElem? (i := 2) (by decide +kernel)) rfl, mGW (List.mem_of_getElem? (i := 74) (by decide +kernel)) rfl, mGW (List.mem_of_getElem? (i := 408) (by decide +kernel)) rfl, ⟨by decide, by decide, by decide +kernel⟩, rfl⟩
theorem d_Root_refusedRow_0 : decode b_Root_refusedRow 0 = .ok (.iload_n 1, 1) := by decide +kernel
theorem d_Root_refusedRow_1 : decode b_Root_refusedRow 1 = .ok (.invokestatic 80, 3) := by decide +kernel
theorem d_Root_refusedRow_4 : decode b_Root_refusedRow 4 = .ok (.ifCond .ne 5, 3) := by decide +kernel
theorem d_Root_refusedRow_7 : decode b_Root_refusedRow 7 = .ok (.iconst (-1), 1) := by decide +kernel
theorem d_Root_refusedRow_8 : decode b_Root_refusedRow 8 = .ok (.ireturn, 1) := by decide +kernel
theorem d_Root_refusedRow_9 : decode b_Root_refusedRow 9 = .ok (.aload_n 0, 1) := by decide +kernel
theorem d_Root_refusedRow_10 : decode b_Root_refusedRow 10 = .ok (.getfield 11, 3) := by decide +kernel
theorem d_Root_refusedRow_13 : decode b_Root_refusedRow 13 = .ok (.iload_n 1, 1) := by decide +kernel
theorem d_Root_refusedRow_14 : decode b_Root_refusedRow 14 = .ok (.aaload, 1) := by decide +kernel
theorem d_Root_refusedRow_15 : decode b_Root_refusedRow 15 = .ok (.invokevirtual 109, 3) := by decide +kernel
theorem d_Root_refusedRow_18 : decode b_Root_refusedRow 18 = .ok (.ifCond .eq 7, 3) := by decide +kernel
theorem d_Root_refusedRow_21 : decode b_Root_refusedRow 21 = .ok (.iconst 0, 1) := by decide +kernel
theorem d_Root_refusedRow_22 : decode b_Root_refusedRow 22 = .ok (.goto 8, 3) := by decide +kernel
theorem d_Root_refusedRow_25 : decode b_Root_refusedRow 25 = .ok (.aload_n 0, 1) := by decide +kernel
theorem d_Root_refusedRow_26 : decode b_Root_refusedRow 26 = .ok (.iconst 1, 1) := by decide +kernel
theorem d_Root_refusedRow_27 : decode b_Root_refusedRow 27 = .ok (.invokevirtual 84, 3) := by decide +kernel
theorem d_Root_refusedRow_30 : decode b_Root_refusedRow 30 = .ok (.ireturn, 1) := by decide +kernel
abbrev b_Root_refusedPlace : ByteArray := prog_1_method_60_code
abbrev y_Root_refusedPlace : MethodName := ⟨"RiverTuesdays", "refusedPlace", "(II)I"⟩
theorem ok_Root_refusedPlace : okV y_Root_refusedPlace b_Root_refusedPlace 4 (some .int) 2 8 := ⟨mGW (List.mem_of_getElem? (i := 403) (by decide +kernel)) rfl, mGW (List.mem_of_getElem? (i := 1) (by decide +kernel)) rfl, mGW (List.mem_of_getElem? (i := 74) (by decide +kernel)) rfl, mGW (List.mem_of_getElem? (i := 404) (by decide +kernel)) rfl, ⟨by decide, by decide, by decide +kernel⟩, rfl⟩
theorem d_Root_refusedPlace_0 : decode b_Root_refusedPlace 0 = .ok (.aload_n 0, 1) := by decide +kernel
theorem d_Root_refusedPlace_1 : decode b_Root_refusedPlace 1 = .ok (.iload_n 1, 1) := by decide +kernel
theorem d_Root_refusedPlace_2 : decode b_Root_refusedPlace 2 = .ok (.invokevirtual 102, 3) := by decide +kernel
theorem d_Root_refusedPlace_5 : decode b_Root_refusedPlace 5 = .ok (.istore_n 3, 1) := by decide +kernel
theorem d_Root_refusedPlace_6 : decode b_Root_refusedPlace 6 = .ok (.iload_n 3, 1) := by decide +kernel
theorem d_Root_refusedPlace_7 : decode b_Root_refusedPlace 7 = .ok (.ifCond .eq 5, 3) := by decide +kernel
theorem d_Root_refusedPlace_10 : decode b_Root_refusedPlace 10 = .ok (.iload_n 3, 1) := by decide +kernel
theorem d_Root_refusedPlace_11 : decode b_Root_refusedPlace 11 = .ok (.ireturn, 1) := by decide +kernel
theorem d_Root_refusedPlace_12 : decode b_Root_refusedPlace 12 = .ok (.iload_n 2, 1) := by decide +kernel
theorem d_Root_refusedPlace_13 : decode b_Root_refusedPlace 13 = .ok (.ifCond .lt 20, 3) := by decide +kernel
theorem d_Root_refusedPlace_16 : decode b_Root_refusedPlace 16 = .ok (.iload_n 2, 1) := by decide +kernel
theorem d_Root_refusedPlace_17 : decode b_Root_refusedPlace 17 = .ok (.aload_n 0, 1) := by decide +kernel
theorem d_Root_refusedPlace_18 : decode b_Root_refusedPlace 18 = .ok (.getfield 11, 3) := by decide +kernel
theorem d_Root_refusedPlace_21 : decode b_Root_refusedPlace 21 = .ok (.iload_n 1, 1) := by decide +kernel
theorem d_Root_refusedPlace_22 : decode b_Root_refusedPlace 22 = .ok (.aaload, 1) := by decide +kernel
theorem d_Root_refusedPlace_23 : decode b_Root_refusedPlace 23 = .ok (.getfield 105, 3) := by decide +kernel
theorem d_Root_refusedPlace_26 : decode b_Root_refusedPlace 26 = .ok (.if_icmp .ge 7, 3) := by decide +kernel
theorem d_Root_refusedPlace_29 : decode b_Root_refusedPlace 29 = .ok (.iconst 0, 1) := by decide +kernel
theorem d_Root_refusedPlace_30 : decode b_Root_refusedPlace 30 = .ok (.goto 8, 3) := by decide +kernel
theorem d_Root_refusedPlace_33 : decode b_Root_refusedPlace 33 = .ok (.aload_n 0, 1) := by decide +kernel
theorem d_Root_refusedPlace_34 : decode b_Root_refusedPlace 34 = .ok (.iconst 2, 1) := by decide +kernel
theorem d_Root_refusedPlace_35 : decode b_Root_refusedPlace 35 = .ok (.invokevirtual 84, 3) := by decide +kernel
theorem d_Root_refusedPlace_38 : decode b_Root_refusedPlace 38 = .ok (.ireturn, 1) := by decide +kernel
abbrev b_Root_tell : ByteArray := prog_1_method_52_code
abbrev y_Root_tell : MethodName := ⟨"RiverTuesdays", "tell", "(II)I"⟩
theorem ok_Root_tell : okV y_Root_tell b_Root_tell 3 (some .int) 2 8 := ⟨mGW (List.mem_of_getElem? (i := 415) (by decide +kernel)) rfl, mGW (List.mem_of_getElem? (i := 3) (by decide +kernel)) rfl, mGW (List.mem_of_getElem? (i := 74) (by decide +kernel)) rfl, mGW (List.mem_of_getElem? (i := 416) (by decide +kernel)) rfl, ⟨by decide, by decide, by decide +kernel⟩, rfl⟩
theorem d_Root_tell_0 : decode b_Root_tell 0 = .ok (.aload_n 0, 1) := by decide +kernel
theorem d_Root_tell_1 : decode b_Root_tell 1 = .ok (.iload_n 1, 1) := by decide +kernel
theorem d_Root_tell_2 : decode b_Root_tell 2 = .ok (.putfield 385, 3) := by decide +kernel
theorem d_Root_tell_5 : decode b_Root_tell 5 = .ok (.iload_n 2, 1) := by decide +kernel
theorem d_Root_tell_6 : decode b_Root_tell 6 = .ok (.ireturn, 1) := by decide +kernel
abbrev b_Root_lay : ByteArray := prog_1_method_3_code
abbrev y_Root_lay : MethodName := ⟨"RiverTuesdays", "lay", "(III)I"⟩
theorem ok_Root_lay : okV y_Root_lay b_Root_lay 6 (some .int) 3 8 := ⟨mGW (List.mem_of_getElem? (i := 398) (by decide +kernel)) rfl, mGW (List.mem_of_getElem? (i := 399) (by decide +kernel)) rfl, mGW (List.mem_of_getElem? (i := 74) (by decide +kernel)) rfl, mGW (List.mem_of_getElem? (i := 400) (by decide +kernel)) rfl, ⟨by decide, by decide, by decide +kernel⟩, rfl⟩
theorem d_Root_lay_0 : decode b_Root_lay 0 = .ok (.aload_n 0, 1) := by decide +kernel
theorem d_Root_lay_1 : decode b_Root_lay 1 = .ok (.iload_n 1, 1) := by decide +kernel
theorem d_Root_lay_2 : decode b_Root_lay 2 = .ok (.iload_n 2, 1) := by decide +kernel
theorem d_Root_lay_3 : decode b_Root_lay 3 = .ok (.invokevirtual 92, 3) := by decide +kernel
theorem d_Root_lay_6 : decode b_Root_lay 6 = .ok (.istore 4, 2) := by decide +kernel
theorem d_Root_lay_8 : decode b_Root_lay 8 = .ok (.iload 4, 2) := by decide +kernel
theorem d_Root_lay_10 : decode b_Root_lay 10 = .ok (.ifCond .eq 6, 3) := by decide +kernel
theorem d_Root_lay_13 : decode b_Root_lay 13 = .ok (.iload 4, 2) := by decide +kernel
theorem d_Root_lay_15 : decode b_Root_lay 15 = .ok (.ireturn, 1) := by decide +kernel
theorem d_Root_lay_16 : decode b_Root_lay 16 = .ok (.aload_n 0, 1) := by decide +kernel
theorem d_Root_lay_17 : decode b_Root_lay 17 = .ok (.getfield 11, 3) := by decide +kernel
theorem d_Root_lay_20 : decode b_Root_lay 20 = .ok (.iload_n 1, 1) := by decide +kernel
theorem d_Root_lay_21 : decode b_Root_lay 21 = .ok (.aaload, 1) := by decide +kernel
theorem d_Root_lay_22 : decode b_Root_lay 22 = .ok (.getfield 96, 3) := by decide +kernel
theorem d_Root_lay_25 : decode b_Root_lay 25 = .ok (.iload_n 2, 1) := by decide +kernel
theorem d_Root_lay_26 : decode b_Root_lay 26 = .ok (.iaload, 1) := by decide +kernel
theorem d_Root_lay_27 : decode b_Root_lay 27 = .ok (.istore 5, 2) := by decide +kernel
theorem d_Root_lay_29 : decode b_Root_lay 29 = .ok (.aload_n 0, 1) := by decide +kernel
theorem d_Root_lay_30 : decode b_Root_lay 30 = .ok (.getfield 11, 3) := by decide +kernel
theorem d_Root_lay_33 : decode b_Root_lay 33 = .ok (.iload_n 1, 1) := by decide +kernel
theorem d_Root_lay_34 : decode b_Root_lay 34 = .ok (.aaload, 1) := by decide +kernel
theorem d_Root_lay_35 : decode b_Root_lay 35 = .ok (.getfield 96, 3) := by decide +kernel
theorem d_Root_lay_38 : decode b_Root_lay 38 = .ok (.iload_n 2, 1) := by decide +kernel
theorem d_Root_lay_39 : decode b_Root_lay 39 = .ok (.iload_n 3, 1) := by decide +kernel
theorem d_Root_lay_40 : decode b_Root_lay 40 = .ok (.iastore, 1) := by decide +kernel
theorem d_Root_lay_41 : decode b_Root_lay 41 = .ok (.aload_n 0, 1) := by decide +kernel
theorem d_Root_lay_42 : decode b_Root_lay 42 = .ok (.iload 5, 2) := by decide +kernel
theorem d_Root_lay_44 : decode b_Root_lay 44 = .ok (.iconst 1, 1) := by decide +kernel
theorem d_Root_lay_45 : decode b_Root_lay 45 = .ok (.invokevirtual 99, 3) := by decide +kernel
theorem d_Root_lay_48 : decode b_Root_lay 48 = .ok (.ireturn, 1) := by decide +kernel
abbrev b_Root_at : ByteArray := prog_1_method_4_code
abbrev y_Root_at : MethodName := ⟨"RiverTuesdays", "at", "(II)I"⟩
theorem ok_Root_at : okV y_Root_at b_Root_at 4 (some .int) 2 8 := ⟨mGW (List.mem_of_getElem? (i := 418) (by decide +kernel)) rfl, mGW (List.mem_of_getElem? (i := 419) (by decide +kernel)) rfl, mGW (List.mem_of_getElem? (i := 74) (by decide +kernel)) rfl, mGW (List.mem_of_getElem? (i := 420) (by decide +kernel)) rfl, ⟨by decide, by decide, by decide +kernel⟩, rfl⟩
theorem d_Root_at_0 : decode b_Root_at 0 = .ok (.aload_n 0, 1) := by decide +kernel
theorem d_Root_at_1 : decode b_Root_at 1 = .ok (.iload_n 1, 1) := by decide +kernel
theorem d_Root_at_2 : decode b_Root_at 2 = .ok (.iload_n 2, 1) := by decide +kernel
theorem d_Root_at_3 : decode b_Root_at 3 = .ok (.invokevirtual 92, 3) := by decide +kernel
theorem d_Root_at_6 : decode b_Root_at 6 = .ok (.istore_n 3, 1) := by decide +kernel
theorem d_Root_at_7 : decode b_Root_at 7 = .ok (.iload_n 3, 1) := by decide +kernel
theorem d_Root_at_8 : decode b_Root_at 8 = .ok (.ifCond .eq 7, 3) := by decide +kernel
theorem d_Root_at_11 : decode b_Root_at 11 = .ok (.iload_n 3, 1) := by decide +kernel
theorem d_Root_at_12 : decode b_Root_at 12 = .ok (.goto 19, 3) := by decide +kernel
theorem d_Root_at_15 : decode b_Root_at 15 = .ok (.aload_n 0, 1) := by decide +kernel
theorem d_Root_at_16 : decode b_Root_at 16 = .ok (.aload_n 0, 1) := by decide +kernel
theorem d_Root_at_17 : decode b_Root_at 17 = .ok (.getfield 11, 3) := by decide +kernel
theorem d_Root_at_20 : decode b_Root_at 20 = .ok (.iload_n 1, 1) := by decide +kernel
theorem d_Root_at_21 : decode b_Root_at 21 = .ok (.aaload, 1) := by decide +kernel
theorem d_Root_at_22 : decode b_Root_at 22 = .ok (.getfield 96, 3) := by decide +kernel
theorem d_Root_at_25 : decode b_Root_at 25 = .ok (.iload_n 2, 1) := by decide +kernel
theorem d_Root_at_26 : decode b_Root_at 26 = .ok (.iaload, 1) := by decide +kernel
theorem d_Root_at_27 : decode b_Root_at 27 = .ok (.iconst 1, 1) := by decide +kernel
theorem d_Root_at_28 : decode b_Root_at 28 = .ok (.invokevirtual 99, 3) := by decide +kernel
theorem d_Root_at_31 : decode b_Root_at 31 = .ok (.ireturn, 1) := by decide +kernel
abbrev b_Root_tear : ByteArray := prog_1_method_5_code
abbrev y_Root_tear : MethodName := ⟨"RiverTuesdays", "tear", "(I)I"⟩
theorem ok_Root_tear : okV y_Root_tear b_Root_tear 3 (some .int) 1 8 := ⟨mGW (List.mem_of_getElem? (i := 422) (by decide +kernel)) rfl, mGW (List.mem_of_getElem? (i := 423) (by decide +kernel)) rfl, mGW (List.mem_of_getElem? (i := 74) (by decide +kernel)) rfl, mGW (List.mem_of_getElem? (i := 424) (by decide +kernel)) rfl, ⟨by decide, by decide, by decide +kernel⟩, rfl⟩
theorem d_Root_tear_0 : decode b_Root_tear 0 = .ok (.aload_n 0, 1) := by decide +kernel
theorem d_Root_tear_1 : decode b_Root_tear 1 = .ok (.iload_n 1, 1) := by decide +kernel
theorem d_Root_tear_2 : decode b_Root_tear 2 = .ok (.invokevirtual 102, 3) := by decide +kernel
theorem d_Root_tear_5 : decode b_Root_tear 5 = .ok (.istore_n 2, 1) := by decide +kernel
theorem d_Root_tear_6 : decode b_Root_tear 6 = .ok (.iload_n 2, 1) := by decide +kernel
theorem d_Root_tear_7 : decode b_Root_tear 7 = .ok (.ifCond .eq 5, 3) := by decide +kernel
theorem d_Root_tear_10 : decode b_Root_tear 10 = .ok (.iload_n 2, 1) := by decide +kernel
theorem d_Root_tear_11 : decode b_Root_tear 11 = .ok (.ireturn, 1) := by decide +kernel
theorem d_Root_tear_12 : decode b_Root_tear 12 = .ok (.aload_n 0, 1) := by decide +kernel
theorem d_Root_tear_13 : decode b_Root_tear 13 = .ok (.getfield 11, 3) := by decide +kernel
theorem d_Root_tear_16 : decode b_Root_tear 16 = .ok (.iload_n 1, 1) := by decide +kernel
theorem d_Root_tear_17 : decode b_Root_tear 17 = .ok (.aaload, 1) := by decide +kernel
theorem d_Root_tear_18 : decode b_Root_tear 18 = .ok (.iconst (-1), 1) := by decide +kernel
theorem d_Root_tear_19 : decode b_Root_tear 19 = .ok (.putfield 105, 3) := by decide +kernel
theorem d_Root_tear_22 : decode b_Root_tear 22 = .ok (.iconst 1, 1) := by decide +kernel
theorem d_Root_tear_23 : decode b_Root_tear 23 = .ok (.ireturn, 1) := by decide +kernel
abbrev b_Root_copy : ByteArray := prog_1_method_6_code
abbrev y_Root_copy : MethodName := ⟨"RiverTuesdays", "copy", "(IIIII)I"⟩
theorem ok_Root_copy : okV y_Root_copy b_Root_copy 6 (some .int) 5 8 := ⟨mGW (List.mem_of_getElem? (i := 426) (by decide +kernel)) rfl, mGW (List.mem_of_getElem? (i := 427) (by decide +kernel)) rfl, mGW (List.mem_of_getElem? (i := 74) (by decide +kernel)) rfl, mGW (List.mem_of_getElem? (i := 428) (by decide +kernel)) rfl, ⟨by decide, by decide, by decide +kernel⟩, rfl⟩
theorem d_Root_copy_0 : decode b_Root_copy 0 = .ok (.iload_n 1, 1) := by decide +kernel
theorem d_Root_copy_1 : decode b_Root_copy 1 = .ok (.invokestatic 80, 3) := by decide +kernel
theorem d_Root_copy_4 : decode b_Root_copy 4 = .ok (.ifCond .eq 10, 3) := by decide +kernel
theorem d_Root_copy_7 : decode b_Root_copy 7 = .ok (.iload_n 3, 1) := by decide +kernel
theorem d_Root_copy_8 : decode b_Root_copy 8 = .ok (.invokestatic 80, 3) := by decide +kernel
theorem d_Root_copy_11 : decode b_Root_copy 11 = .ok (.ifCond .ne 5, 3) := by decide +kernel
theorem d_Root_copy_14 : decode b_Root_copy 14 = .ok (.iconst (-1), 1) := by decide +kernel
theorem d_Root_copy_15 : decode b_Root_copy 15 = .ok (.ireturn, 1) := by decide +kernel
theorem d_Root_copy_16 : decode b_Root_copy 16 = .ok (.iload 5, 2) := by decide +kernel
theorem d_Root_copy_18 : decode b_Root_copy 18 = .ok (.ifCond .ge 9, 3) := by decide +kernel
theorem d_Root_copy_21 : decode b_Root_copy 21 = .ok (.aload_n 0, 1) := by decide +kernel
theorem d_Root_copy_22 : decode b_Root_copy 22 = .ok (.iconst 5, 1) := by decide +kernel
theorem d_Root_copy_23 : decode b_Root_copy 23 = .ok (.invokevirtual 84, 3) := by decide +kernel
theorem d_Root_copy_26 : decode b_Root_copy 26 = .ok (.ireturn, 1) := by decide +kernel
theorem d_Root_copy_27 : decode b_Root_copy 27 = .ok (.aload_n 0, 1) := by decide +kernel
theorem d_Root_copy_28 : decode b_Root_copy 28 = .ok (.getfield 11, 3) := by decide +kernel
theorem d_Root_copy_31 : decode b_Root_copy 31 = .ok (.iload_n 1, 1) := by decide +kernel
theorem d_Root_copy_32 : decode b_Root_copy 32 = .ok (.aaload, 1) := by decide +kernel
theorem d_Root_copy_33 : decode b_Root_copy 33 = .ok (.invokevirtual 109, 3) := by decide +kernel
theorem d_Root_copy_36 : decode b_Root_copy 36 = .ok (.ifCond .eq 15, 3) := by decide +kernel
theorem d_Root_copy_39 : decode b_Root_copy 39 = .ok (.aload_n 0, 1) := by decide +kernel
theorem d_Root_copy_40 : decode b_Root_copy 40 = .ok (.getfield 11, 3) := by decide +kernel
theorem d_Root_copy_43 : decode b_Root_copy 43 = .ok (.iload_n 3, 1) := by decide +kernel
theorem d_Root_copy_44 : decode b_Root_copy 44 = .ok (.aaload, 1) := by decide +kernel
theorem d_Root_copy_45 : decode b_Root_copy 45 = .ok (.invokevirtual 109, 3) := by decide +kernel
theorem d_Root_copy_48 : decode b_Root_copy 48 = .ok (.ifCond .ne 9, 3) := by decide +kernel
theorem d_Root_copy_51 : decode b_Root_copy 51 = .ok (.aload_n 0, 1) := by decide +kernel
theorem d_Root_copy_52 : decode b_Root_copy 52 = .ok (.iconst 1, 1) := by decide +kernel
theorem d_Root_copy_53 : decode b_Root_copy 53 = .ok (.invokevirtual 84, 3) := by decide +kernel
theorem d_Root_copy_56 : decode b_Root_copy 56 = .ok (.ireturn, 1) := by decide +kernel
theorem d_Root_copy_57 : decode b_Root_copy 57 = .ok (.aload_n 0, 1) := by decide +kernel
theorem d_Root_copy_58 : decode b_Root_copy 58 = .ok (.getfield 11, 3) := by decide +kernel
theorem d_Root_copy_61 : decode b_Root_copy 61 = .ok (.iload_n 1, 1) := by decide +kernel
theorem d_Root_copy_62 : decode b_Root_copy 62 = .ok (.aaload, 1) := by decide +kernel
theorem d_Root_copy_63 : decode b_Root_copy 63 = .ok (.iload_n 2, 1) := by decide +kernel
theorem d_Root_copy_64 : decode b_Root_copy 64 = .ok (.iload 5, 2) := by decide +kernel
theorem d_Root_copy_66 : decode b_Root_copy 66 = .ok (.invokevirtual 113, 3) := by decide +kernel
theorem d_Root_copy_69 : decode b_Root_copy 69 = .ok (.ifCond .eq 19, 3) := by decide +kernel
theorem d_Root_copy_72 : decode b_Root_copy 72 = .ok (.aload_n 0, 1) := by decide +kernel
theorem d_Root_copy_73 : decode b_Root_copy 73 = .ok (.getfield 11, 3) := by decide +kernel
theorem d_Root_copy_76 : decode b_Root_copy 76 = .ok (.iload_n 3, 1) := by decide +kernel
theorem d_Root_copy_77 : decode b_Root_copy 77 = .ok (.aaload, 1) := by decide +kernel
theorem d_Root_copy_78 : decode b_Root_copy 78 = .ok (.iload 4, 2) := by decide +kernel
theorem d_Root_copy_80 : decode b_Root_copy 80 = .ok (.iload 5, 2) := by decide +kernel
theorem d_Root_copy_82 : decode b_Root_copy 82 = .ok (.invokevirtual 113, 3) := by decide +kernel
theorem d_Root_copy_85 : decode b_Root_copy 85 = .ok (.ifCond .ne 9, 3) := by decide +kernel
theorem d_Root_copy_88 : decode b_Root_copy 88 = .ok (.aload_n 0, 1) := by decide +kernel
theorem d_Root_copy_89 : decode b_Root_copy 89 = .ok (.iconst 2, 1) := by decide +kernel
theorem d_Root_copy_90 : decode b_Root_copy 90 = .ok (.invokevirtual 84, 3) := by decide +kernel
theorem d_Root_copy_93 : decode b_Root_copy 93 = .ok (.ireturn, 1) := by decide +kernel
theorem d_Root_copy_94 : decode b_Root_copy 94 = .ok (.aload_n 0, 1) := by decide +kernel
theorem d_Root_copy_95 : decode b_Root_copy 95 = .ok (.getfield 11, 3) := by decide +kernel
theorem d_Root_copy_98 : decode b_Root_copy 98 = .ok (.iload_n 1, 1) := by decide +kernel
theorem d_Root_copy_99 : decode b_Root_copy 99 = .ok (.aaload, 1) := by decide +kernel
theorem d_Root_copy_100 : decode b_Root_copy 100 = .ok (.getfield 96, 3) := by decide +kernel
theorem d_Root_copy_103 : decode b_Root_copy 103 = .ok (.iload_n 2, 1) := by decide +kernel
theorem d_Root_copy_104 : decode b_Root_copy 104 = .ok (.aload_n 0, 1) := by decide +kernel
theorem d_Root_copy_105 : decode b_Root_copy 105 = .ok (.getfield 11, 3) := by decide +kernel
theorem d_Root_copy_108 : decode b_Root_copy 108 = .ok (.iload_n 3, 1) := by decide +kernel
theorem d_Root_copy_109 : decode b_Root_copy 109 = .ok (.aaload, 1) := by decide +kernel
theorem d_Root_copy_110 : decode b_Root_copy 110 = .ok (.getfield 96, 3) := by decide +kernel
theorem d_Root_copy_113 : decode b_Root_copy 113 = .ok (.iload 4, 2) := by decide +kernel
theorem d_Root_copy_115 : decode b_Root_copy 115 = .ok (.iload 5, 2) := by decide +kernel
theorem d_Root_copy_117 : decode b_Root_copy 117 = .ok (.invokestatic 117, 3) := by decide +kernel
theorem d_Root_copy_120 : decode b_Root_copy 120 = .ok (.iconst 1, 1) := by decide +kernel
theorem d_Root_copy_121 : decode b_Root_copy 121 = .ok (.ireturn, 1) := by decide +kernel
abbrev b_Root_mean : ByteArray := prog_1_method_7_code
abbrev y_Root_mean : MethodName := ⟨"RiverTuesdays", "mean", "(I)I"⟩
theorem ok_Root_mean : okV y_Root_mean b_Root_mean 4 (some .int) 1 8 := ⟨mGW (List.mem_of_getElem? (i := 437) (by decide +kernel)) rfl, mGW (List.mem_of_getElem? (i := 438) (by decide +kernel)) rfl, mGW (List.mem_of_getElem? (i := 74) (by decide +kernel)) rfl, mGW (List.mem_of_getElem? (i := 439) (by decide +kernel)) rfl, ⟨by decide, by decide, by decide +kernel⟩, rfl⟩
theorem d_Root_mean_0 : decode b_Root_mean 0 = .ok (.aload_n 0, 1) := by decide +kernel
theorem d_Root_mean_1 : decode b_Root_mean 1 = .ok (.iload_n 1, 1) := by decide +kernel
theorem d_Root_mean_2 : decode b_Root_mean 2 = .ok (.invokevirtual 102, 3) := by decide +kernel
theorem d_Root_mean_5 : decode b_Root_mean 5 = .ok (.istore_n 2, 1) := by decide +kernel
theorem d_Root_mean_6 : decode b_Root_mean 6 = .ok (.iload_n 2, 1) := by decide +kernel
theorem d_Root_mean_7 : decode b_Root_mean 7 = .ok (.ifCond .eq 5, 3) := by decide +kernel
theorem d_Root_mean_10 : decode b_Root_mean 10 = .ok (.iload_n 2, 1) := by decide +kernel
theorem d_Root_mean_11 : decode b_Root_mean 11 = .ok (.ireturn, 1) := by decide +kernel
theorem d_Root_mean_12 : decode b_Root_mean 12 = .ok (.aload_n 0, 1) := by decide +kernel
theorem d_Root_mean_13 : decode b_Root_mean 13 = .ok (.getfield 11, 3) := by decide +kernel
theorem d_Root_mean_16 : decode b_Root_mean 16 = .ok (.iload_n 1, 1) := by decide +kernel
theorem d_Root_mean_17 : decode b_Root_mean 17 = .ok (.aaload, 1) := by decide +kernel
theorem d_Root_mean_18 : decode b_Root_mean 18 = .ok (.getfield 105, 3) := by decide +kernel
theorem d_Root_mean_21 : decode b_Root_mean 21 = .ok (.istore_n 3, 1) := by decide +kernel
theorem d_Root_mean_22 : decode b_Root_mean 22 = .ok (.iload_n 3, 1) := by decide +kernel
theorem d_Root_mean_23 : decode b_Root_mean 23 = .ok (.ifCond .gt 9, 3) := by decide +kernel
theorem d_Root_mean_26 : decode b_Root_mean 26 = .ok (.aload_n 0, 1) := by decide +kernel
theorem d_Root_mean_27 : decode b_Root_mean 27 = .ok (.iconst 4, 1) := by decide +kernel
theorem d_Root_mean_28 : decode b_Root_mean 28 = .ok (.invokevirtual 84, 3) := by decide +kernel
theorem d_Root_mean_31 : decode b_Root_mean 31 = .ok (.ireturn, 1) := by decide +kernel
theorem d_Root_mean_32 : decode b_Root_mean 32 = .ok (.aload_n 0, 1) := by decide +kernel
theorem d_Root_mean_33 : decode b_Root_mean 33 = .ok (.aload_n 0, 1) := by decide +kernel
theorem d_Root_mean_34 : decode b_Root_mean 34 = .ok (.getfield 11, 3) := by decide +kernel
theorem d_Root_mean_37 : decode b_Root_mean 37 = .ok (.iload_n 1, 1) := by decide +kernel
theorem d_Root_mean_38 : decode b_Root_mean 38 = .ok (.aaload, 1) := by decide +kernel
theorem d_Root_mean_39 : decode b_Root_mean 39 = .ok (.invokevirtual 123, 3) := by decide +kernel
theorem d_Root_mean_42 : decode b_Root_mean 42 = .ok (.iload_n 3, 1) := by decide +kernel
theorem d_Root_mean_43 : decode b_Root_mean 43 = .ok (.i2l, 1) := by decide +kernel
theorem d_Root_mean_44 : decode b_Root_mean 44 = .ok (.ldiv, 1) := by decide +kernel
theorem d_Root_mean_45 : decode b_Root_mean 45 = .ok (.l2i, 1) := by decide +kernel
theorem d_Root_mean_46 : decode b_Root_mean 46 = .ok (.iconst 1, 1) := by decide +kernel
theorem d_Root_mean_47 : decode b_Root_mean 47 = .ok (.invokevirtual 99, 3) := by decide +kernel
theorem d_Root_mean_50 : decode b_Root_mean 50 = .ok (.ireturn, 1) := by decide +kernel
abbrev b_Root_isText : ByteArray := prog_1_method_55_code
abbrev y_Root_isText : MethodName := ⟨"RiverTuesdays", "isText", "(I)Z"⟩
theorem ok_Root_isText : okS y_Root_isText b_Root_isText 1 (some .boolean) 1 := ⟨mGW (List.mem_of_getElem? (i := 449) (by decide +kernel)) rfl, mGW (List.mem_of_getElem? (i := 74) (by decide +kernel)) rfl, mGW (List.mem_of_getElem? (i := 450) (by decide +kernel)) rfl, ⟨by decide, by decide, by decide +kernel⟩⟩
theorem d_Root_isText_0 : decode b_Root_isText 0 = .ok (.iload_n 0, 1) := by decide +kernel
theorem d_Root_isText_1 : decode b_Root_isText 1 = .ok (.iconst 0, 1) := by decide +kernel
theorem d_Root_isText_2 : decode b_Root_isText 2 = .ok (.iconst 3, 1) := by decide +kernel
theorem d_Root_isText_3 : decode b_Root_isText 3 = .ok (.invokestatic 155, 3) := by decide +kernel
theorem d_Root_isText_6 : decode b_Root_isText 6 = .ok (.ireturn, 1) := by decide +kernel
abbrev b_Root_text : ByteArray := prog_1_method_8_code
abbrev y_Root_text : MethodName := ⟨"RiverTuesdays", "text", "(II)I"⟩
theorem ok_Root_text : okV y_Root_text b_Root_text 3 (some .int) 2 8 := ⟨mGW (List.mem_of_getElem? (i := 445) (by decide +kernel)) rfl, mGW (List.mem_of_getElem? (i := 446) (by decide +kernel)) rfl, mGW (List.mem_of_getElem? (i := 74) (by decide +kernel)) rfl, mGW (List.mem_of_getElem? (i := 447) (by decide +kernel)) rfl, ⟨by decide, by decide, by decide +kernel⟩, rfl⟩
theorem d_Root_text_0 : decode b_Root_text 0 = .ok (.iload_n 1, 1) := by decide +kernel
theorem d_Root_text_1 : decode b_Root_text 1 = .ok (.invokestatic 127, 3) := by decide +kernel
theorem d_Root_text_4 : decode b_Root_text 4 = .ok (.ifCond .eq 9, 3) := by decide +kernel
theorem d_Root_text_7 : decode b_Root_text 7 = .ok (.iload_n 2, 1) := by decide +kernel
theorem d_Root_text_8 : decode b_Root_text 8 = .ok (.bipush 60, 2) := by decide +kernel
theorem d_Root_text_10 : decode b_Root_text 10 = .ok (.if_icmp .le 5, 3) := by decide +kernel
theorem d_Root_text_13 : decode b_Root_text 13 = .ok (.iconst (-1), 1) := by decide +kernel
theorem d_Root_text_14 : decode b_Root_text 14 = .ok (.ireturn, 1) := by decide +kernel
theorem d_Root_text_15 : decode b_Root_text 15 = .ok (.iload_n 2, 1) := by decide +kernel
theorem d_Root_text_16 : decode b_Root_text 16 = .ok (.ifCond .ge 9, 3) := by decide +kernel
theorem d_Root_text_19 : decode b_Root_text 19 = .ok (.aload_n 0, 1) := by decide +kernel
theorem d_Root_text_20 : decode b_Root_text 20 = .ok (.iconst 5, 1) := by decide +kernel
theorem d_Root_text_21 : decode b_Root_text 21 = .ok (.invokevirtual 84, 3) := by decide +kernel
theorem d_Root_text_24 : decode b_Root_text 24 = .ok (.ireturn, 1) := by decide +kernel
theorem d_Root_text_25 : decode b_Root_text 25 = .ok (.aload_n 0, 1) := by decide +kernel
theorem d_Root_text_26 : decode b_Root_text 26 = .ok (.getfield 17, 3) := by decide +kernel
theorem d_Root_text_29 : decode b_Root_text 29 = .ok (.iload_n 1, 1) := by decide +kernel
theorem d_Root_text_30 : decode b_Root_text 30 = .ok (.aaload, 1) := by decide +kernel
theorem d_Root_text_31 : decode b_Root_text 31 = .ok (.iload_n 2, 1) := by decide +kernel
theorem d_Root_text_32 : decode b_Root_text 32 = .ok (.invokevirtual 130, 3) := by decide +kernel
theorem d_Root_text_35 : decode b_Root_text 35 = .ok (.iload_n 2, 1) := by decide +kernel
theorem d_Root_text_36 : decode b_Root_text 36 = .ok (.ireturn, 1) := by decide +kernel
abbrev b_Root_refusedText : ByteArray := prog_1_method_61_code
abbrev y_Root_refusedText : MethodName := ⟨"RiverTuesdays", "refusedText", "(I)I"⟩
theorem ok_Root_refusedText : okV y_Root_refusedText b_Root_refusedText 2 (some .int) 1 8 := ⟨mGW (List.mem_of_getElem? (i := 464) (by decide +kernel)) rfl, mGW (List.mem_of_getElem? (i := 4) (by decide +kernel)) rfl, mGW (List.mem_of_getElem? (i := 74) (by decide +kernel)) rfl, mGW (List.mem_of_getElem? (i := 465) (by decide +kernel)) rfl, ⟨by decide, by decide, by decide +kernel⟩, rfl⟩
theorem d_Root_refusedText_0 : decode b_Root_refusedText 0 = .ok (.iload_n 1, 1) := by decide +kernel
theorem d_Root_refusedText_1 : decode b_Root_refusedText 1 = .ok (.invokestatic 127, 3) := by decide +kernel
theorem d_Root_refusedText_4 : decode b_Root_refusedText 4 = .ok (.ifCond .ne 5, 3) := by decide +kernel
theorem d_Root_refusedText_7 : decode b_Root_refusedText 7 = .ok (.iconst (-1), 1) := by decide +kernel
theorem d_Root_refusedText_8 : decode b_Root_refusedText 8 = .ok (.ireturn, 1) := by decide +kernel
theorem d_Root_refusedText_9 : decode b_Root_refusedText 9 = .ok (.aload_n 0, 1) := by decide +kernel
theorem d_Root_refusedText_10 : decode b_Root_refusedText 10 = .ok (.getfield 17, 3) := by decide +kernel
theorem d_Root_refusedText_13 : decode b_Root_refusedText 13 = .ok (.iload_n 1, 1) := by decide +kernel
theorem d_Root_refusedText_14 : decode b_Root_refusedText 14 = .ok (.aaload, 1) := by decide +kernel
theorem d_Root_refusedText_15 : decode b_Root_refusedText 15 = .ok (.invokevirtual 425, 3) := by decide +kernel
theorem d_Root_refusedText_18 : decode b_Root_refusedText 18 = .ok (.ifCond .eq 7, 3) := by decide +kernel
theorem d_Root_refusedText_21 : decode b_Root_refusedText 21 = .ok (.iconst 0, 1) := by decide +kernel
theorem d_Root_refusedText_22 : decode b_Root_refusedText 22 = .ok (.goto 8, 3) := by decide +kernel
theorem d_Root_refusedText_25 : decode b_Root_refusedText 25 = .ok (.aload_n 0, 1) := by decide +kernel
theorem d_Root_refusedText_26 : decode b_Root_refusedText 26 = .ok (.iconst 1, 1) := by decide +kernel
theorem d_Root_refusedText_27 : decode b_Root_refusedText 27 = .ok (.invokevirtual 84, 3) := by decide +kernel
theorem d_Root_refusedText_30 : decode b_Root_refusedText 30 = .ok (.ireturn, 1) := by decide +kernel
abbrev b_Root_put : ByteArray := prog_1_method_9_code
abbrev y_Root_put : MethodName := ⟨"RiverTuesdays", "put", "(III)I"⟩
theorem ok_Root_put : okV y_Root_put b_Root_put 6 (some .int) 3 8 := ⟨mGW (List.mem_of_getElem? (i := 459) (by decide +kernel)) rfl, mGW (List.mem_of_getElem? (i := 460) (by decide +kernel)) rfl, mGW (List.mem_of_getElem? (i := 74) (by decide +kernel)) rfl, mGW (List.mem_of_getElem? (i := 461) (by decide +kernel)) rfl, ⟨by decide, by decide, by decide +kernel⟩, rfl⟩
theorem d_Root_put_0 : decode b_Root_put 0 = .ok (.aload_n 0, 1) := by decide +kernel
theorem d_Root_put_1 : decode b_Root_put 1 = .ok (.iload_n 1, 1) := by decide +kernel
theorem d_Root_put_2 : decode b_Root_put 2 = .ok (.invokevirtual 131, 3) := by decide +kernel
theorem d_Root_put_5 : decode b_Root_put 5 = .ok (.istore 4, 2) := by decide +kernel
theorem d_Root_put_7 : decode b_Root_put 7 = .ok (.iload 4, 2) := by decide +kernel
theorem d_Root_put_9 : decode b_Root_put 9 = .ok (.ifCond .eq 6, 3) := by decide +kernel
theorem d_Root_put_12 : decode b_Root_put 12 = .ok (.iload 4, 2) := by decide +kernel
theorem d_Root_put_14 : decode b_Root_put 14 = .ok (.ireturn, 1) := by decide +kernel
theorem d_Root_put_15 : decode b_Root_put 15 = .ok (.iload_n 2, 1) := by decide +kernel
theorem d_Root_put_16 : decode b_Root_put 16 = .ok (.ifCond .lt 16, 3) := by decide +kernel
theorem d_Root_put_19 : decode b_Root_put 19 = .ok (.iload_n 2, 1) := by decide +kernel
theorem d_Root_put_20 : decode b_Root_put 20 = .ok (.aload_n 0, 1) := by decide +kernel
theorem d_Root_put_21 : decode b_Root_put 21 = .ok (.getfield 17, 3) := by decide +kernel
theorem d_Root_put_24 : decode b_Root_put 24 = .ok (.iload_n 1, 1) := by decide +kernel
theorem d_Root_put_25 : decode b_Root_put 25 = .ok (.aaload, 1) := by decide +kernel
theorem d_Root_put_26 : decode b_Root_put 26 = .ok (.getfield 134, 3) := by decide +kernel
theorem d_Root_put_29 : decode b_Root_put 29 = .ok (.if_icmp .lt 9, 3) := by decide +kernel
theorem d_Root_put_32 : decode b_Root_put 32 = .ok (.aload_n 0, 1) := by decide +kernel
theorem d_Root_put_33 : decode b_Root_put 33 = .ok (.iconst 2, 1) := by decide +kernel
theorem d_Root_put_34 : decode b_Root_put 34 = .ok (.invokevirtual 84, 3) := by decide +kernel
theorem d_Root_put_37 : decode b_Root_put 37 = .ok (.ireturn, 1) := by decide +kernel
theorem d_Root_put_38 : decode b_Root_put 38 = .ok (.aload_n 0, 1) := by decide +kernel
theorem d_Root_put_39 : decode b_Root_put 39 = .ok (.getfield 17, 3) := by decide +kernel
theorem d_Root_put_42 : decode b_Root_put 42 = .ok (.iload_n 1, 1) := by decide +kernel
theorem d_Root_put_43 : decode b_Root_put 43 = .ok (.aaload, 1) := by decide +kernel
theorem d_Root_put_44 : decode b_Root_put 44 = .ok (.getfield 135, 3) := by decide +kernel
theorem d_Root_put_47 : decode b_Root_put 47 = .ok (.iload_n 2, 1) := by decide +kernel
theorem d_Root_put_48 : decode b_Root_put 48 = .ok (.baload, 1) := by decide +kernel
theorem d_Root_put_49 : decode b_Root_put 49 = .ok (.istore 5, 2) := by decide +kernel
theorem d_Root_put_51 : decode b_Root_put 51 = .ok (.aload_n 0, 1) := by decide +kernel
theorem d_Root_put_52 : decode b_Root_put 52 = .ok (.getfield 17, 3) := by decide +kernel
theorem d_Root_put_55 : decode b_Root_put 55 = .ok (.iload_n 1, 1) := by decide +kernel
theorem d_Root_put_56 : decode b_Root_put 56 = .ok (.aaload, 1) := by decide +kernel
theorem d_Root_put_57 : decode b_Root_put 57 = .ok (.getfield 135, 3) := by decide +kernel
theorem d_Root_put_60 : decode b_Root_put 60 = .ok (.iload_n 2, 1) := by decide +kernel
theorem d_Root_put_61 : decode b_Root_put 61 = .ok (.iload_n 3, 1) := by decide +kernel
theorem d_Root_put_62 : decode b_Root_put 62 = .ok (.i2b, 1) := by decide +kernel
theorem d_Root_put_63 : decode b_Root_put 63 = .ok (.bastore, 1) := by decide +kernel
theorem d_Root_put_64 : decode b_Root_put 64 = .ok (.iload 5, 2) := by decide +kernel
theorem d_Root_put_66 : decode b_Root_put 66 = .ok (.sipush 1000, 3) := by decide +kernel
theorem d_Root_put_69 : decode b_Root_put 69 = .ok (.iadd, 1) := by decide +kernel
theorem d_Root_put_70 : decode b_Root_put 70 = .ok (.ireturn, 1) := by decide +kernel
abbrev b_Root_fault : ByteArray := prog_1_method_10_code
abbrev y_Root_fault : MethodName := ⟨"RiverTuesdays", "fault", "(I)I"⟩
theorem ok_Root_fault : okV y_Root_fault b_Root_fault 3 (some .int) 1 8 := ⟨mGW (List.mem_of_getElem? (i := 471) (by decide +kernel)) rfl, mGW (List.mem_of_getElem? (i := 472) (by decide +kernel)) rfl, mGW (List.mem_of_getElem? (i := 74) (by decide +kernel)) rfl, mGW (List.mem_of_getElem? (i := 473) (by decide +kernel)) rfl, ⟨by decide, by decide, by decide +kernel⟩, rfl⟩
theorem d_Root_fault_0 : decode b_Root_fault 0 = .ok (.aload_n 0, 1) := by decide +kernel
theorem d_Root_fault_1 : decode b_Root_fault 1 = .ok (.iload_n 1, 1) := by decide +kernel
theorem d_Root_fault_2 : decode b_Root_fault 2 = .ok (.invokevirtual 131, 3) := by decide +kernel
theorem d_Root_fault_5 : decode b_Root_fault 5 = .ok (.istore_n 2, 1) := by decide +kernel
theorem d_Root_fault_6 : decode b_Root_fault 6 = .ok (.iload_n 2, 1) := by decide +kernel
theorem d_Root_fault_7 : decode b_Root_fault 7 = .ok (.ifCond .eq 7, 3) := by decide +kernel
theorem d_Root_fault_10 : decode b_Root_fault 10 = .ok (.iload_n 2, 1) := by decide +kernel
theorem d_Root_fault_11 : decode b_Root_fault 11 = .ok (.goto 16, 3) := by decide +kernel
theorem d_Root_fault_14 : decode b_Root_fault 14 = .ok (.aload_n 0, 1) := by decide +kernel
theorem d_Root_fault_15 : decode b_Root_fault 15 = .ok (.getfield 39, 3) := by decide +kernel
theorem d_Root_fault_18 : decode b_Root_fault 18 = .ok (.aload_n 0, 1) := by decide +kernel
theorem d_Root_fault_19 : decode b_Root_fault 19 = .ok (.getfield 17, 3) := by decide +kernel
theorem d_Root_fault_22 : decode b_Root_fault 22 = .ok (.iload_n 1, 1) := by decide +kernel
theorem d_Root_fault_23 : decode b_Root_fault 23 = .ok (.aaload, 1) := by decide +kernel
theorem d_Root_fault_24 : decode b_Root_fault 24 = .ok (.invokevirtual 139, 3) := by decide +kernel
theorem d_Root_fault_27 : decode b_Root_fault 27 = .ok (.ireturn, 1) := by decide +kernel
abbrev b_Root_street : ByteArray := prog_1_method_11_code
abbrev y_Root_street : MethodName := ⟨"RiverTuesdays", "street", "(I)I"⟩
theorem ok_Root_street : okV y_Root_street b_Root_street 4 (some .int) 1 8 := ⟨mGW (List.mem_of_getElem? (i := 500) (by decide +kernel)) rfl, mGW (List.mem_of_getElem? (i := 501) (by decide +kernel)) rfl, mGW (List.mem_of_getElem? (i := 74) (by decide +kernel)) rfl, mGW (List.mem_of_getElem? (i := 502) (by decide +kernel)) rfl, ⟨by decide, by decide, by decide +kernel⟩, rfl⟩
theorem d_Root_street_0 : decode b_Root_street 0 = .ok (.aload_n 0, 1) := by decide +kernel
theorem d_Root_street_1 : decode b_Root_street 1 = .ok (.iload_n 1, 1) := by decide +kernel
theorem d_Root_street_2 : decode b_Root_street 2 = .ok (.invokevirtual 131, 3) := by decide +kernel
theorem d_Root_street_5 : decode b_Root_street 5 = .ok (.istore_n 2, 1) := by decide +kernel
theorem d_Root_street_6 : decode b_Root_street 6 = .ok (.iload_n 2, 1) := by decide +kernel
theorem d_Root_street_7 : decode b_Root_street 7 = .ok (.ifCond .eq 5, 3) := by decide +kernel
theorem d_Root_street_10 : decode b_Root_street 10 = .ok (.iload_n 2, 1) := by decide +kernel
theorem d_Root_street_11 : decode b_Root_street 11 = .ok (.ireturn, 1) := by decide +kernel
theorem d_Root_street_12 : decode b_Root_street 12 = .ok (.aload_n 0, 1) := by decide +kernel
theorem d_Root_street_13 : decode b_Root_street 13 = .ok (.getfield 39, 3) := by decide +kernel
theorem d_Root_street_16 : decode b_Root_street 16 = .ok (.aload_n 0, 1) := by decide +kernel
theorem d_Root_street_17 : decode b_Root_street 17 = .ok (.getfield 17, 3) := by decide +kernel
theorem d_Root_street_20 : decode b_Root_street 20 = .ok (.iload_n 1, 1) := by decide +kernel
theorem d_Root_street_21 : decode b_Root_street 21 = .ok (.aaload, 1) := by decide +kernel
theorem d_Root_street_22 : decode b_Root_street 22 = .ok (.invokevirtual 139, 3) := by decide +kernel
theorem d_Root_street_25 : decode b_Root_street 25 = .ok (.bipush (-9), 2) := by decide +kernel
theorem d_Root_street_27 : decode b_Root_street 27 = .ok (.if_icmp .eq 6, 3) := by decide +kernel
theorem d_Root_street_30 : decode b_Root_street 30 = .ok (.bipush (-4), 2) := by decide +kernel
theorem d_Root_street_32 : decode b_Root_street 32 = .ok (.ireturn, 1) := by decide +kernel
theorem d_Root_street_33 : decode b_Root_street 33 = .ok (.aload_n 0, 1) := by decide +kernel
theorem d_Root_street_34 : decode b_Root_street 34 = .ok (.getfield 24, 3) := by decide +kernel
theorem d_Root_street_37 : decode b_Root_street 37 = .ok (.aload_n 0, 1) := by decide +kernel
theorem d_Root_street_38 : decode b_Root_street 38 = .ok (.getfield 39, 3) := by decide +kernel
theorem d_Root_street_41 : decode b_Root_street 41 = .ok (.invokevirtual 143, 3) := by decide +kernel
theorem d_Root_street_44 : decode b_Root_street 44 = .ok (.iconst 0, 1) := by decide +kernel
theorem d_Root_street_45 : decode b_Root_street 45 = .ok (.istore_n 3, 1) := by decide +kernel
theorem d_Root_street_46 : decode b_Root_street 46 = .ok (.iload_n 3, 1) := by decide +kernel
theorem d_Root_street_47 : decode b_Root_street 47 = .ok (.iconst 3, 1) := by decide +kernel
theorem d_Root_street_48 : decode b_Root_street 48 = .ok (.if_icmp .ge 16, 3) := by decide +kernel
theorem d_Root_street_51 : decode b_Root_street 51 = .ok (.aload_n 0, 1) := by decide +kernel
theorem d_Root_street_52 : decode b_Root_street 52 = .ok (.getfield 32, 3) := by decide +kernel
theorem d_Root_street_55 : decode b_Root_street 55 = .ok (.iload_n 3, 1) := by decide +kernel
theorem d_Root_street_56 : decode b_Root_street 56 = .ok (.iconst 0, 1) := by decide +kernel
theorem d_Root_street_57 : decode b_Root_street 57 = .ok (.bastore, 1) := by decide +kernel
theorem d_Root_street_58 : decode b_Root_street 58 = .ok (.iinc 3 1, 3) := by decide +kernel
theorem d_Root_street_61 : decode b_Root_street 61 = .ok (.goto (-15), 3) := by decide +kernel
theorem d_Root_street_64 : decode b_Root_street 64 = .ok (.aload_n 0, 1) := by decide +kernel
theorem d_Root_street_65 : decode b_Root_street 65 = .ok (.getfield 24, 3) := by decide +kernel
theorem d_Root_street_68 : decode b_Root_street 68 = .ok (.getfield 146, 3) := by decide +kernel
theorem d_Root_street_71 : decode b_Root_street 71 = .ok (.getfield 149, 3) := by decide +kernel
theorem d_Root_street_74 : decode b_Root_street 74 = .ok (.ireturn, 1) := by decide +kernel
abbrev b_Root_house : ByteArray := prog_1_method_12_code
abbrev y_Root_house : MethodName := ⟨"RiverTuesdays", "house", "(II)I"⟩
theorem ok_Root_house : okV y_Root_house b_Root_house 3 (some .int) 2 8 := ⟨mGW (List.mem_of_getElem? (i := 518) (by decide +kernel)) rfl, mGW (List.mem_of_getElem? (i := 519) (by decide +kernel)) rfl, mGW (List.mem_of_getElem? (i := 74) (by decide +kernel)) rfl, mGW (List.mem_of_getElem? (i := 520) (by decide +kernel)) rfl, ⟨by decide, by decide, by decide +kernel⟩, rfl⟩
theorem d_Root_house_0 : decode b_Root_house 0 = .ok (.aload_n 0, 1) := by decide +kernel
theorem d_Root_house_1 : decode b_Root_house 1 = .ok (.getfield 24, 3) := by decide +kernel
theorem d_Root_house_4 : decode b_Root_house 4 = .ok (.getfield 146, 3) := by decide +kernel
theorem d_Root_house_7 : decode b_Root_house 7 = .ok (.iload_n 1, 1) := by decide +kernel
theorem d_Root_house_8 : decode b_Root_house 8 = .ok (.invokevirtual 152, 3) := by decide +kernel
theorem d_Root_house_11 : decode b_Root_house 11 = .ok (.ifCond .eq 13, 3) := by decide +kernel
theorem d_Root_house_14 : decode b_Root_house 14 = .ok (.iload_n 2, 1) := by decide +kernel
theorem d_Root_house_15 : decode b_Root_house 15 = .ok (.iconst 0, 1) := by decide +kernel
theorem d_Root_house_16 : decode b_Root_house 16 = .ok (.bipush 6, 2) := by decide +kernel
theorem d_Root_house_18 : decode b_Root_house 18 = .ok (.invokestatic 155, 3) := by decide +kernel
theorem d_Root_house_21 : decode b_Root_house 21 = .ok (.ifCond .ne 5, 3) := by decide +kernel
theorem d_Root_house_24 : decode b_Root_house 24 = .ok (.iconst (-1), 1) := by decide +kernel
theorem d_Root_house_25 : decode b_Root_house 25 = .ok (.ireturn, 1) := by decide +kernel
theorem d_Root_house_26 : decode b_Root_house 26 = .ok (.aload_n 0, 1) := by decide +kernel
theorem d_Root_house_27 : decode b_Root_house 27 = .ok (.aload_n 0, 1) := by decide +kernel
theorem d_Root_house_28 : decode b_Root_house 28 = .ok (.getfield 24, 3) := by decide +kernel
theorem d_Root_house_31 : decode b_Root_house 31 = .ok (.iload_n 1, 1) := by decide +kernel
theorem d_Root_house_32 : decode b_Root_house 32 = .ok (.iload_n 2, 1) := by decide +kernel
theorem d_Root_house_33 : decode b_Root_house 33 = .ok (.invokevirtual 159, 3) := by decide +kernel
theorem d_Root_house_36 : decode b_Root_house 36 = .ok (.iconst 1, 1) := by decide +kernel
theorem d_Root_house_37 : decode b_Root_house 37 = .ok (.invokevirtual 99, 3) := by decide +kernel
theorem d_Root_house_40 : decode b_Root_house 40 = .ok (.ireturn, 1) := by decide +kernel
abbrev b_Root_wouldRunOn : ByteArray := prog_1_method_65_code
abbrev y_Root_wouldRunOn : MethodName := ⟨"RiverTuesdays", "wouldRunOn", "(I)I"⟩
theorem ok_Root_wouldRunOn : okV y_Root_wouldRunOn b_Root_wouldRunOn 2 (some .int) 1 8 := ⟨mGW (List.mem_of_getElem? (i := 543) (by decide +kernel)) rfl, mGW (List.mem_of_getElem? (i := 7) (by decide +kernel)) rfl, mGW (List.mem_of_getElem? (i := 74) (by decide +kernel)) rfl, mGW (List.mem_of_getElem? (i := 544) (by decide +kernel)) rfl, ⟨by decide, by decide, by decide +kernel⟩, rfl⟩
theorem d_Root_wouldRunOn_0 : decode b_Root_wouldRunOn 0 = .ok (.aload_n 0, 1) := by decide +kernel
theorem d_Root_wouldRunOn_1 : decode b_Root_wouldRunOn 1 = .ok (.getfield 46, 3) := by decide +kernel
theorem d_Root_wouldRunOn_4 : decode b_Root_wouldRunOn 4 = .ok (.aload_n 0, 1) := by decide +kernel
theorem d_Root_wouldRunOn_5 : decode b_Root_wouldRunOn 5 = .ok (.getfield 24, 3) := by decide +kernel
theorem d_Root_wouldRunOn_8 : decode b_Root_wouldRunOn 8 = .ok (.getfield 168, 3) := by decide +kernel
theorem d_Root_wouldRunOn_11 : decode b_Root_wouldRunOn 11 = .ok (.invokevirtual 380, 3) := by decide +kernel
theorem d_Root_wouldRunOn_14 : decode b_Root_wouldRunOn 14 = .ok (.aload_n 0, 1) := by decide +kernel
theorem d_Root_wouldRunOn_15 : decode b_Root_wouldRunOn 15 = .ok (.getfield 46, 3) := by decide +kernel
theorem d_Root_wouldRunOn_18 : decode b_Root_wouldRunOn 18 = .ok (.aload_n 0, 1) := by decide +kernel
theorem d_Root_wouldRunOn_19 : decode b_Root_wouldRunOn 19 = .ok (.getfield 24, 3) := by decide +kernel
theorem d_Root_wouldRunOn_22 : decode b_Root_wouldRunOn 22 = .ok (.getfield 146, 3) := by decide +kernel
theorem d_Root_wouldRunOn_25 : decode b_Root_wouldRunOn 25 = .ok (.iconst 1, 1) := by decide +kernel
theorem d_Root_wouldRunOn_26 : decode b_Root_wouldRunOn 26 = .ok (.invokevirtual 426, 3) := by decide +kernel
theorem d_Root_wouldRunOn_29 : decode b_Root_wouldRunOn 29 = .ok (.aload_n 0, 1) := by decide +kernel
theorem d_Root_wouldRunOn_30 : decode b_Root_wouldRunOn 30 = .ok (.getfield 46, 3) := by decide +kernel
theorem d_Root_wouldRunOn_33 : decode b_Root_wouldRunOn 33 = .ok (.getfield 428, 3) := by decide +kernel
theorem d_Root_wouldRunOn_36 : decode b_Root_wouldRunOn 36 = .ok (.iload_n 1, 1) := by decide +kernel
theorem d_Root_wouldRunOn_37 : decode b_Root_wouldRunOn 37 = .ok (.iaload, 1) := by decide +kernel
theorem d_Root_wouldRunOn_38 : decode b_Root_wouldRunOn 38 = .ok (.ireturn, 1) := by decide +kernel
abbrev b_Root_mark : ByteArray := prog_1_method_13_code
abbrev y_Root_mark : MethodName := ⟨"RiverTuesdays", "mark", "(II)I"⟩
theorem ok_Root_mark : okV y_Root_mark b_Root_mark 3 (some .int) 2 8 := ⟨mGW (List.mem_of_getElem? (i := 530) (by decide +kernel)) rfl, mGW (List.mem_of_getElem? (i := 531) (by decide +kernel)) rfl, mGW (List.mem_of_getElem? (i := 74) (by decide +kernel)) rfl, mGW (List.mem_of_getElem? (i := 532) (by decide +kernel)) rfl, ⟨by decide, by decide, by decide +kernel⟩, rfl⟩
theorem d_Root_mark_0 : decode b_Root_mark 0 = .ok (.aload_n 0, 1) := by decide +kernel
theorem d_Root_mark_1 : decode b_Root_mark 1 = .ok (.getfield 24, 3) := by decide +kernel
theorem d_Root_mark_4 : decode b_Root_mark 4 = .ok (.getfield 146, 3) := by decide +kernel
theorem d_Root_mark_7 : decode b_Root_mark 7 = .ok (.iload_n 1, 1) := by decide +kernel
theorem d_Root_mark_8 : decode b_Root_mark 8 = .ok (.invokevirtual 152, 3) := by decide +kernel
theorem d_Root_mark_11 : decode b_Root_mark 11 = .ok (.ifCond .eq 12, 3) := by decide +kernel
theorem d_Root_mark_14 : decode b_Root_mark 14 = .ok (.iload_n 2, 1) := by decide +kernel
theorem d_Root_mark_15 : decode b_Root_mark 15 = .ok (.iconst 1, 1) := by decide +kernel
theorem d_Root_mark_16 : decode b_Root_mark 16 = .ok (.iconst 5, 1) := by decide +kernel
theorem d_Root_mark_17 : decode b_Root_mark 17 = .ok (.invokestatic 155, 3) := by decide +kernel
theorem d_Root_mark_20 : decode b_Root_mark 20 = .ok (.ifCond .ne 5, 3) := by decide +kernel
theorem d_Root_mark_23 : decode b_Root_mark 23 = .ok (.iconst (-1), 1) := by decide +kernel
theorem d_Root_mark_24 : decode b_Root_mark 24 = .ok (.ireturn, 1) := by decide +kernel
theorem d_Root_mark_25 : decode b_Root_mark 25 = .ok (.aload_n 0, 1) := by decide +kernel
theorem d_Root_mark_26 : decode b_Root_mark 26 = .ok (.getfield 24, 3) := by decide +kernel
theorem d_Root_mark_29 : decode b_Root_mark 29 = .ok (.getfield 146, 3) := by decide +kernel
theorem d_Root_mark_32 : decode b_Root_mark 32 = .ok (.iload_n 1, 1) := by decide +kernel
theorem d_Root_mark_33 : decode b_Root_mark 33 = .ok (.iload_n 2, 1) := by decide +kernel
theorem d_Root_mark_34 : decode b_Root_mark 34 = .ok (.invokevirtual 162, 3) := by decide +kernel
theorem d_Root_mark_37 : decode b_Root_mark 37 = .ok (.ifCond .ne 9, 3) := by decide +kernel
theorem d_Root_mark_40 : decode b_Root_mark 40 = .ok (.aload_n 0, 1) := by decide +kernel
theorem d_Root_mark_41 : decode b_Root_mark 41 = .ok (.iconst 3, 1) := by decide +kernel
theorem d_Root_mark_42 : decode b_Root_mark 42 = .ok (.invokevirtual 84, 3) := by decide +kernel
theorem d_Root_mark_45 : decode b_Root_mark 45 = .ok (.ireturn, 1) := by decide +kernel
theorem d_Root_mark_46 : decode b_Root_mark 46 = .ok (.iload_n 2, 1) := by decide +kernel
theorem d_Root_mark_47 : decode b_Root_mark 47 = .ok (.tableswitch 104 2 5 #[29, 55, 87, 74], 29) := by decide +kernel
theorem d_Root_mark_76 : decode b_Root_mark 76 = .ok (.aload_n 0, 1) := by decide +kernel
theorem d_Root_mark_77 : decode b_Root_mark 77 = .ok (.getfield 24, 3) := by decide +kernel
theorem d_Root_mark_80 : decode b_Root_mark 80 = .ok (.getfield 146, 3) := by decide +kernel
theorem d_Root_mark_83 : decode b_Root_mark 83 = .ok (.getfield 165, 3) := by decide +kernel
theorem d_Root_mark_86 : decode b_Root_mark 86 = .ok (.iload_n 1, 1) := by decide +kernel
theorem d_Root_mark_87 : decode b_Root_mark 87 = .ok (.iaload, 1) := by decide +kernel
theorem d_Root_mark_88 : decode b_Root_mark 88 = .ok (.aload_n 0, 1) := by decide +kernel
theorem d_Root_mark_89 : decode b_Root_mark 89 = .ok (.getfield 24, 3) := by decide +kernel
theorem d_Root_mark_92 : decode b_Root_mark 92 = .ok (.getfield 168, 3) := by decide +kernel
theorem d_Root_mark_95 : decode b_Root_mark 95 = .ok (.getfield 171, 3) := by decide +kernel
theorem d_Root_mark_98 : decode b_Root_mark 98 = .ok (.iload_n 1, 1) := by decide +kernel
theorem d_Root_mark_99 : decode b_Root_mark 99 = .ok (.iaload, 1) := by decide +kernel
theorem d_Root_mark_100 : decode b_Root_mark 100 = .ok (.isub, 1) := by decide +kernel
theorem d_Root_mark_101 : decode b_Root_mark 101 = .ok (.ireturn, 1) := by decide +kernel
theorem d_Root_mark_102 : decode b_Root_mark 102 = .ok (.aload_n 0, 1) := by decide +kernel
theorem d_Root_mark_103 : decode b_Root_mark 103 = .ok (.getfield 24, 3) := by decide +kernel
theorem d_Root_mark_106 : decode b_Root_mark 106 = .ok (.getfield 168, 3) := by decide +kernel
theorem d_Root_mark_109 : decode b_Root_mark 109 = .ok (.aload_n 0, 1) := by decide +kernel
theorem d_Root_mark_110 : decode b_Root_mark 110 = .ok (.getfield 24, 3) := by decide +kernel
theorem d_Root_mark_113 : decode b_Root_mark 113 = .ok (.getfield 146, 3) := by decide +kernel
theorem d_Root_mark_116 : decode b_Root_mark 116 = .ok (.iload_n 1, 1) := by decide +kernel
theorem d_Root_mark_117 : decode b_Root_mark 117 = .ok (.invokevirtual 174, 3) := by decide +kernel
theorem d_Root_mark_120 : decode b_Root_mark 120 = .ok (.ireturn, 1) := by decide +kernel
theorem d_Root_mark_121 : decode b_Root_mark 121 = .ok (.aload_n 0, 1) := by decide +kernel
theorem d_Root_mark_122 : decode b_Root_mark 122 = .ok (.getfield 24, 3) := by decide +kernel
theorem d_Root_mark_125 : decode b_Root_mark 125 = .ok (.getfield 146, 3) := by decide +kernel
theorem d_Root_mark_128 : decode b_Root_mark 128 = .ok (.getfield 178, 3) := by decide +kernel
theorem d_Root_mark_131 : decode b_Root_mark 131 = .ok (.iload_n 1, 1) := by decide +kernel
theorem d_Root_mark_132 : decode b_Root_mark 132 = .ok (.iaload, 1) := by decide +kernel
theorem d_Root_mark_133 : decode b_Root_mark 133 = .ok (.ireturn, 1) := by decide +kernel
theorem d_Root_mark_134 : decode b_Root_mark 134 = .ok (.aload_n 0, 1) := by decide +kernel
theorem d_Root_mark_135 : decode b_Root_mark 135 = .ok (.getfield 24, 3) := by decide +kernel
theorem d_Root_mark_138 : decode b_Root_mark 138 = .ok (.getfield 146, 3) := by decide +kernel
theorem d_Root_mark_141 : decode b_Root_mark 141 = .ok (.iload_n 1, 1) := by decide +kernel
theorem d_Root_mark_142 : decode b_Root_mark 142 = .ok (.aload_n 0, 1) := by decide +kernel
theorem d_Root_mark_143 : decode b_Root_mark 143 = .ok (.iload_n 1, 1) := by decide +kernel
theorem d_Root_mark_144 : decode b_Root_mark 144 = .ok (.invokevirtual 181, 3) := by decide +kernel
theorem d_Root_mark_147 : decode b_Root_mark 147 = .ok (.invokevirtual 184, 3) := by decide +kernel
theorem d_Root_mark_150 : decode b_Root_mark 150 = .ok (.ireturn, 1) := by decide +kernel
theorem d_Root_mark_151 : decode b_Root_mark 151 = .ok (.aload_n 0, 1) := by decide +kernel
theorem d_Root_mark_152 : decode b_Root_mark 152 = .ok (.iload_n 1, 1) := by decide +kernel
theorem d_Root_mark_153 : decode b_Root_mark 153 = .ok (.invokevirtual 181, 3) := by decide +kernel
theorem d_Root_mark_156 : decode b_Root_mark 156 = .ok (.ireturn, 1) := by decide +kernel
abbrev b_Root_sill : ByteArray := prog_1_method_14_code
abbrev y_Root_sill : MethodName := ⟨"RiverTuesdays", "sill", "(II)I"⟩
theorem ok_Root_sill : okV y_Root_sill b_Root_sill 4 (some .int) 2 8 := ⟨mGW (List.mem_of_getElem? (i := 580) (by decide +kernel)) rfl, mGW (List.mem_of_getElem? (i := 581) (by decide +kernel)) rfl, mGW (List.mem_of_getElem? (i := 74) (by decide +kernel)) rfl, mGW (List.mem_of_getElem? (i := 582) (by decide +kernel)) rfl, ⟨by decide, by decide, by decide +kernel⟩, rfl⟩
theorem d_Root_sill_0 : decode b_Root_sill 0 = .ok (.aload_n 0, 1) := by decide +kernel
theorem d_Root_sill_1 : decode b_Root_sill 1 = .ok (.getfield 24, 3) := by decide +kernel
theorem d_Root_sill_4 : decode b_Root_sill 4 = .ok (.getfield 146, 3) := by decide +kernel
theorem d_Root_sill_7 : decode b_Root_sill 7 = .ok (.iload_n 1, 1) := by decide +kernel
theorem d_Root_sill_8 : decode b_Root_sill 8 = .ok (.invokevirtual 152, 3) := by decide +kernel
theorem d_Root_sill_11 : decode b_Root_sill 11 = .ok (.ifCond .eq 13, 3) := by decide +kernel
theorem d_Root_sill_14 : decode b_Root_sill 14 = .ok (.iload_n 2, 1) := by decide +kernel
theorem d_Root_sill_15 : decode b_Root_sill 15 = .ok (.iconst 0, 1) := by decide +kernel
theorem d_Root_sill_16 : decode b_Root_sill 16 = .ok (.bipush 20, 2) := by decide +kernel
theorem d_Root_sill_18 : decode b_Root_sill 18 = .ok (.invokestatic 155, 3) := by decide +kernel
theorem d_Root_sill_21 : decode b_Root_sill 21 = .ok (.ifCond .ne 5, 3) := by decide +kernel
theorem d_Root_sill_24 : decode b_Root_sill 24 = .ok (.iconst (-1), 1) := by decide +kernel
theorem d_Root_sill_25 : decode b_Root_sill 25 = .ok (.ireturn, 1) := by decide +kernel
theorem d_Root_sill_26 : decode b_Root_sill 26 = .ok (.aload_n 0, 1) := by decide +kernel
theorem d_Root_sill_27 : decode b_Root_sill 27 = .ok (.getfield 24, 3) := by decide +kernel
theorem d_Root_sill_30 : decode b_Root_sill 30 = .ok (.getfield 146, 3) := by decide +kernel
theorem d_Root_sill_33 : decode b_Root_sill 33 = .ok (.getfield 187, 3) := by decide +kernel
theorem d_Root_sill_36 : decode b_Root_sill 36 = .ok (.iload_n 1, 1) := by decide +kernel
theorem d_Root_sill_37 : decode b_Root_sill 37 = .ok (.iaload, 1) := by decide +kernel
theorem d_Root_sill_38 : decode b_Root_sill 38 = .ok (.istore_n 3, 1) := by decide +kernel
theorem d_Root_sill_39 : decode b_Root_sill 39 = .ok (.aload_n 0, 1) := by decide +kernel
theorem d_Root_sill_40 : decode b_Root_sill 40 = .ok (.getfield 24, 3) := by decide +kernel
theorem d_Root_sill_43 : decode b_Root_sill 43 = .ok (.getfield 146, 3) := by decide +kernel
theorem d_Root_sill_46 : decode b_Root_sill 46 = .ok (.getfield 187, 3) := by decide +kernel
theorem d_Root_sill_49 : decode b_Root_sill 49 = .ok (.iload_n 1, 1) := by decide +kernel
theorem d_Root_sill_50 : decode b_Root_sill 50 = .ok (.iload_n 2, 1) := by decide +kernel
theorem d_Root_sill_51 : decode b_Root_sill 51 = .ok (.iastore, 1) := by decide +kernel
theorem d_Root_sill_52 : decode b_Root_sill 52 = .ok (.iload_n 3, 1) := by decide +kernel
theorem d_Root_sill_53 : decode b_Root_sill 53 = .ok (.ireturn, 1) := by decide +kernel
abbrev b_Root_hasHouses : ByteArray := prog_1_method_58_code
abbrev y_Root_hasHouses : MethodName := ⟨"RiverTuesdays", "hasHouses", "()Z"⟩
theorem ok_Root_hasHouses : okV y_Root_hasHouses b_Root_hasHouses 1 (some .boolean) 0 8 := ⟨mGW (List.mem_of_getElem? (i := 589) (by decide +kernel)) rfl, mGW (List.mem_of_getElem? (i := 10) (by decide +kernel)) rfl, mGW (List.mem_of_getElem? (i := 74) (by decide +kernel)) rfl, mGW (List.mem_of_getElem? (i := 590) (by decide +kernel)) rfl, ⟨by decide, by decide, by decide +kernel⟩, rfl⟩
theorem d_Root_hasHouses_0 : decode b_Root_hasHouses 0 = .ok (.aload_n 0, 1) := by decide +kernel
theorem d_Root_hasHouses_1 : decode b_Root_hasHouses 1 = .ok (.getfield 24, 3) := by decide +kernel
theorem d_Root_hasHouses_4 : decode b_Root_hasHouses 4 = .ok (.getfield 146, 3) := by decide +kernel
theorem d_Root_hasHouses_7 : decode b_Root_hasHouses 7 = .ok (.getfield 149, 3) := by decide +kernel
theorem d_Root_hasHouses_10 : decode b_Root_hasHouses 10 = .ok (.ifCond .le 7, 3) := by decide +kernel
theorem d_Root_hasHouses_13 : decode b_Root_hasHouses 13 = .ok (.iconst 1, 1) := by decide +kernel
theorem d_Root_hasHouses_14 : decode b_Root_hasHouses 14 = .ok (.goto 4, 3) := by decide +kernel
theorem d_Root_hasHouses_17 : decode b_Root_hasHouses 17 = .ok (.iconst 0, 1) := by decide +kernel
theorem d_Root_hasHouses_18 : decode b_Root_hasHouses 18 = .ok (.ireturn, 1) := by decide +kernel
abbrev b_Root_flow : ByteArray := prog_1_method_15_code
abbrev y_Root_flow : MethodName := ⟨"RiverTuesdays", "flow", "(I)I"⟩
theorem ok_Root_flow : okV y_Root_flow b_Root_flow 3 (some .int) 1 8 := ⟨mGW (List.mem_of_getElem? (i := 584) (by decide +kernel)) rfl, mGW (List.mem_of_getElem? (i := 585) (by decide +kernel)) rfl, mGW (List.mem_of_getElem? (i := 74) (by decide +kernel)) rfl, mGW (List.mem_of_getElem? (i := 586) (by decide +kernel)) rfl, ⟨by decide, by decide, by decide +kernel⟩, rfl⟩
theorem d_Root_flow_0 : decode b_Root_flow 0 = .ok (.iload_n 1, 1) := by decide +kernel
theorem d_Root_flow_1 : decode b_Root_flow 1 = .ok (.iconst 1, 1) := by decide +kernel
theorem d_Root_flow_2 : decode b_Root_flow 2 = .ok (.bipush 9, 2) := by decide +kernel
theorem d_Root_flow_4 : decode b_Root_flow 4 = .ok (.invokestatic 155, 3) := by decide +kernel
theorem d_Root_flow_7 : decode b_Root_flow 7 = .ok (.ifCond .ne 5, 3) := by decide +kernel
theorem d_Root_flow_10 : decode b_Root_flow 10 = .ok (.iconst (-1), 1) := by decide +kernel
theorem d_Root_flow_11 : decode b_Root_flow 11 = .ok (.ireturn, 1) := by decide +kernel
theorem d_Root_flow_12 : decode b_Root_flow 12 = .ok (.aload_n 0, 1) := by decide +kernel
theorem d_Root_flow_13 : decode b_Root_flow 13 = .ok (.invokevirtual 190, 3) := by decide +kernel
theorem d_Root_flow_16 : decode b_Root_flow 16 = .ok (.ifCond .ne 6, 3) := by decide +kernel
theorem d_Root_flow_19 : decode b_Root_flow 19 = .ok (.bipush (-4), 2) := by decide +kernel
theorem d_Root_flow_21 : decode b_Root_flow 21 = .ok (.ireturn, 1) := by decide +kernel
theorem d_Root_flow_22 : decode b_Root_flow 22 = .ok (.aload_n 0, 1) := by decide +kernel
theorem d_Root_flow_23 : decode b_Root_flow 23 = .ok (.getfield 24, 3) := by decide +kernel
theorem d_Root_flow_26 : decode b_Root_flow 26 = .ok (.getfield 146, 3) := by decide +kernel
theorem d_Root_flow_29 : decode b_Root_flow 29 = .ok (.getfield 193, 3) := by decide +kernel
theorem d_Root_flow_32 : decode b_Root_flow 32 = .ok (.istore_n 2, 1) := by decide +kernel
theorem d_Root_flow_33 : decode b_Root_flow 33 = .ok (.aload_n 0, 1) := by decide +kernel
theorem d_Root_flow_34 : decode b_Root_flow 34 = .ok (.getfield 24, 3) := by decide +kernel
theorem d_Root_flow_37 : decode b_Root_flow 37 = .ok (.getfield 146, 3) := by decide +kernel
theorem d_Root_flow_40 : decode b_Root_flow 40 = .ok (.iload_n 1, 1) := by decide +kernel
theorem d_Root_flow_41 : decode b_Root_flow 41 = .ok (.putfield 193, 3) := by decide +kernel
theorem d_Root_flow_44 : decode b_Root_flow 44 = .ok (.iload_n 2, 1) := by decide +kernel
theorem d_Root_flow_45 : decode b_Root_flow 45 = .ok (.ireturn, 1) := by decide +kernel
abbrev b_Root_shut : ByteArray := prog_1_method_16_code
abbrev y_Root_shut : MethodName := ⟨"RiverTuesdays", "shut", "(II)I"⟩
theorem ok_Root_shut : okV y_Root_shut b_Root_shut 4 (some .int) 2 8 := ⟨mGW (List.mem_of_getElem? (i := 592) (by decide +kernel)) rfl, mGW (List.mem_of_getElem? (i := 593) (by decide +kernel)) rfl, mGW (List.mem_of_getElem? (i := 74) (by decide +kernel)) rfl, mGW (List.mem_of_getElem? (i := 594) (by decide +kernel)) rfl, ⟨by decide, by decide, by decide +kernel⟩, rfl⟩
theorem d_Root_shut_0 : decode b_Root_shut 0 = .ok (.aload_n 0, 1) := by decide +kernel
theorem d_Root_shut_1 : decode b_Root_shut 1 = .ok (.getfield 24, 3) := by decide +kernel
theorem d_Root_shut_4 : decode b_Root_shut 4 = .ok (.getfield 146, 3) := by decide +kernel
theorem d_Root_shut_7 : decode b_Root_shut 7 = .ok (.iload_n 1, 1) := by decide +kernel
theorem d_Root_shut_8 : decode b_Root_shut 8 = .ok (.invokevirtual 152, 3) := by decide +kernel
theorem d_Root_shut_11 : decode b_Root_shut 11 = .ok (.ifCond .eq 12, 3) := by decide +kernel
theorem d_Root_shut_14 : decode b_Root_shut 14 = .ok (.iload_n 2, 1) := by decide +kernel
theorem d_Root_shut_15 : decode b_Root_shut 15 = .ok (.iconst 0, 1) := by decide +kernel
theorem d_Root_shut_16 : decode b_Root_shut 16 = .ok (.iconst 1, 1) := by decide +kernel
theorem d_Root_shut_17 : decode b_Root_shut 17 = .ok (.invokestatic 155, 3) := by decide +kernel
theorem d_Root_shut_20 : decode b_Root_shut 20 = .ok (.ifCond .ne 5, 3) := by decide +kernel
theorem d_Root_shut_23 : decode b_Root_shut 23 = .ok (.iconst (-1), 1) := by decide +kernel
theorem d_Root_shut_24 : decode b_Root_shut 24 = .ok (.ireturn, 1) := by decide +kernel
theorem d_Root_shut_25 : decode b_Root_shut 25 = .ok (.aload_n 0, 1) := by decide +kernel
theorem d_Root_shut_26 : decode b_Root_shut 26 = .ok (.getfield 24, 3) := by decide +kernel
theorem d_Root_shut_29 : decode b_Root_shut 29 = .ok (.getfield 146, 3) := by decide +kernel
theorem d_Root_shut_32 : decode b_Root_shut 32 = .ok (.iload_n 1, 1) := by decide +kernel
theorem d_Root_shut_33 : decode b_Root_shut 33 = .ok (.iconst 5, 1) := by decide +kernel
theorem d_Root_shut_34 : decode b_Root_shut 34 = .ok (.invokevirtual 162, 3) := by decide +kernel
theorem d_Root_shut_37 : decode b_Root_shut 37 = .ok (.ifCond .ne 9, 3) := by decide +kernel
theorem d_Root_shut_40 : decode b_Root_shut 40 = .ok (.aload_n 0, 1) := by decide +kernel
theorem d_Root_shut_41 : decode b_Root_shut 41 = .ok (.iconst 3, 1) := by decide +kernel
theorem d_Root_shut_42 : decode b_Root_shut 42 = .ok (.invokevirtual 84, 3) := by decide +kernel
theorem d_Root_shut_45 : decode b_Root_shut 45 = .ok (.ireturn, 1) := by decide +kernel
theorem d_Root_shut_46 : decode b_Root_shut 46 = .ok (.aload_n 0, 1) := by decide +kernel
theorem d_Root_shut_47 : decode b_Root_shut 47 = .ok (.getfield 24, 3) := by decide +kernel
theorem d_Root_shut_50 : decode b_Root_shut 50 = .ok (.getfield 146, 3) := by decide +kernel
theorem d_Root_shut_53 : decode b_Root_shut 53 = .ok (.getfield 178, 3) := by decide +kernel
theorem d_Root_shut_56 : decode b_Root_shut 56 = .ok (.iload_n 1, 1) := by decide +kernel
theorem d_Root_shut_57 : decode b_Root_shut 57 = .ok (.iaload, 1) := by decide +kernel
theorem d_Root_shut_58 : decode b_Root_shut 58 = .ok (.istore_n 3, 1) := by decide +kernel
theorem d_Root_shut_59 : decode b_Root_shut 59 = .ok (.aload_n 0, 1) := by decide +kernel
theorem d_Root_shut_60 : decode b_Root_shut 60 = .ok (.getfield 24, 3) := by decide +kernel
theorem d_Root_shut_63 : decode b_Root_shut 63 = .ok (.getfield 146, 3) := by decide +kernel
theorem d_Root_shut_66 : decode b_Root_shut 66 = .ok (.getfield 178, 3) := by decide +kernel
theorem d_Root_shut_69 : decode b_Root_shut 69 = .ok (.iload_n 1, 1) := by decide +kernel
theorem d_Root_shut_70 : decode b_Root_shut 70 = .ok (.iload_n 2, 1) := by decide +kernel
theorem d_Root_shut_71 : decode b_Root_shut 71 = .ok (.iastore, 1) := by decide +kernel
theorem d_Root_shut_72 : decode b_Root_shut 72 = .ok (.iload_n 3, 1) := by decide +kernel
theorem d_Root_shut_73 : decode b_Root_shut 73 = .ok (.ireturn, 1) := by decide +kernel
abbrev b_Root_pump : ByteArray := prog_1_method_17_code
abbrev y_Root_pump : MethodName := ⟨"RiverTuesdays", "pump", "(I)I"⟩
theorem ok_Root_pump : okV y_Root_pump b_Root_pump 2 (some .int) 1 8 := ⟨mGW (List.mem_of_getElem? (i := 596) (by decide +kernel)) rfl, mGW (List.mem_of_getElem? (i := 597) (by decide +kernel)) rfl, mGW (List.mem_of_getElem? (i := 74) (by decide +kernel)) rfl, mGW (List.mem_of_getElem? (i := 598) (by decide +kernel)) rfl, ⟨by decide, by decide, by decide +kernel⟩, rfl⟩
theorem d_Root_pump_0 : decode b_Root_pump 0 = .ok (.aload_n 0, 1) := by decide +kernel
theorem d_Root_pump_1 : decode b_Root_pump 1 = .ok (.getfield 24, 3) := by decide +kernel
theorem d_Root_pump_4 : decode b_Root_pump 4 = .ok (.getfield 146, 3) := by decide +kernel
theorem d_Root_pump_7 : decode b_Root_pump 7 = .ok (.iload_n 1, 1) := by decide +kernel
theorem d_Root_pump_8 : decode b_Root_pump 8 = .ok (.invokevirtual 152, 3) := by decide +kernel
theorem d_Root_pump_11 : decode b_Root_pump 11 = .ok (.ifCond .eq 17, 3) := by decide +kernel
theorem d_Root_pump_14 : decode b_Root_pump 14 = .ok (.aload_n 0, 1) := by decide +kernel
theorem d_Root_pump_15 : decode b_Root_pump 15 = .ok (.getfield 24, 3) := by decide +kernel
theorem d_Root_pump_18 : decode b_Root_pump 18 = .ok (.getfield 168, 3) := by decide +kernel
theorem d_Root_pump_21 : decode b_Root_pump 21 = .ok (.iload_n 1, 1) := by decide +kernel
theorem d_Root_pump_22 : decode b_Root_pump 22 = .ok (.invokevirtual 196, 3) := by decide +kernel
theorem d_Root_pump_25 : decode b_Root_pump 25 = .ok (.goto 4, 3) := by decide +kernel
theorem d_Root_pump_28 : decode b_Root_pump 28 = .ok (.iconst (-1), 1) := by decide +kernel
theorem d_Root_pump_29 : decode b_Root_pump 29 = .ok (.ireturn, 1) := by decide +kernel
abbrev b_Root_hour : ByteArray := prog_1_method_18_code
abbrev y_Root_hour : MethodName := ⟨"RiverTuesdays", "hour", "(I)I"⟩
theorem ok_Root_hour : okV y_Root_hour b_Root_hour 3 (some .int) 1 8 := ⟨mGW (List.mem_of_getElem? (i := 604) (by decide +kernel)) rfl, mGW (List.mem_of_getElem? (i := 605) (by decide +kernel)) rfl, mGW (List.mem_of_getElem? (i := 74) (by decide +kernel)) rfl, mGW (List.mem_of_getElem? (i := 606) (by decide +kernel)) rfl, ⟨by decide, by decide, by decide +kernel⟩, rfl⟩
theorem d_Root_hour_0 : decode b_Root_hour 0 = .ok (.iload_n 1, 1) := by decide +kernel
theorem d_Root_hour_1 : decode b_Root_hour 1 = .ok (.iconst 0, 1) := by decide +kernel
theorem d_Root_hour_2 : decode b_Root_hour 2 = .ok (.iconst 1, 1) := by decide +kernel
theorem d_Root_hour_3 : decode b_Root_hour 3 = .ok (.invokestatic 155, 3) := by decide +kernel
theorem d_Root_hour_6 : decode b_Root_hour 6 = .ok (.ifCond .ne 5, 3) := by decide +kernel
theorem d_Root_hour_9 : decode b_Root_hour 9 = .ok (.iconst (-1), 1) := by decide +kernel
theorem d_Root_hour_10 : decode b_Root_hour 10 = .ok (.ireturn, 1) := by decide +kernel
theorem d_Root_hour_11 : decode b_Root_hour 11 = .ok (.aload_n 0, 1) := by decide +kernel
theorem d_Root_hour_12 : decode b_Root_hour 12 = .ok (.invokevirtual 190, 3) := by decide +kernel
theorem d_Root_hour_15 : decode b_Root_hour 15 = .ok (.ifCond .ne 6, 3) := by decide +kernel
theorem d_Root_hour_18 : decode b_Root_hour 18 = .ok (.bipush (-4), 2) := by decide +kernel
theorem d_Root_hour_20 : decode b_Root_hour 20 = .ok (.ireturn, 1) := by decide +kernel
theorem d_Root_hour_21 : decode b_Root_hour 21 = .ok (.aload_n 0, 1) := by decide +kernel
theorem d_Root_hour_22 : decode b_Root_hour 22 = .ok (.getfield 24, 3) := by decide +kernel
theorem d_Root_hour_25 : decode b_Root_hour 25 = .ok (.iconst 1, 1) := by decide +kernel
theorem d_Root_hour_26 : decode b_Root_hour 26 = .ok (.invokevirtual 199, 3) := by decide +kernel
theorem d_Root_hour_29 : decode b_Root_hour 29 = .ok (.ifCond .ne 6, 3) := by decide +kernel
theorem d_Root_hour_32 : decode b_Root_hour 32 = .ok (.bipush (-2), 2) := by decide +kernel
theorem d_Root_hour_34 : decode b_Root_hour 34 = .ok (.ireturn, 1) := by decide +kernel
theorem d_Root_hour_35 : decode b_Root_hour 35 = .ok (.aload_n 0, 1) := by decide +kernel
theorem d_Root_hour_36 : decode b_Root_hour 36 = .ok (.getfield 24, 3) := by decide +kernel
theorem d_Root_hour_39 : decode b_Root_hour 39 = .ok (.getfield 168, 3) := by decide +kernel
theorem d_Root_hour_42 : decode b_Root_hour 42 = .ok (.getfield 202, 3) := by decide +kernel
theorem d_Root_hour_45 : decode b_Root_hour 45 = .ok (.istore_n 2, 1) := by decide +kernel
theorem d_Root_hour_46 : decode b_Root_hour 46 = .ok (.aload_n 0, 1) := by decide +kernel
theorem d_Root_hour_47 : decode b_Root_hour 47 = .ok (.getfield 24, 3) := by decide +kernel
theorem d_Root_hour_50 : decode b_Root_hour 50 = .ok (.iload_n 1, 1) := by decide +kernel
theorem d_Root_hour_51 : decode b_Root_hour 51 = .ok (.invokevirtual 205, 3) := by decide +kernel
theorem d_Root_hour_54 : decode b_Root_hour 54 = .ok (.aload_n 0, 1) := by decide +kernel
theorem d_Root_hour_55 : decode b_Root_hour 55 = .ok (.aload_n 0, 1) := by decide +kernel
theorem d_Root_hour_56 : decode b_Root_hour 56 = .ok (.getfield 24, 3) := by decide +kernel
theorem d_Root_hour_59 : decode b_Root_hour 59 = .ok (.getfield 168, 3) := by decide +kernel
theorem d_Root_hour_62 : decode b_Root_hour 62 = .ok (.getfield 202, 3) := by decide +kernel
theorem d_Root_hour_65 : decode b_Root_hour 65 = .ok (.iload_n 2, 1) := by decide +kernel
theorem d_Root_hour_66 : decode b_Root_hour 66 = .ok (.isub, 1) := by decide +kernel
theorem d_Root_hour_67 : decode b_Root_hour 67 = .ok (.aload_n 0, 1) := by decide +kernel
theorem d_Root_hour_68 : decode b_Root_hour 68 = .ok (.getfield 24, 3) := by decide +kernel
theorem d_Root_hour_71 : decode b_Root_hour 71 = .ok (.getfield 168, 3) := by decide +kernel
theorem d_Root_hour_74 : decode b_Root_hour 74 = .ok (.invokevirtual 208, 3) := by decide +kernel
theorem d_Root_hour_77 : decode b_Root_hour 77 = .ok (.invokevirtual 99, 3) := by decide +kernel
theorem d_Root_hour_80 : decode b_Root_hour 80 = .ok (.ireturn, 1) := by decide +kernel
abbrev b_Root_undo : ByteArray := prog_1_method_19_code
abbrev y_Root_undo : MethodName := ⟨"RiverTuesdays", "undo", "(I)I"⟩
theorem ok_Root_undo : okV y_Root_undo b_Root_undo 2 (some .int) 1 8 := ⟨mGW (List.mem_of_getElem? (i := 628) (by decide +kernel)) rfl, mGW (List.mem_of_getElem? (i := 629) (by decide +kernel)) rfl, mGW (List.mem_of_getElem? (i := 74) (by decide +kernel)) rfl, mGW (List.mem_of_getElem? (i := 630) (by decide +kernel)) rfl, ⟨by decide, by decide, by decide +kernel⟩, rfl⟩
theorem d_Root_undo_0 : decode b_Root_undo 0 = .ok (.iload_n 1, 1) := by decide +kernel
theorem d_Root_undo_1 : decode b_Root_undo 1 = .ok (.iconst 0, 1) := by decide +kernel
theorem d_Root_undo_2 : decode b_Root_undo 2 = .ok (.aload_n 0, 1) := by decide +kernel
theorem d_Root_undo_3 : decode b_Root_undo 3 = .ok (.getfield 24, 3) := by decide +kernel
theorem d_Root_undo_6 : decode b_Root_undo 6 = .ok (.getfield 212, 3) := by decide +kernel
theorem d_Root_undo_9 : decode b_Root_undo 9 = .ok (.invokestatic 155, 3) := by decide +kernel
theorem d_Root_undo_12 : decode b_Root_undo 12 = .ok (.ifCond .eq 14, 3) := by decide +kernel
theorem d_Root_undo_15 : decode b_Root_undo 15 = .ok (.aload_n 0, 1) := by decide +kernel
theorem d_Root_undo_16 : decode b_Root_undo 16 = .ok (.getfield 24, 3) := by decide +kernel
theorem d_Root_undo_19 : decode b_Root_undo 19 = .ok (.iload_n 1, 1) := by decide +kernel
theorem d_Root_undo_20 : decode b_Root_undo 20 = .ok (.invokevirtual 215, 3) := by decide +kernel
theorem d_Root_undo_23 : decode b_Root_undo 23 = .ok (.goto 4, 3) := by decide +kernel
theorem d_Root_undo_26 : decode b_Root_undo 26 = .ok (.iconst (-1), 1) := by decide +kernel
theorem d_Root_undo_27 : decode b_Root_undo 27 = .ok (.ireturn, 1) := by decide +kernel
abbrev b_Root_water : ByteArray := prog_1_method_20_code
abbrev y_Root_water : MethodName := ⟨"RiverTuesdays", "water", "()I"⟩
theorem ok_Root_water : okV y_Root_water b_Root_water 1 (some .int) 0 8 := ⟨mGW (List.mem_of_getElem? (i := 640) (by decide +kernel)) rfl, mGW (List.mem_of_getElem? (i := 641) (by decide +kernel)) rfl, mGW (List.mem_of_getElem? (i := 74) (by decide +kernel)) rfl, mGW (List.mem_of_getElem? (i := 642) (by decide +kernel)) rfl, ⟨by decide, by decide, by decide +kernel⟩, rfl⟩
theorem d_Root_water_0 : decode b_Root_water 0 = .ok (.aload_n 0, 1) := by decide +kernel
theorem d_Root_water_1 : decode b_Root_water 1 = .ok (.aload_n 0, 1) := by decide +kernel
theorem d_Root_water_2 : decode b_Root_water 2 = .ok (.getfield 24, 3) := by decide +kernel
theorem d_Root_water_5 : decode b_Root_water 5 = .ok (.getfield 168, 3) := by decide +kernel
theorem d_Root_water_8 : decode b_Root_water 8 = .ok (.getfield 202, 3) := by decide +kernel
theorem d_Root_water_11 : decode b_Root_water 11 = .ok (.aload_n 0, 1) := by decide +kernel
theorem d_Root_water_12 : decode b_Root_water 12 = .ok (.getfield 24, 3) := by decide +kernel
theorem d_Root_water_15 : decode b_Root_water 15 = .ok (.getfield 168, 3) := by decide +kernel
theorem d_Root_water_18 : decode b_Root_water 18 = .ok (.getfield 218, 3) := by decide +kernel
theorem d_Root_water_21 : decode b_Root_water 21 = .ok (.invokevirtual 99, 3) := by decide +kernel
theorem d_Root_water_24 : decode b_Root_water 24 = .ok (.ireturn, 1) := by decide +kernel
abbrev b_Root_keep : ByteArray := prog_1_method_21_code
abbrev y_Root_keep : MethodName := ⟨"RiverTuesdays", "keep", "(I)I"⟩
theorem ok_Root_keep : okV y_Root_keep b_Root_keep 2 (some .int) 1 8 := ⟨mGW (List.mem_of_getElem? (i := 644) (by decide +kernel)) rfl, mGW (List.mem_of_getElem? (i := 645) (by decide +kernel)) rfl, mGW (List.mem_of_getElem? (i := 74) (by decide +kernel)) rfl, mGW (List.mem_of_getElem? (i := 646) (by decide +kernel)) rfl, ⟨by decide, by decide, by decide +kernel⟩, rfl⟩
theorem d_Root_keep_0 : decode b_Root_keep 0 = .ok (.iload_n 1, 1) := by decide +kernel
theorem d_Root_keep_1 : decode b_Root_keep 1 = .ok (.iconst 0, 1) := by decide +kernel
theorem d_Root_keep_2 : decode b_Root_keep 2 = .ok (.iconst 2, 1) := by decide +kernel
theorem d_Root_keep_3 : decode b_Root_keep 3 = .ok (.invokestatic 155, 3) := by decide +kernel
theorem d_Root_keep_6 : decode b_Root_keep 6 = .ok (.ifCond .ne 5, 3) := by decide +kernel
theorem d_Root_keep_9 : decode b_Root_keep 9 = .ok (.iconst (-1), 1) := by decide +kernel
theorem d_Root_keep_10 : decode b_Root_keep 10 = .ok (.ireturn, 1) := by decide +kernel
theorem d_Root_keep_11 : decode b_Root_keep 11 = .ok (.aload_n 0, 1) := by decide +kernel
theorem d_Root_keep_12 : decode b_Root_keep 12 = .ok (.invokevirtual 190, 3) := by decide +kernel
theorem d_Root_keep_15 : decode b_Root_keep 15 = .ok (.ifCond .ne 6, 3) := by decide +kernel
theorem d_Root_keep_18 : decode b_Root_keep 18 = .ok (.bipush (-4), 2) := by decide +kernel
theorem d_Root_keep_20 : decode b_Root_keep 20 = .ok (.ireturn, 1) := by decide +kernel
theorem d_Root_keep_21 : decode b_Root_keep 21 = .ok (.aload_n 0, 1) := by decide +kernel
theorem d_Root_keep_22 : decode b_Root_keep 22 = .ok (.getfield 28, 3) := by decide +kernel
theorem d_Root_keep_25 : decode b_Root_keep 25 = .ok (.iload_n 1, 1) := by decide +kernel
theorem d_Root_keep_26 : decode b_Root_keep 26 = .ok (.aaload, 1) := by decide +kernel
theorem d_Root_keep_27 : decode b_Root_keep 27 = .ok (.aload_n 0, 1) := by decide +kernel
theorem d_Root_keep_28 : decode b_Root_keep 28 = .ok (.getfield 24, 3) := by decide +kernel
theorem d_Root_keep_31 : decode b_Root_keep 31 = .ok (.invokevirtual 221, 3) := by decide +kernel
theorem d_Root_keep_34 : decode b_Root_keep 34 = .ok (.aload_n 0, 1) := by decide +kernel
theorem d_Root_keep_35 : decode b_Root_keep 35 = .ok (.getfield 32, 3) := by decide +kernel
theorem d_Root_keep_38 : decode b_Root_keep 38 = .ok (.iload_n 1, 1) := by decide +kernel
theorem d_Root_keep_39 : decode b_Root_keep 39 = .ok (.iconst 1, 1) := by decide +kernel
theorem d_Root_keep_40 : decode b_Root_keep 40 = .ok (.bastore, 1) := by decide +kernel
theorem d_Root_keep_41 : decode b_Root_keep 41 = .ok (.aload_n 0, 1) := by decide +kernel
theorem d_Root_keep_42 : decode b_Root_keep 42 = .ok (.getfield 24, 3) := by decide +kernel
theorem d_Root_keep_45 : decode b_Root_keep 45 = .ok (.getfield 212, 3) := by decide +kernel
theorem d_Root_keep_48 : decode b_Root_keep 48 = .ok (.ireturn, 1) := by decide +kernel
abbrev b_Root_on : ByteArray := prog_1_method_22_code
abbrev y_Root_on : MethodName := ⟨"RiverTuesdays", "on", "(I)I"⟩
theorem ok_Root_on : okV y_Root_on b_Root_on 2 (some .int) 1 8 := ⟨mGW (List.mem_of_getElem? (i := 654) (by decide +kernel)) rfl, mGW (List.mem_of_getElem? (i := 655) (by decide +kernel)) rfl, mGW (List.mem_of_getElem? (i := 74) (by decide +kernel)) rfl, mGW (List.mem_of_getElem? (i := 656) (by decide +kernel)) rfl, ⟨by decide, by decide, by decide +kernel⟩, rfl⟩
theorem d_Root_on_0 : decode b_Root_on 0 = .ok (.iload_n 1, 1) := by decide +kernel
theorem d_Root_on_1 : decode b_Root_on 1 = .ok (.iconst 0, 1) := by decide +kernel
theorem d_Root_on_2 : decode b_Root_on 2 = .ok (.iconst 2, 1) := by decide +kernel
theorem d_Root_on_3 : decode b_Root_on 3 = .ok (.invokestatic 155, 3) := by decide +kernel
theorem d_Root_on_6 : decode b_Root_on 6 = .ok (.ifCond .ne 5, 3) := by decide +kernel
theorem d_Root_on_9 : decode b_Root_on 9 = .ok (.iconst (-1), 1) := by decide +kernel
theorem d_Root_on_10 : decode b_Root_on 10 = .ok (.ireturn, 1) := by decide +kernel
theorem d_Root_on_11 : decode b_Root_on 11 = .ok (.aload_n 0, 1) := by decide +kernel
theorem d_Root_on_12 : decode b_Root_on 12 = .ok (.getfield 32, 3) := by decide +kernel
theorem d_Root_on_15 : decode b_Root_on 15 = .ok (.iload_n 1, 1) := by decide +kernel
theorem d_Root_on_16 : decode b_Root_on 16 = .ok (.baload, 1) := by decide +kernel
theorem d_Root_on_17 : decode b_Root_on 17 = .ok (.ifCond .ne 9, 3) := by decide +kernel
theorem d_Root_on_20 : decode b_Root_on 20 = .ok (.aload_n 0, 1) := by decide +kernel
theorem d_Root_on_21 : decode b_Root_on 21 = .ok (.iconst 1, 1) := by decide +kernel
theorem d_Root_on_22 : decode b_Root_on 22 = .ok (.invokevirtual 84, 3) := by decide +kernel
theorem d_Root_on_25 : decode b_Root_on 25 = .ok (.ireturn, 1) := by decide +kernel
theorem d_Root_on_26 : decode b_Root_on 26 = .ok (.aload_n 0, 1) := by decide +kernel
theorem d_Root_on_27 : decode b_Root_on 27 = .ok (.getfield 24, 3) := by decide +kernel
theorem d_Root_on_30 : decode b_Root_on 30 = .ok (.aload_n 0, 1) := by decide +kernel
theorem d_Root_on_31 : decode b_Root_on 31 = .ok (.getfield 28, 3) := by decide +kernel
theorem d_Root_on_34 : decode b_Root_on 34 = .ok (.iload_n 1, 1) := by decide +kernel
theorem d_Root_on_35 : decode b_Root_on 35 = .ok (.aaload, 1) := by decide +kernel
theorem d_Root_on_36 : decode b_Root_on 36 = .ok (.invokevirtual 221, 3) := by decide +kernel
theorem d_Root_on_39 : decode b_Root_on 39 = .ok (.aload_n 0, 1) := by decide +kernel
theorem d_Root_on_40 : decode b_Root_on 40 = .ok (.getfield 24, 3) := by decide +kernel
theorem d_Root_on_43 : decode b_Root_on 43 = .ok (.getfield 212, 3) := by decide +kernel
theorem d_Root_on_46 : decode b_Root_on 46 = .ok (.ireturn, 1) := by decide +kernel
abbrev b_Root_leadAside : ByteArray := prog_1_method_66_code
abbrev y_Root_leadAside : MethodName := ⟨"RiverTuesdays", "leadAside", "(I)V"⟩
theorem ok_Root_leadAside : okV y_Root_leadAside b_Root_leadAside 2 none 1 8 := ⟨mGW (List.mem_of_getElem? (i := 670) (by decide +kernel)) rfl, mGW (List.mem_of_getElem? (i := 12) (by decide +kernel)) rfl, mGW (List.mem_of_getElem? (i := 74) (by decide +kernel)) rfl, mGW (List.mem_of_getElem? (i := 671) (by decide +kernel)) rfl, ⟨by decide, by decide, by decide +kernel⟩, rfl⟩
theorem d_Root_leadAside_0 : decode b_Root_leadAside 0 = .ok (.aload_n 0, 1) := by decide +kernel
theorem d_Root_leadAside_1 : decode b_Root_leadAside 1 = .ok (.getfield 53, 3) := by decide +kernel
theorem d_Root_leadAside_4 : decode b_Root_leadAside 4 = .ok (.aload_n 0, 1) := by decide +kernel
theorem d_Root_leadAside_5 : decode b_Root_leadAside 5 = .ok (.getfield 24, 3) := by decide +kernel
theorem d_Root_leadAside_8 : decode b_Root_leadAside 8 = .ok (.getfield 168, 3) := by decide +kernel
theorem d_Root_leadAside_11 : decode b_Root_leadAside 11 = .ok (.invokevirtual 291, 3) := by decide +kernel
theorem d_Root_leadAside_14 : decode b_Root_leadAside 14 = .ok (.aload_n 0, 1) := by decide +kernel
theorem d_Root_leadAside_15 : decode b_Root_leadAside 15 = .ok (.getfield 53, 3) := by decide +kernel
theorem d_Root_leadAside_18 : decode b_Root_leadAside 18 = .ok (.aload_n 0, 1) := by decide +kernel
theorem d_Root_leadAside_19 : decode b_Root_leadAside 19 = .ok (.getfield 24, 3) := by decide +kernel
theorem d_Root_leadAside_22 : decode b_Root_leadAside 22 = .ok (.getfield 146, 3) := by decide +kernel
theorem d_Root_leadAside_25 : decode b_Root_leadAside 25 = .ok (.iload_n 1, 1) := by decide +kernel
theorem d_Root_leadAside_26 : decode b_Root_leadAside 26 = .ok (.invokevirtual 297, 3) := by decide +kernel
theorem d_Root_leadAside_29 : decode b_Root_leadAside 29 = .ok (.return_, 1) := by decide +kernel
abbrev b_Root_isPlan : ByteArray := prog_1_method_56_code
abbrev y_Root_isPlan : MethodName := ⟨"RiverTuesdays", "isPlan", "(I)Z"⟩
theorem ok_Root_isPlan : okS y_Root_isPlan b_Root_isPlan 1 (some .boolean) 1 := ⟨mGW (List.mem_of_getElem? (i := 666) (by decide +kernel)) rfl, mGW (List.mem_of_getElem? (i := 74) (by decide +kernel)) rfl, mGW (List.mem_of_getElem? (i := 667) (by decide +kernel)) rfl, ⟨by decide, by decide, by decide +kernel⟩⟩
theorem d_Root_isPlan_0 : decode b_Root_isPlan 0 = .ok (.iload_n 0, 1) := by decide +kernel
theorem d_Root_isPlan_1 : decode b_Root_isPlan 1 = .ok (.iconst 0, 1) := by decide +kernel
theorem d_Root_isPlan_2 : decode b_Root_isPlan 2 = .ok (.sipush 255, 3) := by decide +kernel
theorem d_Root_isPlan_5 : decode b_Root_isPlan 5 = .ok (.invokestatic 155, 3) := by decide +kernel
theorem d_Root_isPlan_8 : decode b_Root_isPlan 8 = .ok (.ireturn, 1) := by decide +kernel
abbrev b_Root_refusedPlan : ByteArray := prog_1_method_62_code
abbrev y_Root_refusedPlan : MethodName := ⟨"RiverTuesdays", "refusedPlan", "(I)I"⟩
theorem ok_Root_refusedPlan : okV y_Root_refusedPlan b_Root_refusedPlan 2 (some .int) 1 8 := ⟨mGW (List.mem_of_getElem? (i := 663) (by decide +kernel)) rfl, mGW (List.mem_of_getElem? (i := 11) (by decide +kernel)) rfl, mGW (List.mem_of_getElem? (i := 74) (by decide +kernel)) rfl, mGW (List.mem_of_getElem? (i := 664) (by decide +kernel)) rfl, ⟨by decide, by decide, by decide +kernel⟩, rfl⟩
theorem d_Root_refusedPlan_0 : decode b_Root_refusedPlan 0 = .ok (.iload_n 1, 1) := by decide +kernel
theorem d_Root_refusedPlan_1 : decode b_Root_refusedPlan 1 = .ok (.invokestatic 245, 3) := by decide +kernel
theorem d_Root_refusedPlan_4 : decode b_Root_refusedPlan 4 = .ok (.ifCond .ne 5, 3) := by decide +kernel
theorem d_Root_refusedPlan_7 : decode b_Root_refusedPlan 7 = .ok (.iconst (-1), 1) := by decide +kernel
theorem d_Root_refusedPlan_8 : decode b_Root_refusedPlan 8 = .ok (.ireturn, 1) := by decide +kernel
theorem d_Root_refusedPlan_9 : decode b_Root_refusedPlan 9 = .ok (.aload_n 0, 1) := by decide +kernel
theorem d_Root_refusedPlan_10 : decode b_Root_refusedPlan 10 = .ok (.invokevirtual 190, 3) := by decide +kernel
theorem d_Root_refusedPlan_13 : decode b_Root_refusedPlan 13 = .ok (.ifCond .eq 7, 3) := by decide +kernel
theorem d_Root_refusedPlan_16 : decode b_Root_refusedPlan 16 = .ok (.iconst 0, 1) := by decide +kernel
theorem d_Root_refusedPlan_17 : decode b_Root_refusedPlan 17 = .ok (.goto 5, 3) := by decide +kernel
theorem d_Root_refusedPlan_20 : decode b_Root_refusedPlan 20 = .ok (.bipush (-4), 2) := by decide +kernel
theorem d_Root_refusedPlan_22 : decode b_Root_refusedPlan 22 = .ok (.ireturn, 1) := by decide +kernel
abbrev b_Root_harm : ByteArray := prog_1_method_23_code
abbrev y_Root_harm : MethodName := ⟨"RiverTuesdays", "harm", "(I)I"⟩
theorem ok_Root_harm : okV y_Root_harm b_Root_harm 3 (some .int) 1 8 := ⟨mGW (List.mem_of_getElem? (i := 658) (by decide +kernel)) rfl, mGW (List.mem_of_getElem? (i := 659) (by decide +kernel)) rfl, mGW (List.mem_of_getElem? (i := 74) (by decide +kernel)) rfl, mGW (List.mem_of_getElem? (i := 660) (by decide +kernel)) rfl, ⟨by decide, by decide, by decide +kernel⟩, rfl⟩
theorem d_Root_harm_0 : decode b_Root_harm 0 = .ok (.aload_n 0, 1) := by decide +kernel
theorem d_Root_harm_1 : decode b_Root_harm 1 = .ok (.iload_n 1, 1) := by decide +kernel
theorem d_Root_harm_2 : decode b_Root_harm 2 = .ok (.invokevirtual 225, 3) := by decide +kernel
theorem d_Root_harm_5 : decode b_Root_harm 5 = .ok (.istore_n 2, 1) := by decide +kernel
theorem d_Root_harm_6 : decode b_Root_harm 6 = .ok (.iload_n 2, 1) := by decide +kernel
theorem d_Root_harm_7 : decode b_Root_harm 7 = .ok (.ifCond .eq 5, 3) := by decide +kernel
theorem d_Root_harm_10 : decode b_Root_harm 10 = .ok (.iload_n 2, 1) := by decide +kernel
theorem d_Root_harm_11 : decode b_Root_harm 11 = .ok (.ireturn, 1) := by decide +kernel
theorem d_Root_harm_12 : decode b_Root_harm 12 = .ok (.aload_n 0, 1) := by decide +kernel
theorem d_Root_harm_13 : decode b_Root_harm 13 = .ok (.iload_n 1, 1) := by decide +kernel
theorem d_Root_harm_14 : decode b_Root_harm 14 = .ok (.invokevirtual 228, 3) := by decide +kernel
theorem d_Root_harm_17 : decode b_Root_harm 17 = .ok (.aload_n 0, 1) := by decide +kernel
theorem d_Root_harm_18 : decode b_Root_harm 18 = .ok (.aload_n 0, 1) := by decide +kernel
theorem d_Root_harm_19 : decode b_Root_harm 19 = .ok (.getfield 53, 3) := by decide +kernel
theorem d_Root_harm_22 : decode b_Root_harm 22 = .ok (.invokevirtual 231, 3) := by decide +kernel
theorem d_Root_harm_25 : decode b_Root_harm 25 = .ok (.aload_n 0, 1) := by decide +kernel
theorem d_Root_harm_26 : decode b_Root_harm 26 = .ok (.getfield 53, 3) := by decide +kernel
theorem d_Root_harm_29 : decode b_Root_harm 29 = .ok (.invokevirtual 234, 3) := by decide +kernel
theorem d_Root_harm_32 : decode b_Root_harm 32 = .ok (.invokevirtual 99, 3) := by decide +kernel
theorem d_Root_harm_35 : decode b_Root_harm 35 = .ok (.ireturn, 1) := by decide +kernel
abbrev b_Root_wet : ByteArray := prog_1_method_24_code
abbrev y_Root_wet : MethodName := ⟨"RiverTuesdays", "wet", "(I)I"⟩
theorem ok_Root_wet : okV y_Root_wet b_Root_wet 4 (some .int) 1 8 := ⟨mGW (List.mem_of_getElem? (i := 718) (by decide +kernel)) rfl, mGW (List.mem_of_getElem? (i := 719) (by decide +kernel)) rfl, mGW (List.mem_of_getElem? (i := 74) (by decide +kernel)) rfl, mGW (List.mem_of_getElem? (i := 720) (by decide +kernel)) rfl, ⟨by decide, by decide, by decide +kernel⟩, rfl⟩
theorem d_Root_wet_0 : decode b_Root_wet 0 = .ok (.aload_n 0, 1) := by decide +kernel
theorem d_Root_wet_1 : decode b_Root_wet 1 = .ok (.iload_n 1, 1) := by decide +kernel
theorem d_Root_wet_2 : decode b_Root_wet 2 = .ok (.invokevirtual 225, 3) := by decide +kernel
theorem d_Root_wet_5 : decode b_Root_wet 5 = .ok (.istore_n 2, 1) := by decide +kernel
theorem d_Root_wet_6 : decode b_Root_wet 6 = .ok (.iload_n 2, 1) := by decide +kernel
theorem d_Root_wet_7 : decode b_Root_wet 7 = .ok (.ifCond .eq 5, 3) := by decide +kernel
theorem d_Root_wet_10 : decode b_Root_wet 10 = .ok (.iload_n 2, 1) := by decide +kernel
theorem d_Root_wet_11 : decode b_Root_wet 11 = .ok (.ireturn, 1) := by decide +kernel
theorem d_Root_wet_12 : decode b_Root_wet 12 = .ok (.aload_n 0, 1) := by decide +kernel
theorem d_Root_wet_13 : decode b_Root_wet 13 = .ok (.iload_n 1, 1) := by decide +kernel
theorem d_Root_wet_14 : decode b_Root_wet 14 = .ok (.invokevirtual 228, 3) := by decide +kernel
theorem d_Root_wet_17 : decode b_Root_wet 17 = .ok (.aload_n 0, 1) := by decide +kernel
theorem d_Root_wet_18 : decode b_Root_wet 18 = .ok (.getfield 53, 3) := by decide +kernel
theorem d_Root_wet_21 : decode b_Root_wet 21 = .ok (.getfield 237, 3) := by decide +kernel
theorem d_Root_wet_24 : decode b_Root_wet 24 = .ok (.bipush 8, 2) := by decide +kernel
theorem d_Root_wet_26 : decode b_Root_wet 26 = .ok (.iaload, 1) := by decide +kernel
theorem d_Root_wet_27 : decode b_Root_wet 27 = .ok (.istore_n 3, 1) := by decide +kernel
theorem d_Root_wet_28 : decode b_Root_wet 28 = .ok (.aload_n 0, 1) := by decide +kernel
theorem d_Root_wet_29 : decode b_Root_wet 29 = .ok (.iload_n 3, 1) := by decide +kernel
theorem d_Root_wet_30 : decode b_Root_wet 30 = .ok (.invokestatic 240, 3) := by decide +kernel
theorem d_Root_wet_33 : decode b_Root_wet 33 = .ok (.iload_n 3, 1) := by decide +kernel
theorem d_Root_wet_34 : decode b_Root_wet 34 = .ok (.invokevirtual 99, 3) := by decide +kernel
theorem d_Root_wet_37 : decode b_Root_wet 37 = .ok (.ireturn, 1) := by decide +kernel
abbrev b_Root_when : ByteArray := prog_1_method_25_code
abbrev y_Root_when : MethodName := ⟨"RiverTuesdays", "when", "(II)I"⟩
theorem ok_Root_when : okV y_Root_when b_Root_when 4 (some .int) 2 8 := ⟨mGW (List.mem_of_getElem? (i := 723) (by decide +kernel)) rfl, mGW (List.mem_of_getElem? (i := 724) (by decide +kernel)) rfl, mGW (List.mem_of_getElem? (i := 74) (by decide +kernel)) rfl, mGW (List.mem_of_getElem? (i := 725) (by decide +kernel)) rfl, ⟨by decide, by decide, by decide +kernel⟩, rfl⟩
theorem d_Root_when_0 : decode b_Root_when 0 = .ok (.iload_n 1, 1) := by decide +kernel
theorem d_Root_when_1 : decode b_Root_when 1 = .ok (.invokestatic 245, 3) := by decide +kernel
theorem d_Root_when_4 : decode b_Root_when 4 = .ok (.ifCond .eq 17, 3) := by decide +kernel
theorem d_Root_when_7 : decode b_Root_when 7 = .ok (.aload_n 0, 1) := by decide +kernel
theorem d_Root_when_8 : decode b_Root_when 8 = .ok (.getfield 24, 3) := by decide +kernel
theorem d_Root_when_11 : decode b_Root_when 11 = .ok (.getfield 146, 3) := by decide +kernel
theorem d_Root_when_14 : decode b_Root_when 14 = .ok (.iload_n 2, 1) := by decide +kernel
theorem d_Root_when_15 : decode b_Root_when 15 = .ok (.invokevirtual 152, 3) := by decide +kernel
theorem d_Root_when_18 : decode b_Root_when 18 = .ok (.ifCond .ne 5, 3) := by decide +kernel
theorem d_Root_when_21 : decode b_Root_when 21 = .ok (.iconst (-1), 1) := by decide +kernel
theorem d_Root_when_22 : decode b_Root_when 22 = .ok (.ireturn, 1) := by decide +kernel
theorem d_Root_when_23 : decode b_Root_when 23 = .ok (.aload_n 0, 1) := by decide +kernel
theorem d_Root_when_24 : decode b_Root_when 24 = .ok (.iload_n 1, 1) := by decide +kernel
theorem d_Root_when_25 : decode b_Root_when 25 = .ok (.invokevirtual 228, 3) := by decide +kernel
theorem d_Root_when_28 : decode b_Root_when 28 = .ok (.iconst 0, 1) := by decide +kernel
theorem d_Root_when_29 : decode b_Root_when 29 = .ok (.istore_n 3, 1) := by decide +kernel
theorem d_Root_when_30 : decode b_Root_when 30 = .ok (.iload_n 3, 1) := by decide +kernel
theorem d_Root_when_31 : decode b_Root_when 31 = .ok (.bipush 8, 2) := by decide +kernel
theorem d_Root_when_33 : decode b_Root_when 33 = .ok (.if_icmp .ge 29, 3) := by decide +kernel
theorem d_Root_when_36 : decode b_Root_when 36 = .ok (.aload_n 0, 1) := by decide +kernel
theorem d_Root_when_37 : decode b_Root_when 37 = .ok (.getfield 53, 3) := by decide +kernel
theorem d_Root_when_40 : decode b_Root_when 40 = .ok (.getfield 237, 3) := by decide +kernel
theorem d_Root_when_43 : decode b_Root_when 43 = .ok (.iload_n 3, 1) := by decide +kernel
theorem d_Root_when_44 : decode b_Root_when 44 = .ok (.iconst 1, 1) := by decide +kernel
theorem d_Root_when_45 : decode b_Root_when 45 = .ok (.iadd, 1) := by decide +kernel
theorem d_Root_when_46 : decode b_Root_when 46 = .ok (.iaload, 1) := by decide +kernel
theorem d_Root_when_47 : decode b_Root_when 47 = .ok (.iload_n 2, 1) := by decide +kernel
theorem d_Root_when_48 : decode b_Root_when 48 = .ok (.invokestatic 248, 3) := by decide +kernel
theorem d_Root_when_51 : decode b_Root_when 51 = .ok (.ifCond .eq 5, 3) := by decide +kernel
theorem d_Root_when_54 : decode b_Root_when 54 = .ok (.iload_n 3, 1) := by decide +kernel
theorem d_Root_when_55 : decode b_Root_when 55 = .ok (.ireturn, 1) := by decide +kernel
theorem d_Root_when_56 : decode b_Root_when 56 = .ok (.iinc 3 1, 3) := by decide +kernel
theorem d_Root_when_59 : decode b_Root_when 59 = .ok (.goto (-29), 3) := by decide +kernel
theorem d_Root_when_62 : decode b_Root_when 62 = .ok (.bipush (-9), 2) := by decide +kernel
theorem d_Root_when_64 : decode b_Root_when 64 = .ok (.ireturn, 1) := by decide +kernel
abbrev b_Root_isHourOfDay : ByteArray := prog_1_method_57_code
abbrev y_Root_isHourOfDay : MethodName := ⟨"RiverTuesdays", "isHourOfDay", "(I)Z"⟩
theorem ok_Root_isHourOfDay : okS y_Root_isHourOfDay b_Root_isHourOfDay 1 (some .boolean) 1 := ⟨mGW (List.mem_of_getElem? (i := 734) (by decide +kernel)) rfl, mGW (List.mem_of_getElem? (i := 74) (by decide +kernel)) rfl, mGW (List.mem_of_getElem? (i := 735) (by decide +kernel)) rfl, ⟨by decide, by decide, by decide +kernel⟩⟩
theorem d_Root_isHourOfDay_0 : decode b_Root_isHourOfDay 0 = .ok (.iload_n 0, 1) := by decide +kernel
theorem d_Root_isHourOfDay_1 : decode b_Root_isHourOfDay 1 = .ok (.iconst 0, 1) := by decide +kernel
theorem d_Root_isHourOfDay_2 : decode b_Root_isHourOfDay 2 = .ok (.bipush 7, 2) := by decide +kernel
theorem d_Root_isHourOfDay_4 : decode b_Root_isHourOfDay 4 = .ok (.invokestatic 155, 3) := by decide +kernel
theorem d_Root_isHourOfDay_7 : decode b_Root_isHourOfDay 7 = .ok (.ireturn, 1) := by decide +kernel
abbrev b_Root_cut : ByteArray := prog_1_method_26_code
abbrev y_Root_cut : MethodName := ⟨"RiverTuesdays", "cut", "(II)I"⟩
theorem ok_Root_cut : okV y_Root_cut b_Root_cut 5 (some .int) 2 8 := ⟨mGW (List.mem_of_getElem? (i := 730) (by decide +kernel)) rfl, mGW (List.mem_of_getElem? (i := 731) (by decide +kernel)) rfl, mGW (List.mem_of_getElem? (i := 74) (by decide +kernel)) rfl, mGW (List.mem_of_getElem? (i := 732) (by decide +kernel)) rfl, ⟨by decide, by decide, by decide +kernel⟩, rfl⟩
theorem d_Root_cut_0 : decode b_Root_cut 0 = .ok (.iload_n 2, 1) := by decide +kernel
theorem d_Root_cut_1 : decode b_Root_cut 1 = .ok (.invokestatic 251, 3) := by decide +kernel
theorem d_Root_cut_4 : decode b_Root_cut 4 = .ok (.ifCond .ne 5, 3) := by decide +kernel
theorem d_Root_cut_7 : decode b_Root_cut 7 = .ok (.iconst (-1), 1) := by decide +kernel
theorem d_Root_cut_8 : decode b_Root_cut 8 = .ok (.ireturn, 1) := by decide +kernel
theorem d_Root_cut_9 : decode b_Root_cut 9 = .ok (.aload_n 0, 1) := by decide +kernel
theorem d_Root_cut_10 : decode b_Root_cut 10 = .ok (.iload_n 1, 1) := by decide +kernel
theorem d_Root_cut_11 : decode b_Root_cut 11 = .ok (.invokevirtual 225, 3) := by decide +kernel
theorem d_Root_cut_14 : decode b_Root_cut 14 = .ok (.istore_n 3, 1) := by decide +kernel
theorem d_Root_cut_15 : decode b_Root_cut 15 = .ok (.iload_n 3, 1) := by decide +kernel
theorem d_Root_cut_16 : decode b_Root_cut 16 = .ok (.ifCond .eq 5, 3) := by decide +kernel
theorem d_Root_cut_19 : decode b_Root_cut 19 = .ok (.iload_n 3, 1) := by decide +kernel
theorem d_Root_cut_20 : decode b_Root_cut 20 = .ok (.ireturn, 1) := by decide +kernel
theorem d_Root_cut_21 : decode b_Root_cut 21 = .ok (.aload_n 0, 1) := by decide +kernel
theorem d_Root_cut_22 : decode b_Root_cut 22 = .ok (.iload_n 1, 1) := by decide +kernel
theorem d_Root_cut_23 : decode b_Root_cut 23 = .ok (.invokevirtual 228, 3) := by decide +kernel
theorem d_Root_cut_26 : decode b_Root_cut 26 = .ok (.aload_n 0, 1) := by decide +kernel
theorem d_Root_cut_27 : decode b_Root_cut 27 = .ok (.getfield 53, 3) := by decide +kernel
theorem d_Root_cut_30 : decode b_Root_cut 30 = .ok (.iload_n 2, 1) := by decide +kernel
theorem d_Root_cut_31 : decode b_Root_cut 31 = .ok (.invokevirtual 254, 3) := by decide +kernel
theorem d_Root_cut_34 : decode b_Root_cut 34 = .ok (.istore 4, 2) := by decide +kernel
theorem d_Root_cut_36 : decode b_Root_cut 36 = .ok (.aload_n 0, 1) := by decide +kernel
theorem d_Root_cut_37 : decode b_Root_cut 37 = .ok (.iload 4, 2) := by decide +kernel
theorem d_Root_cut_39 : decode b_Root_cut 39 = .ok (.invokestatic 240, 3) := by decide +kernel
theorem d_Root_cut_42 : decode b_Root_cut 42 = .ok (.iload 4, 2) := by decide +kernel
theorem d_Root_cut_44 : decode b_Root_cut 44 = .ok (.invokevirtual 99, 3) := by decide +kernel
theorem d_Root_cut_47 : decode b_Root_cut 47 = .ok (.ireturn, 1) := by decide +kernel
abbrev b_Root_boat : ByteArray := prog_1_method_27_code
abbrev y_Root_boat : MethodName := ⟨"RiverTuesdays", "boat", "(IIII)I"⟩
theorem ok_Root_boat : okV y_Root_boat b_Root_boat 7 (some .int) 4 8 := ⟨mGW (List.mem_of_getElem? (i := 741) (by decide +kernel)) rfl, mGW (List.mem_of_getElem? (i := 742) (by decide +kernel)) rfl, mGW (List.mem_of_getElem? (i := 74) (by decide +kernel)) rfl, mGW (List.mem_of_getElem? (i := 743) (by decide +kernel)) rfl, ⟨by decide, by decide, by decide +kernel⟩, rfl⟩
theorem d_Root_boat_0 : decode b_Root_boat 0 = .ok (.iload_n 1, 1) := by decide +kernel
theorem d_Root_boat_1 : decode b_Root_boat 1 = .ok (.invokestatic 245, 3) := by decide +kernel
theorem d_Root_boat_4 : decode b_Root_boat 4 = .ok (.ifCond .eq 39, 3) := by decide +kernel
theorem d_Root_boat_7 : decode b_Root_boat 7 = .ok (.iload_n 2, 1) := by decide +kernel
theorem d_Root_boat_8 : decode b_Root_boat 8 = .ok (.invokestatic 251, 3) := by decide +kernel
theorem d_Root_boat_11 : decode b_Root_boat 11 = .ok (.ifCond .eq 32, 3) := by decide +kernel
theorem d_Root_boat_14 : decode b_Root_boat 14 = .ok (.aload_n 0, 1) := by decide +kernel
theorem d_Root_boat_15 : decode b_Root_boat 15 = .ok (.getfield 24, 3) := by decide +kernel
theorem d_Root_boat_18 : decode b_Root_boat 18 = .ok (.getfield 146, 3) := by decide +kernel
theorem d_Root_boat_21 : decode b_Root_boat 21 = .ok (.iload_n 3, 1) := by decide +kernel
theorem d_Root_boat_22 : decode b_Root_boat 22 = .ok (.invokevirtual 152, 3) := by decide +kernel
theorem d_Root_boat_25 : decode b_Root_boat 25 = .ok (.ifCond .eq 18, 3) := by decide +kernel
theorem d_Root_boat_28 : decode b_Root_boat 28 = .ok (.aload_n 0, 1) := by decide +kernel
theorem d_Root_boat_29 : decode b_Root_boat 29 = .ok (.getfield 24, 3) := by decide +kernel
theorem d_Root_boat_32 : decode b_Root_boat 32 = .ok (.getfield 146, 3) := by decide +kernel
theorem d_Root_boat_35 : decode b_Root_boat 35 = .ok (.iload 4, 2) := by decide +kernel
theorem d_Root_boat_37 : decode b_Root_boat 37 = .ok (.invokevirtual 152, 3) := by decide +kernel
theorem d_Root_boat_40 : decode b_Root_boat 40 = .ok (.ifCond .ne 5, 3) := by decide +kernel
theorem d_Root_boat_43 : decode b_Root_boat 43 = .ok (.iconst (-1), 1) := by decide +kernel
theorem d_Root_boat_44 : decode b_Root_boat 44 = .ok (.ireturn, 1) := by decide +kernel
theorem d_Root_boat_45 : decode b_Root_boat 45 = .ok (.aload_n 0, 1) := by decide +kernel
theorem d_Root_boat_46 : decode b_Root_boat 46 = .ok (.iload_n 1, 1) := by decide +kernel
theorem d_Root_boat_47 : decode b_Root_boat 47 = .ok (.invokevirtual 228, 3) := by decide +kernel
theorem d_Root_boat_50 : decode b_Root_boat 50 = .ok (.aload_n 0, 1) := by decide +kernel
theorem d_Root_boat_51 : decode b_Root_boat 51 = .ok (.getfield 53, 3) := by decide +kernel
theorem d_Root_boat_54 : decode b_Root_boat 54 = .ok (.iload_n 2, 1) := by decide +kernel
theorem d_Root_boat_55 : decode b_Root_boat 55 = .ok (.invokevirtual 254, 3) := by decide +kernel
theorem d_Root_boat_58 : decode b_Root_boat 58 = .ok (.istore 5, 2) := by decide +kernel
theorem d_Root_boat_60 : decode b_Root_boat 60 = .ok (.iload_n 3, 1) := by decide +kernel
theorem d_Root_boat_61 : decode b_Root_boat 61 = .ok (.iload 4, 2) := by decide +kernel
theorem d_Root_boat_63 : decode b_Root_boat 63 = .ok (.invokestatic 257, 3) := by decide +kernel
theorem d_Root_boat_66 : decode b_Root_boat 66 = .ok (.istore 6, 2) := by decide +kernel
theorem d_Root_boat_68 : decode b_Root_boat 68 = .ok (.iload 6, 2) := by decide +kernel
theorem d_Root_boat_70 : decode b_Root_boat 70 = .ok (.iload_n 3, 1) := by decide +kernel
theorem d_Root_boat_71 : decode b_Root_boat 71 = .ok (.iload 4, 2) := by decide +kernel
theorem d_Root_boat_73 : decode b_Root_boat 73 = .ok (.invokestatic 262, 3) := by decide +kernel
theorem d_Root_boat_76 : decode b_Root_boat 76 = .ok (.if_icmp .gt 21, 3) := by decide +kernel
theorem d_Root_boat_79 : decode b_Root_boat 79 = .ok (.iload 5, 2) := by decide +kernel
theorem d_Root_boat_81 : decode b_Root_boat 81 = .ok (.iload 6, 2) := by decide +kernel
theorem d_Root_boat_83 : decode b_Root_boat 83 = .ok (.invokestatic 248, 3) := by decide +kernel
theorem d_Root_boat_86 : decode b_Root_boat 86 = .ok (.ifCond .ne 5, 3) := by decide +kernel
theorem d_Root_boat_89 : decode b_Root_boat 89 = .ok (.iconst 0, 1) := by decide +kernel
theorem d_Root_boat_90 : decode b_Root_boat 90 = .ok (.ireturn, 1) := by decide +kernel
theorem d_Root_boat_91 : decode b_Root_boat 91 = .ok (.iinc 6 1, 3) := by decide +kernel
theorem d_Root_boat_94 : decode b_Root_boat 94 = .ok (.goto (-26), 3) := by decide +kernel
theorem d_Root_boat_97 : decode b_Root_boat 97 = .ok (.iconst 1, 1) := by decide +kernel
theorem d_Root_boat_98 : decode b_Root_boat 98 = .ok (.ireturn, 1) := by decide +kernel
abbrev b_Root_boatPairs : ByteArray := prog_1_method_68_code
abbrev y_Root_boatPairs : MethodName := ⟨"RiverTuesdays", "boatPairs", "(I)I"⟩
theorem ok_Root_boatPairs : okV y_Root_boatPairs b_Root_boatPairs 5 (some .int) 1 8 := ⟨mGW (List.mem_of_getElem? (i := 752) (by decide +kernel)) rfl, mGW (List.mem_of_getElem? (i := 15) (by decide +kernel)) rfl, mGW (List.mem_of_getElem? (i := 74) (by decide +kernel)) rfl, mGW (List.mem_of_getElem? (i := 753) (by decide +kernel)) rfl, ⟨by decide, by decide, by decide +kernel⟩, rfl⟩
theorem d_Root_boatPairs_0 : decode b_Root_boatPairs 0 = .ok (.iconst 0, 1) := by decide +kernel
theorem d_Root_boatPairs_1 : decode b_Root_boatPairs 1 = .ok (.istore_n 2, 1) := by decide +kernel
theorem d_Root_boatPairs_2 : decode b_Root_boatPairs 2 = .ok (.iconst 0, 1) := by decide +kernel
theorem d_Root_boatPairs_3 : decode b_Root_boatPairs 3 = .ok (.istore_n 3, 1) := by decide +kernel
theorem d_Root_boatPairs_4 : decode b_Root_boatPairs 4 = .ok (.iconst 0, 1) := by decide +kernel
theorem d_Root_boatPairs_5 : decode b_Root_boatPairs 5 = .ok (.istore 4, 2) := by decide +kernel
theorem d_Root_boatPairs_7 : decode b_Root_boatPairs 7 = .ok (.iload 4, 2) := by decide +kernel
theorem d_Root_boatPairs_9 : decode b_Root_boatPairs 9 = .ok (.aload_n 0, 1) := by decide +kernel
theorem d_Root_boatPairs_10 : decode b_Root_boatPairs 10 = .ok (.getfield 24, 3) := by decide +kernel
theorem d_Root_boatPairs_13 : decode b_Root_boatPairs 13 = .ok (.getfield 146, 3) := by decide +kernel
theorem d_Root_boatPairs_16 : decode b_Root_boatPairs 16 = .ok (.getfield 149, 3) := by decide +kernel
theorem d_Root_boatPairs_19 : decode b_Root_boatPairs 19 = .ok (.if_icmp .ge 30, 3) := by decide +kernel
theorem d_Root_boatPairs_22 : decode b_Root_boatPairs 22 = .ok (.iload_n 1, 1) := by decide +kernel
theorem d_Root_boatPairs_23 : decode b_Root_boatPairs 23 = .ok (.iload 4, 2) := by decide +kernel
theorem d_Root_boatPairs_25 : decode b_Root_boatPairs 25 = .ok (.invokestatic 248, 3) := by decide +kernel
theorem d_Root_boatPairs_28 : decode b_Root_boatPairs 28 = .ok (.ifCond .eq 13, 3) := by decide +kernel
theorem d_Root_boatPairs_31 : decode b_Root_boatPairs 31 = .ok (.iload_n 2, 1) := by decide +kernel
theorem d_Root_boatPairs_32 : decode b_Root_boatPairs 32 = .ok (.iload_n 3, 1) := by decide +kernel
theorem d_Root_boatPairs_33 : decode b_Root_boatPairs 33 = .ok (.iadd, 1) := by decide +kernel
theorem d_Root_boatPairs_34 : decode b_Root_boatPairs 34 = .ok (.istore_n 2, 1) := by decide +kernel
theorem d_Root_boatPairs_35 : decode b_Root_boatPairs 35 = .ok (.iinc 3 1, 3) := by decide +kernel
theorem d_Root_boatPairs_38 : decode b_Root_boatPairs 38 = .ok (.goto 5, 3) := by decide +kernel
theorem d_Root_boatPairs_41 : decode b_Root_boatPairs 41 = .ok (.iconst 0, 1) := by decide +kernel
theorem d_Root_boatPairs_42 : decode b_Root_boatPairs 42 = .ok (.istore_n 3, 1) := by decide +kernel
theorem d_Root_boatPairs_43 : decode b_Root_boatPairs 43 = .ok (.iinc 4 1, 3) := by decide +kernel
theorem d_Root_boatPairs_46 : decode b_Root_boatPairs 46 = .ok (.goto (-39), 3) := by decide +kernel
theorem d_Root_boatPairs_49 : decode b_Root_boatPairs 49 = .ok (.iload_n 2, 1) := by decide +kernel
theorem d_Root_boatPairs_50 : decode b_Root_boatPairs 50 = .ok (.ireturn, 1) := by decide +kernel
abbrev b_Root_trade : ByteArray := prog_1_method_28_code
abbrev y_Root_trade : MethodName := ⟨"RiverTuesdays", "trade", "(I)I"⟩
theorem ok_Root_trade : okV y_Root_trade b_Root_trade 7 (some .int) 1 8 := ⟨mGW (List.mem_of_getElem? (i := 747) (by decide +kernel)) rfl, mGW (List.mem_of_getElem? (i := 748) (by decide +kernel)) rfl, mGW (List.mem_of_getElem? (i := 74) (by decide +kernel)) rfl, mGW (List.mem_of_getElem? (i := 749) (by decide +kernel)) rfl, ⟨by decide, by decide, by decide +kernel⟩, rfl⟩
theorem d_Root_trade_0 : decode b_Root_trade 0 = .ok (.aload_n 0, 1) := by decide +kernel
theorem d_Root_trade_1 : decode b_Root_trade 1 = .ok (.iload_n 1, 1) := by decide +kernel
theorem d_Root_trade_2 : decode b_Root_trade 2 = .ok (.invokevirtual 225, 3) := by decide +kernel
theorem d_Root_trade_5 : decode b_Root_trade 5 = .ok (.istore_n 2, 1) := by decide +kernel
theorem d_Root_trade_6 : decode b_Root_trade 6 = .ok (.iload_n 2, 1) := by decide +kernel
theorem d_Root_trade_7 : decode b_Root_trade 7 = .ok (.ifCond .eq 5, 3) := by decide +kernel
theorem d_Root_trade_10 : decode b_Root_trade 10 = .ok (.iload_n 2, 1) := by decide +kernel
theorem d_Root_trade_11 : decode b_Root_trade 11 = .ok (.ireturn, 1) := by decide +kernel
theorem d_Root_trade_12 : decode b_Root_trade 12 = .ok (.aload_n 0, 1) := by decide +kernel
theorem d_Root_trade_13 : decode b_Root_trade 13 = .ok (.iload_n 1, 1) := by decide +kernel
theorem d_Root_trade_14 : decode b_Root_trade 14 = .ok (.invokevirtual 228, 3) := by decide +kernel
theorem d_Root_trade_17 : decode b_Root_trade 17 = .ok (.iconst 0, 1) := by decide +kernel
theorem d_Root_trade_18 : decode b_Root_trade 18 = .ok (.istore_n 3, 1) := by decide +kernel
theorem d_Root_trade_19 : decode b_Root_trade 19 = .ok (.aload_n 0, 1) := by decide +kernel
theorem d_Root_trade_20 : decode b_Root_trade 20 = .ok (.aload_n 0, 1) := by decide +kernel
theorem d_Root_trade_21 : decode b_Root_trade 21 = .ok (.getfield 53, 3) := by decide +kernel
theorem d_Root_trade_24 : decode b_Root_trade 24 = .ok (.iconst 0, 1) := by decide +kernel
theorem d_Root_trade_25 : decode b_Root_trade 25 = .ok (.invokevirtual 254, 3) := by decide +kernel
theorem d_Root_trade_28 : decode b_Root_trade 28 = .ok (.invokevirtual 265, 3) := by decide +kernel
theorem d_Root_trade_31 : decode b_Root_trade 31 = .ok (.istore 4, 2) := by decide +kernel
theorem d_Root_trade_33 : decode b_Root_trade 33 = .ok (.iconst 1, 1) := by decide +kernel
theorem d_Root_trade_34 : decode b_Root_trade 34 = .ok (.istore 5, 2) := by decide +kernel
theorem d_Root_trade_36 : decode b_Root_trade 36 = .ok (.iload 5, 2) := by decide +kernel
theorem d_Root_trade_38 : decode b_Root_trade 38 = .ok (.bipush 8, 2) := by decide +kernel
theorem d_Root_trade_40 : decode b_Root_trade 40 = .ok (.if_icmp .ge 38, 3) := by decide +kernel
theorem d_Root_trade_43 : decode b_Root_trade 43 = .ok (.aload_n 0, 1) := by decide +kernel
theorem d_Root_trade_44 : decode b_Root_trade 44 = .ok (.aload_n 0, 1) := by decide +kernel
theorem d_Root_trade_45 : decode b_Root_trade 45 = .ok (.getfield 53, 3) := by decide +kernel
theorem d_Root_trade_48 : decode b_Root_trade 48 = .ok (.iload 5, 2) := by decide +kernel
theorem d_Root_trade_50 : decode b_Root_trade 50 = .ok (.invokevirtual 254, 3) := by decide +kernel
theorem d_Root_trade_53 : decode b_Root_trade 53 = .ok (.invokevirtual 265, 3) := by decide +kernel
theorem d_Root_trade_56 : decode b_Root_trade 56 = .ok (.istore 6, 2) := by decide +kernel
theorem d_Root_trade_58 : decode b_Root_trade 58 = .ok (.iload 6, 2) := by decide +kernel
theorem d_Root_trade_60 : decode b_Root_trade 60 = .ok (.iload 4, 2) := by decide +kernel
theorem d_Root_trade_62 : decode b_Root_trade 62 = .ok (.if_icmp .le 10, 3) := by decide +kernel
theorem d_Root_trade_65 : decode b_Root_trade 65 = .ok (.iload 5, 2) := by decide +kernel
theorem d_Root_trade_67 : decode b_Root_trade 67 = .ok (.istore_n 3, 1) := by decide +kernel
theorem d_Root_trade_68 : decode b_Root_trade 68 = .ok (.iload 6, 2) := by decide +kernel
theorem d_Root_trade_70 : decode b_Root_trade 70 = .ok (.istore 4, 2) := by decide +kernel
theorem d_Root_trade_72 : decode b_Root_trade 72 = .ok (.iinc 5 1, 3) := by decide +kernel
theorem d_Root_trade_75 : decode b_Root_trade 75 = .ok (.goto (-39), 3) := by decide +kernel
theorem d_Root_trade_78 : decode b_Root_trade 78 = .ok (.aload_n 0, 1) := by decide +kernel
theorem d_Root_trade_79 : decode b_Root_trade 79 = .ok (.iload 4, 2) := by decide +kernel
theorem d_Root_trade_81 : decode b_Root_trade 81 = .ok (.iload_n 3, 1) := by decide +kernel
theorem d_Root_trade_82 : decode b_Root_trade 82 = .ok (.invokevirtual 99, 3) := by decide +kernel
theorem d_Root_trade_85 : decode b_Root_trade 85 = .ok (.ireturn, 1) := by decide +kernel
abbrev b_Root_marks : ByteArray := prog_1_method_29_code
abbrev y_Root_marks : MethodName := ⟨"RiverTuesdays", "marks", "(II)I"⟩
theorem ok_Root_marks : okV y_Root_marks b_Root_marks 4 (some .int) 2 8 := ⟨mGW (List.mem_of_getElem? (i := 755) (by decide +kernel)) rfl, mGW (List.mem_of_getElem? (i := 756) (by decide +kernel)) rfl, mGW (List.mem_of_getElem? (i := 74) (by decide +kernel)) rfl, mGW (List.mem_of_getElem? (i := 757) (by decide +kernel)) rfl, ⟨by decide, by decide, by decide +kernel⟩, rfl⟩
theorem d_Root_marks_0 : decode b_Root_marks 0 = .ok (.iload_n 2, 1) := by decide +kernel
theorem d_Root_marks_1 : decode b_Root_marks 1 = .ok (.invokestatic 80, 3) := by decide +kernel
theorem d_Root_marks_4 : decode b_Root_marks 4 = .ok (.ifCond .ne 5, 3) := by decide +kernel
theorem d_Root_marks_7 : decode b_Root_marks 7 = .ok (.iconst (-1), 1) := by decide +kernel
theorem d_Root_marks_8 : decode b_Root_marks 8 = .ok (.ireturn, 1) := by decide +kernel
theorem d_Root_marks_9 : decode b_Root_marks 9 = .ok (.aload_n 0, 1) := by decide +kernel
theorem d_Root_marks_10 : decode b_Root_marks 10 = .ok (.iload_n 1, 1) := by decide +kernel
theorem d_Root_marks_11 : decode b_Root_marks 11 = .ok (.invokevirtual 225, 3) := by decide +kernel
theorem d_Root_marks_14 : decode b_Root_marks 14 = .ok (.istore_n 3, 1) := by decide +kernel
theorem d_Root_marks_15 : decode b_Root_marks 15 = .ok (.iload_n 3, 1) := by decide +kernel
theorem d_Root_marks_16 : decode b_Root_marks 16 = .ok (.ifCond .eq 5, 3) := by decide +kernel
theorem d_Root_marks_19 : decode b_Root_marks 19 = .ok (.iload_n 3, 1) := by decide +kernel
theorem d_Root_marks_20 : decode b_Root_marks 20 = .ok (.ireturn, 1) := by decide +kernel
theorem d_Root_marks_21 : decode b_Root_marks 21 = .ok (.aload_n 0, 1) := by decide +kernel
theorem d_Root_marks_22 : decode b_Root_marks 22 = .ok (.iload_n 1, 1) := by decide +kernel
theorem d_Root_marks_23 : decode b_Root_marks 23 = .ok (.invokevirtual 228, 3) := by decide +kernel
theorem d_Root_marks_26 : decode b_Root_marks 26 = .ok (.aload_n 0, 1) := by decide +kernel
theorem d_Root_marks_27 : decode b_Root_marks 27 = .ok (.getfield 11, 3) := by decide +kernel
theorem d_Root_marks_30 : decode b_Root_marks 30 = .ok (.iload_n 2, 1) := by decide +kernel
theorem d_Root_marks_31 : decode b_Root_marks 31 = .ok (.aaload, 1) := by decide +kernel
theorem d_Root_marks_32 : decode b_Root_marks 32 = .ok (.aload_n 0, 1) := by decide +kernel
theorem d_Root_marks_33 : decode b_Root_marks 33 = .ok (.getfield 53, 3) := by decide +kernel
theorem d_Root_marks_36 : decode b_Root_marks 36 = .ok (.getfield 268, 3) := by decide +kernel
theorem d_Root_marks_39 : decode b_Root_marks 39 = .ok (.bipush 8, 2) := by decide +kernel
theorem d_Root_marks_41 : decode b_Root_marks 41 = .ok (.aaload, 1) := by decide +kernel
theorem d_Root_marks_42 : decode b_Root_marks 42 = .ok (.aload_n 0, 1) := by decide +kernel
theorem d_Root_marks_43 : decode b_Root_marks 43 = .ok (.getfield 24, 3) := by decide +kernel
theorem d_Root_marks_46 : decode b_Root_marks 46 = .ok (.getfield 146, 3) := by decide +kernel
theorem d_Root_marks_49 : decode b_Root_marks 49 = .ok (.getfield 149, 3) := by decide +kernel
theorem d_Root_marks_52 : decode b_Root_marks 52 = .ok (.invokevirtual 272, 3) := by decide +kernel
theorem d_Root_marks_55 : decode b_Root_marks 55 = .ok (.aload_n 0, 1) := by decide +kernel
theorem d_Root_marks_56 : decode b_Root_marks 56 = .ok (.getfield 11, 3) := by decide +kernel
theorem d_Root_marks_59 : decode b_Root_marks 59 = .ok (.iload_n 2, 1) := by decide +kernel
theorem d_Root_marks_60 : decode b_Root_marks 60 = .ok (.aaload, 1) := by decide +kernel
theorem d_Root_marks_61 : decode b_Root_marks 61 = .ok (.invokevirtual 275, 3) := by decide +kernel
theorem d_Root_marks_64 : decode b_Root_marks 64 = .ok (.ireturn, 1) := by decide +kernel
abbrev b_Root_stands : ByteArray := prog_1_method_30_code
abbrev y_Root_stands : MethodName := ⟨"RiverTuesdays", "stands", "(I)I"⟩
theorem ok_Root_stands : okV y_Root_stands b_Root_stands 3 (some .int) 1 8 := ⟨mGW (List.mem_of_getElem? (i := 769) (by decide +kernel)) rfl, mGW (List.mem_of_getElem? (i := 770) (by decide +kernel)) rfl, mGW (List.mem_of_getElem? (i := 74) (by decide +kernel)) rfl, mGW (List.mem_of_getElem? (i := 771) (by decide +kernel)) rfl, ⟨by decide, by decide, by decide +kernel⟩, rfl⟩
theorem d_Root_stands_0 : decode b_Root_stands 0 = .ok (.aload_n 0, 1) := by decide +kernel
theorem d_Root_stands_1 : decode b_Root_stands 1 = .ok (.iload_n 1, 1) := by decide +kernel
theorem d_Root_stands_2 : decode b_Root_stands 2 = .ok (.invokevirtual 225, 3) := by decide +kernel
theorem d_Root_stands_5 : decode b_Root_stands 5 = .ok (.istore_n 2, 1) := by decide +kernel
theorem d_Root_stands_6 : decode b_Root_stands 6 = .ok (.iload_n 2, 1) := by decide +kernel
theorem d_Root_stands_7 : decode b_Root_stands 7 = .ok (.ifCond .eq 5, 3) := by decide +kernel
theorem d_Root_stands_10 : decode b_Root_stands 10 = .ok (.iload_n 2, 1) := by decide +kernel
theorem d_Root_stands_11 : decode b_Root_stands 11 = .ok (.ireturn, 1) := by decide +kernel
theorem d_Root_stands_12 : decode b_Root_stands 12 = .ok (.aload_n 0, 1) := by decide +kernel
theorem d_Root_stands_13 : decode b_Root_stands 13 = .ok (.iload_n 1, 1) := by decide +kernel
theorem d_Root_stands_14 : decode b_Root_stands 14 = .ok (.invokevirtual 228, 3) := by decide +kernel
theorem d_Root_stands_17 : decode b_Root_stands 17 = .ok (.aload_n 0, 1) := by decide +kernel
theorem d_Root_stands_18 : decode b_Root_stands 18 = .ok (.aload_n 0, 1) := by decide +kernel
theorem d_Root_stands_19 : decode b_Root_stands 19 = .ok (.getfield 53, 3) := by decide +kernel
theorem d_Root_stands_22 : decode b_Root_stands 22 = .ok (.invokevirtual 278, 3) := by decide +kernel
theorem d_Root_stands_25 : decode b_Root_stands 25 = .ok (.aload_n 0, 1) := by decide +kernel
theorem d_Root_stands_26 : decode b_Root_stands 26 = .ok (.getfield 53, 3) := by decide +kernel
theorem d_Root_stands_29 : decode b_Root_stands 29 = .ok (.getfield 281, 3) := by decide +kernel
theorem d_Root_stands_32 : decode b_Root_stands 32 = .ok (.bipush 8, 2) := by decide +kernel
theorem d_Root_stands_34 : decode b_Root_stands 34 = .ok (.aaload, 1) := by decide +kernel
theorem d_Root_stands_35 : decode b_Root_stands 35 = .ok (.invokevirtual 208, 3) := by decide +kernel
theorem d_Root_stands_38 : decode b_Root_stands 38 = .ok (.invokevirtual 99, 3) := by decide +kernel
theorem d_Root_stands_41 : decode b_Root_stands 41 = .ok (.ireturn, 1) := by decide +kernel
abbrev b_Root_tuesday : ByteArray := prog_1_method_31_code
abbrev y_Root_tuesday : MethodName := ⟨"RiverTuesdays", "tuesday", "(I)I"⟩
theorem ok_Root_tuesday : okV y_Root_tuesday b_Root_tuesday 5 (some .int) 1 8 := ⟨mGW (List.mem_of_getElem? (i := 777) (by decide +kernel)) rfl, mGW (List.mem_of_getElem? (i := 778) (by decide +kernel)) rfl, mGW (List.mem_of_getElem? (i := 74) (by decide +kernel)) rfl, mGW (List.mem_of_getElem? (i := 779) (by decide +kernel)) rfl, ⟨by decide, by decide, by decide +kernel⟩, rfl⟩
theorem d_Root_tuesday_0 : decode b_Root_tuesday 0 = .ok (.aload_n 0, 1) := by decide +kernel
theorem d_Root_tuesday_1 : decode b_Root_tuesday 1 = .ok (.iload_n 1, 1) := by decide +kernel
theorem d_Root_tuesday_2 : decode b_Root_tuesday 2 = .ok (.invokevirtual 225, 3) := by decide +kernel
theorem d_Root_tuesday_5 : decode b_Root_tuesday 5 = .ok (.istore_n 2, 1) := by decide +kernel
theorem d_Root_tuesday_6 : decode b_Root_tuesday 6 = .ok (.iload_n 2, 1) := by decide +kernel
theorem d_Root_tuesday_7 : decode b_Root_tuesday 7 = .ok (.ifCond .eq 5, 3) := by decide +kernel
theorem d_Root_tuesday_10 : decode b_Root_tuesday 10 = .ok (.iload_n 2, 1) := by decide +kernel
theorem d_Root_tuesday_11 : decode b_Root_tuesday 11 = .ok (.ireturn, 1) := by decide +kernel
theorem d_Root_tuesday_12 : decode b_Root_tuesday 12 = .ok (.aload_n 0, 1) := by decide +kernel
theorem d_Root_tuesday_13 : decode b_Root_tuesday 13 = .ok (.getfield 24, 3) := by decide +kernel
theorem d_Root_tuesday_16 : decode b_Root_tuesday 16 = .ok (.bipush 8, 2) := by decide +kernel
theorem d_Root_tuesday_18 : decode b_Root_tuesday 18 = .ok (.invokevirtual 199, 3) := by decide +kernel
theorem d_Root_tuesday_21 : decode b_Root_tuesday 21 = .ok (.ifCond .ne 6, 3) := by decide +kernel
theorem d_Root_tuesday_24 : decode b_Root_tuesday 24 = .ok (.bipush (-2), 2) := by decide +kernel
theorem d_Root_tuesday_26 : decode b_Root_tuesday 26 = .ok (.ireturn, 1) := by decide +kernel
theorem d_Root_tuesday_27 : decode b_Root_tuesday 27 = .ok (.iconst 0, 1) := by decide +kernel
theorem d_Root_tuesday_28 : decode b_Root_tuesday 28 = .ok (.istore_n 3, 1) := by decide +kernel
theorem d_Root_tuesday_29 : decode b_Root_tuesday 29 = .ok (.iconst 0, 1) := by decide +kernel
theorem d_Root_tuesday_30 : decode b_Root_tuesday 30 = .ok (.istore 4, 2) := by decide +kernel
theorem d_Root_tuesday_32 : decode b_Root_tuesday 32 = .ok (.iload 4, 2) := by decide +kernel
theorem d_Root_tuesday_34 : decode b_Root_tuesday 34 = .ok (.bipush 8, 2) := by decide +kernel
theorem d_Root_tuesday_36 : decode b_Root_tuesday 36 = .ok (.if_icmp .ge 42, 3) := by decide +kernel
theorem d_Root_tuesday_39 : decode b_Root_tuesday 39 = .ok (.aload_n 0, 1) := by decide +kernel
theorem d_Root_tuesday_40 : decode b_Root_tuesday 40 = .ok (.getfield 24, 3) := by decide +kernel
theorem d_Root_tuesday_43 : decode b_Root_tuesday 43 = .ok (.iload_n 1, 1) := by decide +kernel
theorem d_Root_tuesday_44 : decode b_Root_tuesday 44 = .ok (.iload 4, 2) := by decide +kernel
theorem d_Root_tuesday_46 : decode b_Root_tuesday 46 = .ok (.ishr, 1) := by decide +kernel
theorem d_Root_tuesday_47 : decode b_Root_tuesday 47 = .ok (.iconst 1, 1) := by decide +kernel
theorem d_Root_tuesday_48 : decode b_Root_tuesday 48 = .ok (.iand, 1) := by decide +kernel
theorem d_Root_tuesday_49 : decode b_Root_tuesday 49 = .ok (.invokevirtual 205, 3) := by decide +kernel
theorem d_Root_tuesday_52 : decode b_Root_tuesday 52 = .ok (.iload_n 3, 1) := by decide +kernel
theorem d_Root_tuesday_53 : decode b_Root_tuesday 53 = .ok (.aload_n 0, 1) := by decide +kernel
theorem d_Root_tuesday_54 : decode b_Root_tuesday 54 = .ok (.getfield 24, 3) := by decide +kernel
theorem d_Root_tuesday_57 : decode b_Root_tuesday 57 = .ok (.getfield 168, 3) := by decide +kernel
theorem d_Root_tuesday_60 : decode b_Root_tuesday 60 = .ok (.aload_n 0, 1) := by decide +kernel
theorem d_Root_tuesday_61 : decode b_Root_tuesday 61 = .ok (.getfield 24, 3) := by decide +kernel
theorem d_Root_tuesday_64 : decode b_Root_tuesday 64 = .ok (.getfield 146, 3) := by decide +kernel
theorem d_Root_tuesday_67 : decode b_Root_tuesday 67 = .ok (.invokevirtual 285, 3) := by decide +kernel
theorem d_Root_tuesday_70 : decode b_Root_tuesday 70 = .ok (.iadd, 1) := by decide +kernel
theorem d_Root_tuesday_71 : decode b_Root_tuesday 71 = .ok (.istore_n 3, 1) := by decide +kernel
theorem d_Root_tuesday_72 : decode b_Root_tuesday 72 = .ok (.iinc 4 1, 3) := by decide +kernel
theorem d_Root_tuesday_75 : decode b_Root_tuesday 75 = .ok (.goto (-43), 3) := by decide +kernel
theorem d_Root_tuesday_78 : decode b_Root_tuesday 78 = .ok (.iload_n 3, 1) := by decide +kernel
theorem d_Root_tuesday_79 : decode b_Root_tuesday 79 = .ok (.ireturn, 1) := by decide +kernel
def f_Root_find (v1 : Int32) (D : Dt) : Option (Int32 × Dt) :=
  nm (wr D 0 12 v1) (fun D1 => (if inb v1 6 = true then (if inb v1 6 = true then nm (wr D1 110 v1.toNatClampNeg ((D1 110 v1.toNatClampNeg) + 1)) (fun D2 => some ((-3), D2)) else none) else none))
set_option maxHeartbeats 4000000 in
theorem te_Root_find {Γ : GmT} {G : Dt → Nat → List (Nat × Value) → List Value → Prop} {rr : Int32} {DD : Dt} (C : Cx Γ "RiverTuesdays" b_Root_find 2 1 (some .int) (some (.int rr)) DD G) {v1 : Int32} {D : Dt} (hf : f_Root_find v1 D = some (rr, DD)) : G D 0 [(0, .ref (Γ.2.1 0)), (1, .int v1)] [] := by
  unfold f_Root_find at hf
  refine r_aload_n (pc := 0) C 0 d_Root_find_0 rfl rfl ?_
  refine r_iload_n (pc := 1) C 1 d_Root_find_1 rfl rfl ?_
  refine p_Root_latestFound (pc := 2) C k_id0 Lf_Root_409 d_Root_find_2 ?_
  refine r_nmD hf (fun D1 hf => ?_)
  refine r_aload_n (pc := 5) C 0 d_Root_find_5 rfl rfl ?_
  refine g_Root_timesFound (pc := 6) C k_id0 Lf_Root_75 d_Root_find_6 ?_
  refine r_iload_n (pc := 9) C 1 d_Root_find_9 rfl rfl ?_
  refine r_dup2 (pc := 10) C d_Root_find_10 rfl rfl ?_
  refine r_iald (pc := 11) C kq_Root_timesFound d_Root_find_11 hf (fun hf => ?_)
  refine r_iconst (pc := 12) C (v := 1) d_Root_find_12 (by decide) ?_
  refine r_iadd (pc := 13) C d_Root_find_13 ?_
  refine r_iast (pc := 14) C kq_Root_timesFound d_Root_find_14 hf (fun hf => ?_)
  refine r_nmD hf (fun D2 hf => ?_)
  refine r_bipush (pc := 15) C (v := (-3)) d_Root_find_15 (by decide) ?_
  exact r_iret (pc := 17) C d_Root_find_17 hf
theorem c_Root_find (Γ : GmT) {v1 : Int32} {D : Dt} {rr : Int32} {DD : Dt} (hf : f_Root_find v1 D = some (rr, DD)) : Mt Γ y_Root_find b_Root_find 2 (some .int) 1 [.ref (Γ.2.1 0), .int v1] D (some (.int rr)) DD := Mt_of (by decide) (Nat.le_of_ble_eq_true rfl) (fun G C => te_Root_find C hf)
def f_Root_isRow (v0 : Int32) (D : Dt) : Option (Int32 × Dt) :=
  bnd (f_Root_isWithin v0 0 5 D) (fun x1 D2 => (if x1 = 0 ∨ x1 = 1 then some (x1, D2) else none))
set_option maxHeartbeats 4000000 in
theorem te_Root_isRow {Γ : GmT} {G : Dt → Nat → List (Nat × Value) → List Value → Prop} {rr : Int32} {DD : Dt} (C : Cx Γ "RiverTuesdays" b_Root_isRow 1 2 (some .boolean) (some (.int rr)) DD G) {v0 : Int32} {D : Dt} (hf : f_Root_isRow v0 D = some (rr, DD)) : G D 0 [(0, .int v0)] [] := by
  unfold f_Root_isRow at hf
  refine r_iload_n (pc := 0) C 0 d_Root_isRow_0 rfl rfl ?_
  refine r_iconst (pc := 1) C (v := 0) d_Root_isRow_1 (by decide) ?_
  refine r_iconst (pc := 2) C (v := 5) d_Root_isRow_2 (by decide) ?_
  refine r_callSi (pc := 3) (As := [.int v0, .int 0, .int 5]) (rest := []) C ok_Root_isWithin Lm_Root_155 ⟨by decide, by decide⟩ rfl rfl (Nat.le_of_ble_eq_true rfl) d_Root_isRow_3 hf (fun x D1 hc => c_Root_isWithin Γ hc) (fun x1 D2 hf => ?_)
  exact r_zretc (pc := 6) C d_Root_isRow_6 hf
theorem c_Root_isRow (Γ : GmT) {v0 : Int32} {D : Dt} {rr : Int32} {DD : Dt} (hf : f_Root_isRow v0 D = some (rr, DD)) : Mt Γ y_Root_isRow b_Root_isRow 1 (some .boolean) 2 [.int v0] D (some (.int rr)) DD := Mt_of (by decide) (Nat.le_of_ble_eq_true rfl) (fun G C => te_Root_isRow C hf)
def f_Root_row (v1 : Int32) (v2 : Int32) (D : Dt) : Option (Int32 × Dt) :=
  bnd (f_Root_isRow v1 D) (fun x1 D2 => (if x1 = 0 then some ((-1), D2) else (if v2 ≤ 60 then (if 0 ≤ v2 then (if inb v1 6 = true then bnd (f_Row_begin (111 + 2 * v1.toNatClampNeg) v2 D2) (fun x3 D4 => some (v2, D4)) else none) else bnd (f_Root_find 5 D2) (fun x5 D6 => some (x5, D6))) else some ((-1), D2))))
set_option maxHeartbeats 4000000 in
theorem te_Root_row {Γ : GmT} {G : Dt → Nat → List (Nat × Value) → List Value → Prop} {rr : Int32} {DD : Dt} (C : Cx Γ "RiverTuesdays" b_Root_row 3 3 (some .int) (some (.int rr)) DD G) {v1 : Int32} {v2 : Int32} {D : Dt} (hf : f_Root_row v1 v2 D = some (rr, DD)) : G D 0 [(0, .ref (Γ.2.1 0)), (1, .int v1), (2, .int v2)] [] := by
  unfold f_Root_row at hf
  refine r_iload_n (pc := 0) C 1 d_Root_row_0 rfl rfl ?_
  refine r_callSi (pc := 1) (As := [.int v1]) (rest := []) C ok_Root_isRow Lm_Root_80 ⟨by decide, by decide⟩ rfl rfl (Nat.le_of_ble_eq_true rfl) d_Root_row_1 hf (fun x D1 hc => c_Root_isRow Γ hc) (fun x1 D2 hf => ?_)
  refine r_if_eq (pc := 4) C (tgt := 13) d_Root_row_4 (by decide) hf (fun c4 hf => ?_) (fun c4 hf => ?_)
  · refine r_iconst (pc := 13) C (v := (-1)) d_Root_row_13 (by decide) ?_
    exact r_iret (pc := 14) C d_Root_row_14 hf
  · refine r_iload_n (pc := 7) C 2 d_Root_row_7 rfl rfl ?_
    refine r_bipush (pc := 8) C (v := 60) d_Root_row_8 (by decide) ?_
    refine r_icmp_le (pc := 10) C (tgt := 15) d_Root_row_10 (by decide) hf (fun c10 hf => ?_) (fun c10 hf => ?_)
    · refine r_iload_n (pc := 15) C 2 d_Root_row_15 rfl rfl ?_
      refine r_if_ge (pc := 16) C (tgt := 25) d_Root_row_16 (by decide) hf (fun c16 hf => ?_) (fun c16 hf => ?_)
      · refine r_aload_n (pc := 25) C 0 d_Root_row_25 rfl rfl ?_
        refine g_Root_rows (pc := 26) C k_id0 Lf_Root_11 d_Root_row_26 ?_
        refine r_iload_n (pc := 29) C 1 d_Root_row_29 rfl rfl ?_
        refine r_aald13 (pc := 30) C kq_Root_rows d_Root_row_30 hf (fun hn30 hf => ?_)
        refine r_iload_n (pc := 31) C 2 d_Root_row_31 rfl rfl ?_
        refine r_callVv (pc := 32) (As := [.int v2]) (rest := []) C ok_Row_begin Lm_Root_88 (ke13 _ (inb_lt hn30)) (by decide) ⟨by decide, by decide⟩ rfl rfl (Nat.le_of_ble_eq_true rfl) d_Root_row_32 hf (fun x D1 hc => c_Row_begin Γ (ke13 _ (inb_lt hn30)) hc) (fun x3 D4 hf => ?_)
        refine r_iload_n (pc := 35) C 2 d_Root_row_35 rfl rfl ?_
        exact r_iret (pc := 36) C d_Root_row_36 hf
      · refine r_aload_n (pc := 19) C 0 d_Root_row_19 rfl rfl ?_
        refine r_iconst (pc := 20) C (v := 5) d_Root_row_20 (by decide) ?_
        refine r_callVi (pc := 21) (As := [.int 5]) (rest := []) C ok_Root_find Lm_Root_84 k_id0 (by decide) ⟨by decide, by decide⟩ rfl rfl (Nat.le_of_ble_eq_true rfl) d_Root_row_21 hf (fun x D1 hc => c_Root_find Γ hc) (fun x5 D6 hf => ?_)
        exact r_iret (pc := 24) C d_Root_row_24 hf
    · refine r_iconst (pc := 13) C (v := (-1)) d_Root_row_13 (by decide) ?_
      exact r_iret (pc := 14) C d_Root_row_14 hf
theorem c_Root_row (Γ : GmT) {v1 : Int32} {v2 : Int32} {D : Dt} {rr : Int32} {DD : Dt} (hf : f_Root_row v1 v2 D = some (rr, DD)) : Mt Γ y_Root_row b_Root_row 3 (some .int) 3 [.ref (Γ.2.1 0), .int v1, .int v2] D (some (.int rr)) DD := Mt_of (by decide) (Nat.le_of_ble_eq_true rfl) (fun G C => te_Root_row C hf)
def f_Root_refusedRow (v1 : Int32) (D : Dt) : Option (Int32 × Dt) :=
  bnd (f_Root_isRow v1 D) (fun x1 D2 => (if x1 = 0 then some ((-1), D2) else (if inb v1 6 = true then bnd (f_Row_isThere (111 + 2 * v1.toNatClampNeg) D2) (fun x3 D4 => (if x3 = 0 then bnd (f_Root_find 1 D4) (fun x5 D6 => some (x5, D6)) else some (0, D4))) else none)))
set_option maxHeartbeats 4000000 in
theorem te_Root_refusedRow {Γ : GmT} {G : Dt → Nat → List (Nat × Value) → List Value → Prop} {rr : Int32} {DD : Dt} (C : Cx Γ "RiverTuesdays" b_Root_refusedRow 2 3 (some .int) (some (.int rr)) DD G) {v1 : Int32} {D : Dt} (hf : f_Root_refusedRow v1 D = some (rr, DD)) : G D 0 [(0, .ref (Γ.2.1 0)), (1, .int v1)] [] := by
  unfold f_Root_refusedRow at hf
  refine r_iload_n (pc := 0) C 1 d_Root_refusedRow_0 rfl rfl ?_
  refine r_callSi (pc := 1) (As := [.int v1]) (rest := []) C ok_Root_isRow Lm_Root_80 ⟨by decide, by decide⟩ rfl rfl (Nat.le_of_ble_eq_true rfl) d_Root_refusedRow_1 hf (fun x D1 hc => c_Root_isRow Γ hc) (fun x1 D2 hf => ?_)
  refine r_if_ne (pc := 4) C (tgt := 9) d_Root_refusedRow_4 (by decide) hf (fun c4 hf => ?_) (fun c4 hf => ?_)
  · refine r_aload_n (pc := 9) C 0 d_Root_refusedRow_9 rfl rfl ?_
    refine g_Root_rows (pc := 10) C k_id0 Lf_Root_11 d_Root_refusedRow_10 ?_
    refine r_iload_n (pc := 13) C 1 d_Root_refusedRow_13 rfl rfl ?_
    refine r_aald13 (pc := 14) C kq_Root_rows d_Root_refusedRow_14 hf (fun hn14 hf => ?_)
    refine r_callVi (pc := 15) (As := []) (rest := []) C ok_Row_isThere Lm_Root_109 (ke13 _ (inb_lt hn14)) (by decide) ⟨by decide, by decide⟩ rfl rfl (Nat.le_of_ble_eq_true rfl) d_Root_refusedRow_15 hf (fun x D1 hc => c_Row_isThere Γ (ke13 _ (inb_lt hn14)) hc) (fun x3 D4 hf => ?_)
    refine r_if_eq (pc := 18) C (tgt := 25) d_Root_refusedRow_18 (by decide) hf (fun c18 hf => ?_) (fun c18 hf => ?_)
    · refine r_aload_n (pc := 25) C 0 d_Root_refusedRow_25 rfl rfl ?_
      refine r_iconst (pc := 26) C (v := 1) d_Root_refusedRow_26 (by decide) ?_
      refine r_callVi (pc := 27) (As := [.int 1]) (rest := []) C ok_Root_find Lm_Root_84 k_id0 (by decide) ⟨by decide, by decide⟩ rfl rfl (Nat.le_of_ble_eq_true rfl) d_Root_refusedRow_27 hf (fun x D1 hc => c_Root_find Γ hc) (fun x5 D6 hf => ?_)
      exact r_iret (pc := 30) C d_Root_refusedRow_30 hf
    · refine r_iconst (pc := 21) C (v := 0) d_Root_refusedRow_21 (by decide) ?_
      refine r_goto (pc := 22) C (tgt := 30) d_Root_refusedRow_22 (by decide) ?_
      exact r_iret (pc := 30) C d_Root_refusedRow_30 hf
  · refine r_iconst (pc := 7) C (v := (-1)) d_Root_refusedRow_7 (by decide) ?_
    exact r_iret (pc := 8) C d_Root_refusedRow_8 hf
theorem c_Root_refusedRow (Γ : GmT) {v1 : Int32} {D : Dt} {rr : Int32} {DD : Dt} (hf : f_Root_refusedRow v1 D = some (rr, DD)) : Mt Γ y_Root_refusedRow b_Root_refusedRow 2 (some .int) 3 [.ref (Γ.2.1 0), .int v1] D (some (.int rr)) DD := Mt_of (by decide) (Nat.le_of_ble_eq_true rfl) (fun G C => te_Root_refusedRow C hf)
def b_Root_refusedPlace_33 (D : Dt) : Option (Int32 × Dt) :=
  bnd (f_Root_find 2 D) (fun x3 D4 => some (x3, D4))
set_option maxHeartbeats 4000000 in
theorem tb_Root_refusedPlace_33 {Γ : GmT} {G : Dt → Nat → List (Nat × Value) → List Value → Prop} {rr : Int32} {DD : Dt} (C : Cx Γ "RiverTuesdays" b_Root_refusedPlace 4 4 (some .int) (some (.int rr)) DD G) {D : Dt} (hf : b_Root_refusedPlace_33 D = some (rr, DD)) : G D 33 [(0, .ref (Γ.2.1 0))] [] := by
  unfold b_Root_refusedPlace_33 at hf
  refine r_aload_n (pc := 33) C 0 d_Root_refusedPlace_33 rfl rfl ?_
  refine r_iconst (pc := 34) C (v := 2) d_Root_refusedPlace_34 (by decide) ?_
  refine r_callVi (pc := 35) (As := [.int 2]) (rest := []) C ok_Root_find Lm_Root_84 k_id0 (by decide) ⟨by decide, by decide⟩ rfl rfl (Nat.le_of_ble_eq_true rfl) d_Root_refusedPlace_35 hf (fun x D1 hc => c_Root_find Γ hc) (fun x3 D4 hf => ?_)
  exact r_iret (pc := 38) C d_Root_refusedPlace_38 hf
def f_Root_refusedPlace (v1 : Int32) (v2 : Int32) (D : Dt) : Option (Int32 × Dt) :=
  bnd (f_Root_refusedRow v1 D) (fun x1 D2 => (if x1 = 0 then (if v2 < 0 then b_Root_refusedPlace_33 D2 else (if inb v1 6 = true then (if (D2 (111 + 2 * v1.toNatClampNeg) 1) ≤ v2 then b_Root_refusedPlace_33 D2 else some (0, D2)) else none)) else some (x1, D2)))
set_option maxHeartbeats 4000000 in
theorem te_Root_refusedPlace {Γ : GmT} {G : Dt → Nat → List (Nat × Value) → List Value → Prop} {rr : Int32} {DD : Dt} (C : Cx Γ "RiverTuesdays" b_Root_refusedPlace 4 4 (some .int) (some (.int rr)) DD G) {v1 : Int32} {v2 : Int32} {D : Dt} (hf : f_Root_refusedPlace v1 v2 D = some (rr, DD)) : G D 0 [(0, .ref (Γ.2.1 0)), (1, .int v1), (2, .int v2)] [] := by
  unfold f_Root_refusedPlace at hf
  refine r_aload_n (pc := 0) C 0 d_Root_refusedPlace_0 rfl rfl ?_
  refine r_iload_n (pc := 1) C 1 d_Root_refusedPlace_1 rfl rfl ?_
  refine r_callVi (pc := 2) (As := [.int v1]) (rest := []) C ok_Root_refusedRow Lm_Root_102 k_id0 (by decide) ⟨by decide, by decide⟩ rfl rfl (Nat.le_of_ble_eq_true rfl) d_Root_refusedPlace_2 hf (fun x D1 hc => c_Root_refusedRow Γ hc) (fun x1 D2 hf => ?_)
  refine r_istore_n (pc := 5) (lv' := [(3, .int x1), (0, .ref (Γ.2.1 0)), (1, .int v1), (2, .int v2)]) C d_Root_refusedPlace_5 rfl (Nat.le_of_ble_eq_true rfl) rfl ?_
  refine r_iload_n (pc := 6) C 0 d_Root_refusedPlace_6 rfl rfl ?_
  refine r_if_eq (pc := 7) C (tgt := 12) d_Root_refusedPlace_7 (by decide) hf (fun c7 hf => ?_) (fun c7 hf => ?_)
  · refine r_iload_n (pc := 12) C 3 d_Root_refusedPlace_12 rfl rfl ?_
    refine r_if_lt (pc := 13) C (tgt := 33) d_Root_refusedPlace_13 (by decide) hf (fun c13 hf => ?_) (fun c13 hf => ?_)
    · exact r_lv (pc := 33) C [1] rfl (tb_Root_refusedPlace_33 C hf)
    · refine r_iload_n (pc := 16) C 3 d_Root_refusedPlace_16 rfl rfl ?_
      refine r_aload_n (pc := 17) C 1 d_Root_refusedPlace_17 rfl rfl ?_
      refine g_Root_rows (pc := 18) C k_id0 Lf_Root_11 d_Root_refusedPlace_18 ?_
      refine r_iload_n (pc := 21) C 2 d_Root_refusedPlace_21 rfl rfl ?_
      refine r_aald13 (pc := 22) C kq_Root_rows d_Root_refusedPlace_22 hf (fun hn22 hf => ?_)
      refine g_Row_size (pc := 23) C (ke13 _ (inb_lt hn22)) Lf_Root_105 d_Root_refusedPlace_23 ?_
      refine r_icmp_ge (pc := 26) C (tgt := 33) d_Root_refusedPlace_26 (by decide) hf (fun c26 hf => ?_) (fun c26 hf => ?_)
      · exact r_lv (pc := 33) C [1] rfl (tb_Root_refusedPlace_33 C hf)
      · refine r_iconst (pc := 29) C (v := 0) d_Root_refusedPlace_29 (by decide) ?_
        refine r_goto (pc := 30) C (tgt := 38) d_Root_refusedPlace_30 (by decide) ?_
        exact r_iret (pc := 38) C d_Root_refusedPlace_38 hf
  · refine r_iload_n (pc := 10) C 0 d_Root_refusedPlace_10 rfl rfl ?_
    exact r_iret (pc := 11) C d_Root_refusedPlace_11 hf
theorem c_Root_refusedPlace (Γ : GmT) {v1 : Int32} {v2 : Int32} {D : Dt} {rr : Int32} {DD : Dt} (hf : f_Root_refusedPlace v1 v2 D = some (rr, DD)) : Mt Γ y_Root_refusedPlace b_Root_refusedPlace 4 (some .int) 4 [.ref (Γ.2.1 0), .int v1, .int v2] D (some (.int rr)) DD := Mt_of (by decide) (Nat.le_of_ble_eq_true rfl) (fun G C => te_Root_refusedPlace C hf)
def f_Root_tell (v1 : Int32) (v2 : Int32) (D : Dt) : Option (Int32 × Dt) :=
  nm (wr D 0 13 v1) (fun D1 => some (v2, D1))
set_option maxHeartbeats 4000000 in
theorem te_Root_tell {Γ : GmT} {G : Dt → Nat → List (Nat × Value) → List Value → Prop} {rr : Int32} {DD : Dt} (C : Cx Γ "RiverTuesdays" b_Root_tell 3 1 (some .int) (some (.int rr)) DD G) {v1 : Int32} {v2 : Int32} {D : Dt} (hf : f_Root_tell v1 v2 D = some (rr, DD)) : G D 0 [(0, .ref (Γ.2.1 0)), (1, .int v1), (2, .int v2)] [] := by
  unfold f_Root_tell at hf
  refine r_aload_n (pc := 0) C 0 d_Root_tell_0 rfl rfl ?_
  refine r_iload_n (pc := 1) C 1 d_Root_tell_1 rfl rfl ?_
  refine p_Root_told (pc := 2) C k_id0 Lf_Root_385 d_Root_tell_2 ?_
  refine r_nmD hf (fun D1 hf => ?_)
  refine r_iload_n (pc := 5) C 2 d_Root_tell_5 rfl rfl ?_
  exact r_iret (pc := 6) C d_Root_tell_6 hf
theorem c_Root_tell (Γ : GmT) {v1 : Int32} {v2 : Int32} {D : Dt} {rr : Int32} {DD : Dt} (hf : f_Root_tell v1 v2 D = some (rr, DD)) : Mt Γ y_Root_tell b_Root_tell 3 (some .int) 1 [.ref (Γ.2.1 0), .int v1, .int v2] D (some (.int rr)) DD := Mt_of (by decide) (Nat.le_of_ble_eq_true rfl) (fun G C => te_Root_tell C hf)
def f_Root_lay (v1 : Int32) (v2 : Int32) (v3 : Int32) (D : Dt) : Option (Int32 × Dt) :=
  bnd (f_Root_refusedPlace v1 v2 D) (fun x1 D2 => (if x1 = 0 then (if inb v1 6 = true then (if inb v2 60 = true then nm (D2 ((111 + 2 * v1.toNatClampNeg) + 1) v2.toNatClampNeg) (fun x3 => (if inb v1 6 = true then (if inb v2 60 = true then nm (wr D2 ((111 + 2 * v1.toNatClampNeg) + 1) v2.toNatClampNeg v3) (fun D4 => bnd (f_Root_tell x3 1 D4) (fun x5 D6 => some (x5, D6))) else none) else none)) else none) else none) else some (x1, D2)))
set_option maxHeartbeats 4000000 in
theorem te_Root_lay {Γ : GmT} {G : Dt → Nat → List (Nat × Value) → List Value → Prop} {rr : Int32} {DD : Dt} (C : Cx Γ "RiverTuesdays" b_Root_lay 6 5 (some .int) (some (.int rr)) DD G) {v1 : Int32} {v2 : Int32} {v3 : Int32} {D : Dt} (hf : f_Root_lay v1 v2 v3 D = some (rr, DD)) : G D 0 [(0, .ref (Γ.2.1 0)), (1, .int v1), (2, .int v2), (3, .int v3)] [] := by
  unfold f_Root_lay at hf
  refine r_aload_n (pc := 0) C 0 d_Root_lay_0 rfl rfl ?_
  refine r_iload_n (pc := 1) C 1 d_Root_lay_1 rfl rfl ?_
  refine r_iload_n (pc := 2) C 2 d_Root_lay_2 rfl rfl ?_
  refine r_callVi (pc := 3) (As := [.int v1, .int v2]) (rest := []) C ok_Root_refusedPlace Lm_Root_92 k_id0 (by decide) ⟨by decide, by decide⟩ rfl rfl (Nat.le_of_ble_eq_true rfl) d_Root_lay_3 hf (fun x D1 hc => c_Root_refusedPlace Γ hc) (fun x1 D2 hf => ?_)
  refine r_istore (pc := 6) (lv' := [(4, .int x1), (0, .ref (Γ.2.1 0)), (1, .int v1), (2, .int v2), (3, .int v3)]) C d_Root_lay_6 (Nat.le_of_ble_eq_true rfl) rfl ?_
  refine r_iload (pc := 8) C 0 d_Root_lay_8 rfl ?_
  refine r_if_eq (pc := 10) C (tgt := 16) d_Root_lay_10 (by decide) hf (fun c10 hf => ?_) (fun c10 hf => ?_)
  · refine r_aload_n (pc := 16) C 1 d_Root_lay_16 rfl rfl ?_
    refine g_Root_rows (pc := 17) C k_id0 Lf_Root_11 d_Root_lay_17 ?_
    refine r_iload_n (pc := 20) C 2 d_Root_lay_20 rfl rfl ?_
    refine r_aald13 (pc := 21) C kq_Root_rows d_Root_lay_21 hf (fun hn21 hf => ?_)
    refine g_Row_places (pc := 22) C (ke13 _ (inb_lt hn21)) Lf_Root_96 d_Root_lay_22 ?_
    refine r_iload_n (pc := 25) C 3 d_Root_lay_25 rfl rfl ?_
    refine r_iald (pc := 26) C (kq_Row_places (ke13 _ (inb_lt hn21))) d_Root_lay_26 hf (fun hf => ?_)
    refine r_nmi (pc := 27) hf (fun x3 hf => ?_)
    refine r_istore (pc := 27) (lv' := [(5, .int x3), (4, .int x1), (0, .ref (Γ.2.1 0)), (1, .int v1), (2, .int v2), (3, .int v3)]) C d_Root_lay_27 (Nat.le_of_ble_eq_true rfl) rfl ?_
    refine r_aload_n (pc := 29) C 2 d_Root_lay_29 rfl rfl ?_
    refine g_Root_rows (pc := 30) C k_id0 Lf_Root_11 d_Root_lay_30 ?_
    refine r_iload_n (pc := 33) C 3 d_Root_lay_33 rfl rfl ?_
    refine r_aald13 (pc := 34) C kq_Root_rows d_Root_lay_34 hf (fun hn34 hf => ?_)
    refine g_Row_places (pc := 35) C (ke13 _ (inb_lt hn34)) Lf_Root_96 d_Root_lay_35 ?_
    refine r_iload_n (pc := 38) C 4 d_Root_lay_38 rfl rfl ?_
    refine r_iload_n (pc := 39) C 5 d_Root_lay_39 rfl rfl ?_
    refine r_iast (pc := 40) C (kq_Row_places (ke13 _ (inb_lt hn34))) d_Root_lay_40 hf (fun hf => ?_)
    refine r_nmD hf (fun D4 hf => ?_)
    refine r_aload_n (pc := 41) C 2 d_Root_lay_41 rfl rfl ?_
    refine r_iload (pc := 42) C 0 d_Root_lay_42 rfl ?_
    refine r_iconst (pc := 44) C (v := 1) d_Root_lay_44 (by decide) ?_
    refine r_callVi (pc := 45) (As := [.int x3, .int 1]) (rest := []) C ok_Root_tell Lm_Root_99 k_id0 (by decide) ⟨by decide, by decide⟩ rfl rfl (Nat.le_of_ble_eq_true rfl) d_Root_lay_45 hf (fun x D1 hc => c_Root_tell Γ hc) (fun x5 D6 hf => ?_)
    exact r_iret (pc := 48) C d_Root_lay_48 hf
  · refine r_iload (pc := 13) C 0 d_Root_lay_13 rfl ?_
    exact r_iret (pc := 15) C d_Root_lay_15 hf
theorem c_Root_lay (Γ : GmT) {v1 : Int32} {v2 : Int32} {v3 : Int32} {D : Dt} {rr : Int32} {DD : Dt} (hf : f_Root_lay v1 v2 v3 D = some (rr, DD)) : Mt Γ y_Root_lay b_Root_lay 6 (some .int) 5 [.ref (Γ.2.1 0), .int v1, .int v2, .int v3] D (some (.int rr)) DD := Mt_of (by decide) (Nat.le_of_ble_eq_true rfl) (fun G C => te_Root_lay C hf)
def f_Root_at (v1 : Int32) (v2 : Int32) (D : Dt) : Option (Int32 × Dt) :=
  bnd (f_Root_refusedPlace v1 v2 D) (fun x1 D2 => (if x1 = 0 then (if inb v1 6 = true then (if inb v2 60 = true then bnd (f_Root_tell (D2 ((111 + 2 * v1.toNatClampNeg) + 1) v2.toNatClampNeg) 1 D2) (fun x3 D4 => some (x3, D4)) else none) else none) else some (x1, D2)))
set_option maxHeartbeats 4000000 in
theorem te_Root_at {Γ : GmT} {G : Dt → Nat → List (Nat × Value) → List Value → Prop} {rr : Int32} {DD : Dt} (C : Cx Γ "RiverTuesdays" b_Root_at 4 5 (some .int) (some (.int rr)) DD G) {v1 : Int32} {v2 : Int32} {D : Dt} (hf : f_Root_at v1 v2 D = some (rr, DD)) : G D 0 [(0, .ref (Γ.2.1 0)), (1, .int v1), (2, .int v2)] [] := by
  unfold f_Root_at at hf
  refine r_aload_n (pc := 0) C 0 d_Root_at_0 rfl rfl ?_
  refine r_iload_n (pc := 1) C 1 d_Root_at_1 rfl rfl ?_
  refine r_iload_n (pc := 2) C 2 d_Root_at_2 rfl rfl ?_
  refine r_callVi (pc := 3) (As := [.int v1, .int v2]) (rest := []) C ok_Root_refusedPlace Lm_Root_92 k_id0 (by decide) ⟨by decide, by decide⟩ rfl rfl (Nat.le_of_ble_eq_true rfl) d_Root_at_3 hf (fun x D1 hc => c_Root_refusedPlace Γ hc) (fun x1 D2 hf => ?_)
  refine r_istore_n (pc := 6) (lv' := [(3, .int x1), (0, .ref (Γ.2.1 0)), (1, .int v1), (2, .int v2)]) C d_Root_at_6 rfl (Nat.le_of_ble_eq_true rfl) rfl ?_
  refine r_iload_n (pc := 7) C 0 d_Root_at_7 rfl rfl ?_
  refine r_if_eq (pc := 8) C (tgt := 15) d_Root_at_8 (by decide) hf (fun c8 hf => ?_) (fun c8 hf => ?_)
  · refine r_aload_n (pc := 15) C 1 d_Root_at_15 rfl rfl ?_
    refine r_aload_n (pc := 16) C 1 d_Root_at_16 rfl rfl ?_
    refine g_Root_rows (pc := 17) C k_id0 Lf_Root_11 d_Root_at_17 ?_
    refine r_iload_n (pc := 20) C 2 d_Root_at_20 rfl rfl ?_
    refine r_aald13 (pc := 21) C kq_Root_rows d_Root_at_21 hf (fun hn21 hf => ?_)
    refine g_Row_places (pc := 22) C (ke13 _ (inb_lt hn21)) Lf_Root_96 d_Root_at_22 ?_
    refine r_iload_n (pc := 25) C 3 d_Root_at_25 rfl rfl ?_
    refine r_iald (pc := 26) C (kq_Row_places (ke13 _ (inb_lt hn21))) d_Root_at_26 hf (fun hf => ?_)
    refine r_iconst (pc := 27) C (v := 1) d_Root_at_27 (by decide) ?_
    refine r_callVi (pc := 28) (As := [.int (D2 ((111 + 2 * v1.toNatClampNeg) + 1) v2.toNatClampNeg), .int 1]) (rest := []) C ok_Root_tell Lm_Root_99 k_id0 (by decide) ⟨by decide, by decide⟩ rfl rfl (Nat.le_of_ble_eq_true rfl) d_Root_at_28 hf (fun x D1 hc => c_Root_tell Γ hc) (fun x3 D4 hf => ?_)
    exact r_iret (pc := 31) C d_Root_at_31 hf
  · refine r_iload_n (pc := 11) C 0 d_Root_at_11 rfl rfl ?_
    refine r_goto (pc := 12) C (tgt := 31) d_Root_at_12 (by decide) ?_
    exact r_iret (pc := 31) C d_Root_at_31 hf
theorem c_Root_at (Γ : GmT) {v1 : Int32} {v2 : Int32} {D : Dt} {rr : Int32} {DD : Dt} (hf : f_Root_at v1 v2 D = some (rr, DD)) : Mt Γ y_Root_at b_Root_at 4 (some .int) 5 [.ref (Γ.2.1 0), .int v1, .int v2] D (some (.int rr)) DD := Mt_of (by decide) (Nat.le_of_ble_eq_true rfl) (fun G C => te_Root_at C hf)
def f_Root_tear (v1 : Int32) (D : Dt) : Option (Int32 × Dt) :=
  bnd (f_Root_refusedRow v1 D) (fun x1 D2 => (if x1 = 0 then (if inb v1 6 = true then nm (wr D2 (111 + 2 * v1.toNatClampNeg) 1 (-1)) (fun D3 => some (1, D3)) else none) else some (x1, D2)))
set_option maxHeartbeats 4000000 in
theorem te_Root_tear {Γ : GmT} {G : Dt → Nat → List (Nat × Value) → List Value → Prop} {rr : Int32} {DD : Dt} (C : Cx Γ "RiverTuesdays" b_Root_tear 3 4 (some .int) (some (.int rr)) DD G) {v1 : Int32} {D : Dt} (hf : f_Root_tear v1 D = some (rr, DD)) : G D 0 [(0, .ref (Γ.2.1 0)), (1, .int v1)] [] := by
  unfold f_Root_tear at hf
  refine r_aload_n (pc := 0) C 0 d_Root_tear_0 rfl rfl ?_
  refine r_iload_n (pc := 1) C 1 d_Root_tear_1 rfl rfl ?_
  refine r_callVi (pc := 2) (As := [.int v1]) (rest := []) C ok_Root_refusedRow Lm_Root_102 k_id0 (by decide) ⟨by decide, by decide⟩ rfl rfl (Nat.le_of_ble_eq_true rfl) d_Root_tear_2 hf (fun x D1 hc => c_Root_refusedRow Γ hc) (fun x1 D2 hf => ?_)
  refine r_istore_n (pc := 5) (lv' := [(2, .int x1), (0, .ref (Γ.2.1 0)), (1, .int v1)]) C d_Root_tear_5 rfl (Nat.le_of_ble_eq_true rfl) rfl ?_
  refine r_iload_n (pc := 6) C 0 d_Root_tear_6 rfl rfl ?_
  refine r_if_eq (pc := 7) C (tgt := 12) d_Root_tear_7 (by decide) hf (fun c7 hf => ?_) (fun c7 hf => ?_)
  · refine r_aload_n (pc := 12) C 1 d_Root_tear_12 rfl rfl ?_
    refine g_Root_rows (pc := 13) C k_id0 Lf_Root_11 d_Root_tear_13 ?_
    refine r_iload_n (pc := 16) C 2 d_Root_tear_16 rfl rfl ?_
    refine r_aald13 (pc := 17) C kq_Root_rows d_Root_tear_17 hf (fun hn17 hf => ?_)
    refine r_iconst (pc := 18) C (v := (-1)) d_Root_tear_18 (by decide) ?_
    refine p_Row_size (pc := 19) C (ke13 _ (inb_lt hn17)) Lf_Root_105 d_Root_tear_19 ?_
    refine r_nmD hf (fun D3 hf => ?_)
    refine r_iconst (pc := 22) C (v := 1) d_Root_tear_22 (by decide) ?_
    exact r_iret (pc := 23) C d_Root_tear_23 hf
  · refine r_iload_n (pc := 10) C 0 d_Root_tear_10 rfl rfl ?_
    exact r_iret (pc := 11) C d_Root_tear_11 hf
theorem c_Root_tear (Γ : GmT) {v1 : Int32} {D : Dt} {rr : Int32} {DD : Dt} (hf : f_Root_tear v1 D = some (rr, DD)) : Mt Γ y_Root_tear b_Root_tear 3 (some .int) 4 [.ref (Γ.2.1 0), .int v1] D (some (.int rr)) DD := Mt_of (by decide) (Nat.le_of_ble_eq_true rfl) (fun G C => te_Root_tear C hf)
def b_Root_copy_51 (D : Dt) : Option (Int32 × Dt) :=
  bnd (f_Root_find 1 D) (fun x7 D8 => some (x7, D8))
set_option maxHeartbeats 4000000 in
theorem tb_Root_copy_51 {Γ : GmT} {G : Dt → Nat → List (Nat × Value) → List Value → Prop} {rr : Int32} {DD : Dt} (C : Cx Γ "RiverTuesdays" b_Root_copy 6 3 (some .int) (some (.int rr)) DD G) {D : Dt} (hf : b_Root_copy_51 D = some (rr, DD)) : G D 51 [(0, .ref (Γ.2.1 0))] [] := by
  unfold b_Root_copy_51 at hf
  refine r_aload_n (pc := 51) C 0 d_Root_copy_51 rfl rfl ?_
  refine r_iconst (pc := 52) C (v := 1) d_Root_copy_52 (by decide) ?_
  refine r_callVi (pc := 53) (As := [.int 1]) (rest := []) C ok_Root_find Lm_Root_84 k_id0 (by decide) ⟨by decide, by decide⟩ rfl rfl (Nat.le_of_ble_eq_true rfl) d_Root_copy_53 hf (fun x D1 hc => c_Root_find Γ hc) (fun x7 D8 hf => ?_)
  exact r_iret (pc := 56) C d_Root_copy_56 hf
def b_Root_copy_88 (D : Dt) : Option (Int32 × Dt) :=
  bnd (f_Root_find 2 D) (fun x13 D14 => some (x13, D14))
set_option maxHeartbeats 4000000 in
theorem tb_Root_copy_88 {Γ : GmT} {G : Dt → Nat → List (Nat × Value) → List Value → Prop} {rr : Int32} {DD : Dt} (C : Cx Γ "RiverTuesdays" b_Root_copy 6 3 (some .int) (some (.int rr)) DD G) {D : Dt} (hf : b_Root_copy_88 D = some (rr, DD)) : G D 88 [(0, .ref (Γ.2.1 0))] [] := by
  unfold b_Root_copy_88 at hf
  refine r_aload_n (pc := 88) C 0 d_Root_copy_88 rfl rfl ?_
  refine r_iconst (pc := 89) C (v := 2) d_Root_copy_89 (by decide) ?_
  refine r_callVi (pc := 90) (As := [.int 2]) (rest := []) C ok_Root_find Lm_Root_84 k_id0 (by decide) ⟨by decide, by decide⟩ rfl rfl (Nat.le_of_ble_eq_true rfl) d_Root_copy_90 hf (fun x D1 hc => c_Root_find Γ hc) (fun x13 D14 hf => ?_)
  exact r_iret (pc := 93) C d_Root_copy_93 hf
def f_Root_copy (v1 : Int32) (v2 : Int32) (v3 : Int32) (v4 : Int32) (v5 : Int32) (D : Dt) : Option (Int32 × Dt) :=
  bnd (f_Root_isRow v1 D) (fun x1 D2 => (if x1 = 0 then some ((-1), D2) else bnd (f_Root_isRow v3 D2) (fun x3 D4 => (if x3 = 0 then some ((-1), D4) else (if 0 ≤ v5 then (if inb v1 6 = true then bnd (f_Row_isThere (111 + 2 * v1.toNatClampNeg) D4) (fun x5 D6 => (if x5 = 0 then b_Root_copy_51 D6 else (if inb v3 6 = true then bnd (f_Row_isThere (111 + 2 * v3.toNatClampNeg) D6) (fun x9 D10 => (if x9 = 0 then b_Root_copy_51 D10 else (if inb v1 6 = true then bnd (f_Row_hasRun (111 + 2 * v1.toNatClampNeg) v2 v5 D10) (fun x11 D12 => (if x11 = 0 then b_Root_copy_88 D12 else (if inb v3 6 = true then bnd (f_Row_hasRun (111 + 2 * v3.toNatClampNeg) v4 v5 D12) (fun x15 D16 => (if x15 = 0 then b_Root_copy_88 D16 else (if inb v1 6 = true then (if inb v3 6 = true then (if ¬ v2 < 0 ∧ ¬ v4 < 0 ∧ ¬ v5 < 0 ∧ v2.toNatClampNeg + v5.toNatClampNeg ≤ 60 ∧ v4.toNatClampNeg + v5.toNatClampNeg ≤ 60 then nm (st D16 ((111 + 2 * v3.toNatClampNeg) + 1) (va_cpy (D16 ((111 + 2 * v1.toNatClampNeg) + 1)) (D16 ((111 + 2 * v3.toNatClampNeg) + 1)) v2.toNatClampNeg v4.toNatClampNeg v5.toNatClampNeg)) (fun D17 => some (1, D17)) else none) else none) else none))) else none))) else none))) else none))) else none) else bnd (f_Root_find 5 D4) (fun x18 D19 => some (x18, D19)))))))
set_option maxHeartbeats 4000000 in
theorem te_Root_copy {Γ : GmT} {G : Dt → Nat → List (Nat × Value) → List Value → Prop} {rr : Int32} {DD : Dt} (C : Cx Γ "RiverTuesdays" b_Root_copy 6 3 (some .int) (some (.int rr)) DD G) {v1 : Int32} {v2 : Int32} {v3 : Int32} {v4 : Int32} {v5 : Int32} {D : Dt} (hf : f_Root_copy v1 v2 v3 v4 v5 D = some (rr, DD)) : G D 0 [(0, .ref (Γ.2.1 0)), (1, .int v1), (2, .int v2), (3, .int v3), (4, .int v4), (5, .int v5)] [] := by
  unfold f_Root_copy at hf
  refine r_iload_n (pc := 0) C 1 d_Root_copy_0 rfl rfl ?_
  refine r_callSi (pc := 1) (As := [.int v1]) (rest := []) C ok_Root_isRow Lm_Root_80 ⟨by decide, by decide⟩ rfl rfl (Nat.le_of_ble_eq_true rfl) d_Root_copy_1 hf (fun x D1 hc => c_Root_isRow Γ hc) (fun x1 D2 hf => ?_)
  refine r_if_eq (pc := 4) C (tgt := 14) d_Root_copy_4 (by decide) hf (fun c4 hf => ?_) (fun c4 hf => ?_)
  · refine r_iconst (pc := 14) C (v := (-1)) d_Root_copy_14 (by decide) ?_
    exact r_iret (pc := 15) C d_Root_copy_15 hf
  · refine r_iload_n (pc := 7) C 3 d_Root_copy_7 rfl rfl ?_
    refine r_callSi (pc := 8) (As := [.int v3]) (rest := []) C ok_Root_isRow Lm_Root_80 ⟨by decide, by decide⟩ rfl rfl (Nat.le_of_ble_eq_true rfl) d_Root_copy_8 hf (fun x D1 hc => c_Root_isRow Γ hc) (fun x3 D4 hf => ?_)
    refine r_if_ne (pc := 11) C (tgt := 16) d_Root_copy_11 (by decide) hf (fun c11 hf => ?_) (fun c11 hf => ?_)
    · refine r_iload (pc := 16) C 5 d_Root_copy_16 rfl ?_
      refine r_if_ge (pc := 18) C (tgt := 27) d_Root_copy_18 (by decide) hf (fun c18 hf => ?_) (fun c18 hf => ?_)
      · refine r_aload_n (pc := 27) C 0 d_Root_copy_27 rfl rfl ?_
        refine g_Root_rows (pc := 28) C k_id0 Lf_Root_11 d_Root_copy_28 ?_
        refine r_iload_n (pc := 31) C 1 d_Root_copy_31 rfl rfl ?_
        refine r_aald13 (pc := 32) C kq_Root_rows d_Root_copy_32 hf (fun hn32 hf => ?_)
        refine r_callVi (pc := 33) (As := []) (rest := []) C ok_Row_isThere Lm_Root_109 (ke13 _ (inb_lt hn32)) (by decide) ⟨by decide, by decide⟩ rfl rfl (Nat.le_of_ble_eq_true rfl) d_Root_copy_33 hf (fun x D1 hc => c_Row_isThere Γ (ke13 _ (inb_lt hn32)) hc) (fun x5 D6 hf => ?_)
        refine r_if_eq (pc := 36) C (tgt := 51) d_Root_copy_36 (by decide) hf (fun c36 hf => ?_) (fun c36 hf => ?_)
        · exact r_lv (pc := 51) C [0] rfl (tb_Root_copy_51 C hf)
        · refine r_aload_n (pc := 39) C 0 d_Root_copy_39 rfl rfl ?_
          refine g_Root_rows (pc := 40) C k_id0 Lf_Root_11 d_Root_copy_40 ?_
          refine r_iload_n (pc := 43) C 3 d_Root_copy_43 rfl rfl ?_
          refine r_aald13 (pc := 44) C kq_Root_rows d_Root_copy_44 hf (fun hn44 hf => ?_)
          refine r_callVi (pc := 45) (As := []) (rest := []) C ok_Row_isThere Lm_Root_109 (ke13 _ (inb_lt hn44)) (by decide) ⟨by decide, by decide⟩ rfl rfl (Nat.le_of_ble_eq_true rfl) d_Root_copy_45 hf (fun x D1 hc => c_Row_isThere Γ (ke13 _ (inb_lt hn44)) hc) (fun x9 D10 hf => ?_)
          refine r_if_ne (pc := 48) C (tgt := 57) d_Root_copy_48 (by decide) hf (fun c48 hf => ?_) (fun c48 hf => ?_)
          · refine r_aload_n (pc := 57) C 0 d_Root_copy_57 rfl rfl ?_
            refine g_Root_rows (pc := 58) C k_id0 Lf_Root_11 d_Root_copy_58 ?_
            refine r_iload_n (pc := 61) C 1 d_Root_copy_61 rfl rfl ?_
            refine r_aald13 (pc := 62) C kq_Root_rows d_Root_copy_62 hf (fun hn62 hf => ?_)
            refine r_iload_n (pc := 63) C 2 d_Root_copy_63 rfl rfl ?_
            refine r_iload (pc := 64) C 5 d_Root_copy_64 rfl ?_
            refine r_callVi (pc := 66) (As := [.int v2, .int v5]) (rest := []) C ok_Row_hasRun Lm_Root_113 (ke13 _ (inb_lt hn62)) (by decide) ⟨by decide, by decide⟩ rfl rfl (Nat.le_of_ble_eq_true rfl) d_Root_copy_66 hf (fun x D1 hc => c_Row_hasRun Γ (ke13 _ (inb_lt hn62)) hc) (fun x11 D12 hf => ?_)
            refine r_if_eq (pc := 69) C (tgt := 88) d_Root_copy_69 (by decide) hf (fun c69 hf => ?_) (fun c69 hf => ?_)
            · exact r_lv (pc := 88) C [0] rfl (tb_Root_copy_88 C hf)
            · refine r_aload_n (pc := 72) C 0 d_Root_copy_72 rfl rfl ?_
              refine g_Root_rows (pc := 73) C k_id0 Lf_Root_11 d_Root_copy_73 ?_
              refine r_iload_n (pc := 76) C 3 d_Root_copy_76 rfl rfl ?_
              refine r_aald13 (pc := 77) C kq_Root_rows d_Root_copy_77 hf (fun hn77 hf => ?_)
              refine r_iload (pc := 78) C 4 d_Root_copy_78 rfl ?_
              refine r_iload (pc := 80) C 5 d_Root_copy_80 rfl ?_
              refine r_callVi (pc := 82) (As := [.int v4, .int v5]) (rest := []) C ok_Row_hasRun Lm_Root_113 (ke13 _ (inb_lt hn77)) (by decide) ⟨by decide, by decide⟩ rfl rfl (Nat.le_of_ble_eq_true rfl) d_Root_copy_82 hf (fun x D1 hc => c_Row_hasRun Γ (ke13 _ (inb_lt hn77)) hc) (fun x15 D16 hf => ?_)
              refine r_if_ne (pc := 85) C (tgt := 94) d_Root_copy_85 (by decide) hf (fun c85 hf => ?_) (fun c85 hf => ?_)
              · refine r_aload_n (pc := 94) C 0 d_Root_copy_94 rfl rfl ?_
                refine g_Root_rows (pc := 95) C k_id0 Lf_Root_11 d_Root_copy_95 ?_
                refine r_iload_n (pc := 98) C 1 d_Root_copy_98 rfl rfl ?_
                refine r_aald13 (pc := 99) C kq_Root_rows d_Root_copy_99 hf (fun hn99 hf => ?_)
                refine g_Row_places (pc := 100) C (ke13 _ (inb_lt hn99)) Lf_Root_96 d_Root_copy_100 ?_
                refine r_iload_n (pc := 103) C 2 d_Root_copy_103 rfl rfl ?_
                refine r_aload_n (pc := 104) C 0 d_Root_copy_104 rfl rfl ?_
                refine g_Root_rows (pc := 105) C k_id0 Lf_Root_11 d_Root_copy_105 ?_
                refine r_iload_n (pc := 108) C 3 d_Root_copy_108 rfl rfl ?_
                refine r_aald13 (pc := 109) C kq_Root_rows d_Root_copy_109 hf (fun hn109 hf => ?_)
                refine g_Row_places (pc := 110) C (ke13 _ (inb_lt hn109)) Lf_Root_96 d_Root_copy_110 ?_
                refine r_iload (pc := 113) C 4 d_Root_copy_113 rfl ?_
                refine r_iload (pc := 115) C 5 d_Root_copy_115 rfl ?_
                refine r_acopy (pc := 117) C (kq_Row_places (ke13 _ (inb_lt hn99))) (kq_Row_places (ke13 _ (inb_lt hn109))) Lm_Root_117 acw1 acw2 acw3 (by decide) (Nat.le_of_ble_eq_true rfl) d_Root_copy_117 hf (fun hf => ?_)
                refine r_nmD hf (fun D17 hf => ?_)
                refine r_iconst (pc := 120) C (v := 1) d_Root_copy_120 (by decide) ?_
                exact r_iret (pc := 121) C d_Root_copy_121 hf
              · exact r_lv (pc := 88) C [0] rfl (tb_Root_copy_88 C hf)
          · exact r_lv (pc := 51) C [0] rfl (tb_Root_copy_51 C hf)
      · refine r_aload_n (pc := 21) C 0 d_Root_copy_21 rfl rfl ?_
        refine r_iconst (pc := 22) C (v := 5) d_Root_copy_22 (by decide) ?_
        refine r_callVi (pc := 23) (As := [.int 5]) (rest := []) C ok_Root_find Lm_Root_84 k_id0 (by decide) ⟨by decide, by decide⟩ rfl rfl (Nat.le_of_ble_eq_true rfl) d_Root_copy_23 hf (fun x D1 hc => c_Root_find Γ hc) (fun x18 D19 hf => ?_)
        exact r_iret (pc := 26) C d_Root_copy_26 hf
    · refine r_iconst (pc := 14) C (v := (-1)) d_Root_copy_14 (by decide) ?_
      exact r_iret (pc := 15) C d_Root_copy_15 hf
theorem c_Root_copy (Γ : GmT) {v1 : Int32} {v2 : Int32} {v3 : Int32} {v4 : Int32} {v5 : Int32} {D : Dt} {rr : Int32} {DD : Dt} (hf : f_Root_copy v1 v2 v3 v4 v5 D = some (rr, DD)) : Mt Γ y_Root_copy b_Root_copy 6 (some .int) 3 [.ref (Γ.2.1 0), .int v1, .int v2, .int v3, .int v4, .int v5] D (some (.int rr)) DD := Mt_of (by decide) (Nat.le_of_ble_eq_true rfl) (fun G C => te_Root_copy C hf)
def f_Root_mean (v1 : Int32) (D : Dt) : Option (Int32 × Dt) :=
  bnd (f_Root_refusedRow v1 D) (fun x1 D2 => (if x1 = 0 then (if inb v1 6 = true then nm (D2 (111 + 2 * v1.toNatClampNeg) 1) (fun x3 => (if 0 < x3 then (if inb v1 6 = true then bnd (f_Row_sum (111 + 2 * v1.toNatClampNeg) D2) (fun x4 D5 => (if (x3.toInt64) = 0 then none else bnd (f_Root_tell ((x4 / (x3.toInt64)).toInt32) 1 D5) (fun x6 D7 => some (x6, D7)))) else none) else bnd (f_Root_find 4 D2) (fun x8 D9 => some (x8, D9)))) else none) else some (x1, D2)))
set_option maxHeartbeats 4000000 in
theorem te_Root_mean {Γ : GmT} {G : Dt → Nat → List (Nat × Value) → List Value → Prop} {rr : Int32} {DD : Dt} (C : Cx Γ "RiverTuesdays" b_Root_mean 4 4 (some .int) (some (.int rr)) DD G) {v1 : Int32} {D : Dt} (hf : f_Root_mean v1 D = some (rr, DD)) : G D 0 [(0, .ref (Γ.2.1 0)), (1, .int v1)] [] := by
  unfold f_Root_mean at hf
  refine r_aload_n (pc := 0) C 0 d_Root_mean_0 rfl rfl ?_
  refine r_iload_n (pc := 1) C 1 d_Root_mean_1 rfl rfl ?_
  refine r_callVi (pc := 2) (As := [.int v1]) (rest := []) C ok_Root_refusedRow Lm_Root_102 k_id0 (by decide) ⟨by decide, by decide⟩ rfl rfl (Nat.le_of_ble_eq_true rfl) d_Root_mean_2 hf (fun x D1 hc => c_Root_refusedRow Γ hc) (fun x1 D2 hf => ?_)
  refine r_istore_n (pc := 5) (lv' := [(2, .int x1), (0, .ref (Γ.2.1 0)), (1, .int v1)]) C d_Root_mean_5 rfl (Nat.le_of_ble_eq_true rfl) rfl ?_
  refine r_iload_n (pc := 6) C 0 d_Root_mean_6 rfl rfl ?_
  refine r_if_eq (pc := 7) C (tgt := 12) d_Root_mean_7 (by decide) hf (fun c7 hf => ?_) (fun c7 hf => ?_)
  · refine r_aload_n (pc := 12) C 1 d_Root_mean_12 rfl rfl ?_
    refine g_Root_rows (pc := 13) C k_id0 Lf_Root_11 d_Root_mean_13 ?_
    refine r_iload_n (pc := 16) C 2 d_Root_mean_16 rfl rfl ?_
    refine r_aald13 (pc := 17) C kq_Root_rows d_Root_mean_17 hf (fun hn17 hf => ?_)
    refine g_Row_size (pc := 18) C (ke13 _ (inb_lt hn17)) Lf_Root_105 d_Root_mean_18 ?_
    refine r_nmi (pc := 21) hf (fun x3 hf => ?_)
    refine r_istore_n (pc := 21) (lv' := [(3, .int x3), (2, .int x1), (0, .ref (Γ.2.1 0)), (1, .int v1)]) C d_Root_mean_21 rfl (Nat.le_of_ble_eq_true rfl) rfl ?_
    refine r_iload_n (pc := 22) C 0 d_Root_mean_22 rfl rfl ?_
    refine r_if_gt (pc := 23) C (tgt := 32) d_Root_mean_23 (by decide) hf (fun c23 hf => ?_) (fun c23 hf => ?_)
    · refine r_aload_n (pc := 32) C 2 d_Root_mean_32 rfl rfl ?_
      refine r_aload_n (pc := 33) C 2 d_Root_mean_33 rfl rfl ?_
      refine g_Root_rows (pc := 34) C k_id0 Lf_Root_11 d_Root_mean_34 ?_
      refine r_iload_n (pc := 37) C 3 d_Root_mean_37 rfl rfl ?_
      refine r_aald13 (pc := 38) C kq_Root_rows d_Root_mean_38 hf (fun hn38 hf => ?_)
      refine r_callVl (pc := 39) (As := []) (rest := [.ref (Γ.2.1 0)]) C ok_Row_sum Lm_Root_123 (ke13 _ (inb_lt hn38)) (by decide) ⟨by decide, by decide⟩ rfl rfl (Nat.le_of_ble_eq_true rfl) d_Root_mean_39 hf (fun x D1 hc => c_Row_sum Γ (ke13 _ (inb_lt hn38)) hc) (fun x4 D5 hf => ?_)
      refine r_iload_n (pc := 42) C 0 d_Root_mean_42 rfl rfl ?_
      refine r_i2l (pc := 43) C d_Root_mean_43 ?_
      refine r_ldiv (pc := 44) C d_Root_mean_44 hf (fun hf => ?_)
      refine r_l2i (pc := 45) C d_Root_mean_45 ?_
      refine r_iconst (pc := 46) C (v := 1) d_Root_mean_46 (by decide) ?_
      refine r_callVi (pc := 47) (As := [.int ((x4 / (x3.toInt64)).toInt32), .int 1]) (rest := []) C ok_Root_tell Lm_Root_99 k_id0 (by decide) ⟨by decide, by decide⟩ rfl rfl (Nat.le_of_ble_eq_true rfl) d_Root_mean_47 hf (fun x D1 hc => c_Root_tell Γ hc) (fun x6 D7 hf => ?_)
      exact r_iret (pc := 50) C d_Root_mean_50 hf
    · refine r_aload_n (pc := 26) C 2 d_Root_mean_26 rfl rfl ?_
      refine r_iconst (pc := 27) C (v := 4) d_Root_mean_27 (by decide) ?_
      refine r_callVi (pc := 28) (As := [.int 4]) (rest := []) C ok_Root_find Lm_Root_84 k_id0 (by decide) ⟨by decide, by decide⟩ rfl rfl (Nat.le_of_ble_eq_true rfl) d_Root_mean_28 hf (fun x D1 hc => c_Root_find Γ hc) (fun x8 D9 hf => ?_)
      exact r_iret (pc := 31) C d_Root_mean_31 hf
  · refine r_iload_n (pc := 10) C 0 d_Root_mean_10 rfl rfl ?_
    exact r_iret (pc := 11) C d_Root_mean_11 hf
theorem c_Root_mean (Γ : GmT) {v1 : Int32} {D : Dt} {rr : Int32} {DD : Dt} (hf : f_Root_mean v1 D = some (rr, DD)) : Mt Γ y_Root_mean b_Root_mean 4 (some .int) 4 [.ref (Γ.2.1 0), .int v1] D (some (.int rr)) DD := Mt_of (by decide) (Nat.le_of_ble_eq_true rfl) (fun G C => te_Root_mean C hf)
def f_Root_isText (v0 : Int32) (D : Dt) : Option (Int32 × Dt) :=
  bnd (f_Root_isWithin v0 0 3 D) (fun x1 D2 => (if x1 = 0 ∨ x1 = 1 then some (x1, D2) else none))
set_option maxHeartbeats 4000000 in
theorem te_Root_isText {Γ : GmT} {G : Dt → Nat → List (Nat × Value) → List Value → Prop} {rr : Int32} {DD : Dt} (C : Cx Γ "RiverTuesdays" b_Root_isText 1 2 (some .boolean) (some (.int rr)) DD G) {v0 : Int32} {D : Dt} (hf : f_Root_isText v0 D = some (rr, DD)) : G D 0 [(0, .int v0)] [] := by
  unfold f_Root_isText at hf
  refine r_iload_n (pc := 0) C 0 d_Root_isText_0 rfl rfl ?_
  refine r_iconst (pc := 1) C (v := 0) d_Root_isText_1 (by decide) ?_
  refine r_iconst (pc := 2) C (v := 3) d_Root_isText_2 (by decide) ?_
  refine r_callSi (pc := 3) (As := [.int v0, .int 0, .int 3]) (rest := []) C ok_Root_isWithin Lm_Root_155 ⟨by decide, by decide⟩ rfl rfl (Nat.le_of_ble_eq_true rfl) d_Root_isText_3 hf (fun x D1 hc => c_Root_isWithin Γ hc) (fun x1 D2 hf => ?_)
  exact r_zretc (pc := 6) C d_Root_isText_6 hf
theorem c_Root_isText (Γ : GmT) {v0 : Int32} {D : Dt} {rr : Int32} {DD : Dt} (hf : f_Root_isText v0 D = some (rr, DD)) : Mt Γ y_Root_isText b_Root_isText 1 (some .boolean) 2 [.int v0] D (some (.int rr)) DD := Mt_of (by decide) (Nat.le_of_ble_eq_true rfl) (fun G C => te_Root_isText C hf)
def f_Root_text (v1 : Int32) (v2 : Int32) (D : Dt) : Option (Int32 × Dt) :=
  bnd (f_Root_isText v1 D) (fun x1 D2 => (if x1 = 0 then some ((-1), D2) else (if v2 ≤ 60 then (if 0 ≤ v2 then (if inb v1 4 = true then bnd (f_Text_begin (123 + 2 * v1.toNatClampNeg) v2 D2) (fun x3 D4 => some (v2, D4)) else none) else bnd (f_Root_find 5 D2) (fun x5 D6 => some (x5, D6))) else some ((-1), D2))))
set_option maxHeartbeats 4000000 in
theorem te_Root_text {Γ : GmT} {G : Dt → Nat → List (Nat × Value) → List Value → Prop} {rr : Int32} {DD : Dt} (C : Cx Γ "RiverTuesdays" b_Root_text 3 3 (some .int) (some (.int rr)) DD G) {v1 : Int32} {v2 : Int32} {D : Dt} (hf : f_Root_text v1 v2 D = some (rr, DD)) : G D 0 [(0, .ref (Γ.2.1 0)), (1, .int v1), (2, .int v2)] [] := by
  unfold f_Root_text at hf
  refine r_iload_n (pc := 0) C 1 d_Root_text_0 rfl rfl ?_
  refine r_callSi (pc := 1) (As := [.int v1]) (rest := []) C ok_Root_isText Lm_Root_127 ⟨by decide, by decide⟩ rfl rfl (Nat.le_of_ble_eq_true rfl) d_Root_text_1 hf (fun x D1 hc => c_Root_isText Γ hc) (fun x1 D2 hf => ?_)
  refine r_if_eq (pc := 4) C (tgt := 13) d_Root_text_4 (by decide) hf (fun c4 hf => ?_) (fun c4 hf => ?_)
  · refine r_iconst (pc := 13) C (v := (-1)) d_Root_text_13 (by decide) ?_
    exact r_iret (pc := 14) C d_Root_text_14 hf
  · refine r_iload_n (pc := 7) C 2 d_Root_text_7 rfl rfl ?_
    refine r_bipush (pc := 8) C (v := 60) d_Root_text_8 (by decide) ?_
    refine r_icmp_le (pc := 10) C (tgt := 15) d_Root_text_10 (by decide) hf (fun c10 hf => ?_) (fun c10 hf => ?_)
    · refine r_iload_n (pc := 15) C 2 d_Root_text_15 rfl rfl ?_
      refine r_if_ge (pc := 16) C (tgt := 25) d_Root_text_16 (by decide) hf (fun c16 hf => ?_) (fun c16 hf => ?_)
      · refine r_aload_n (pc := 25) C 0 d_Root_text_25 rfl rfl ?_
        refine g_Root_texts (pc := 26) C k_id0 Lf_Root_17 d_Root_text_26 ?_
        refine r_iload_n (pc := 29) C 1 d_Root_text_29 rfl rfl ?_
        refine r_aald15 (pc := 30) C kq_Root_texts d_Root_text_30 hf (fun hn30 hf => ?_)
        refine r_iload_n (pc := 31) C 2 d_Root_text_31 rfl rfl ?_
        refine r_callVv (pc := 32) (As := [.int v2]) (rest := []) C ok_Text_begin Lm_Root_130 (ke15 _ (inb_lt hn30)) (by decide) ⟨by decide, by decide⟩ rfl rfl (Nat.le_of_ble_eq_true rfl) d_Root_text_32 hf (fun x D1 hc => c_Text_begin Γ (ke15 _ (inb_lt hn30)) hc) (fun x3 D4 hf => ?_)
        refine r_iload_n (pc := 35) C 2 d_Root_text_35 rfl rfl ?_
        exact r_iret (pc := 36) C d_Root_text_36 hf
      · refine r_aload_n (pc := 19) C 0 d_Root_text_19 rfl rfl ?_
        refine r_iconst (pc := 20) C (v := 5) d_Root_text_20 (by decide) ?_
        refine r_callVi (pc := 21) (As := [.int 5]) (rest := []) C ok_Root_find Lm_Root_84 k_id0 (by decide) ⟨by decide, by decide⟩ rfl rfl (Nat.le_of_ble_eq_true rfl) d_Root_text_21 hf (fun x D1 hc => c_Root_find Γ hc) (fun x5 D6 hf => ?_)
        exact r_iret (pc := 24) C d_Root_text_24 hf
    · refine r_iconst (pc := 13) C (v := (-1)) d_Root_text_13 (by decide) ?_
      exact r_iret (pc := 14) C d_Root_text_14 hf
theorem c_Root_text (Γ : GmT) {v1 : Int32} {v2 : Int32} {D : Dt} {rr : Int32} {DD : Dt} (hf : f_Root_text v1 v2 D = some (rr, DD)) : Mt Γ y_Root_text b_Root_text 3 (some .int) 3 [.ref (Γ.2.1 0), .int v1, .int v2] D (some (.int rr)) DD := Mt_of (by decide) (Nat.le_of_ble_eq_true rfl) (fun G C => te_Root_text C hf)
def f_Root_refusedText (v1 : Int32) (D : Dt) : Option (Int32 × Dt) :=
  bnd (f_Root_isText v1 D) (fun x1 D2 => (if x1 = 0 then some ((-1), D2) else (if inb v1 4 = true then bnd (f_Text_isThere (123 + 2 * v1.toNatClampNeg) D2) (fun x3 D4 => (if x3 = 0 then bnd (f_Root_find 1 D4) (fun x5 D6 => some (x5, D6)) else some (0, D4))) else none)))
set_option maxHeartbeats 4000000 in
theorem te_Root_refusedText {Γ : GmT} {G : Dt → Nat → List (Nat × Value) → List Value → Prop} {rr : Int32} {DD : Dt} (C : Cx Γ "RiverTuesdays" b_Root_refusedText 2 3 (some .int) (some (.int rr)) DD G) {v1 : Int32} {D : Dt} (hf : f_Root_refusedText v1 D = some (rr, DD)) : G D 0 [(0, .ref (Γ.2.1 0)), (1, .int v1)] [] := by
  unfold f_Root_refusedText at hf
  refine r_iload_n (pc := 0) C 1 d_Root_refusedText_0 rfl rfl ?_
  refine r_callSi (pc := 1) (As := [.int v1]) (rest := []) C ok_Root_isText Lm_Root_127 ⟨by decide, by decide⟩ rfl rfl (Nat.le_of_ble_eq_true rfl) d_Root_refusedText_1 hf (fun x D1 hc => c_Root_isText Γ hc) (fun x1 D2 hf => ?_)
  refine r_if_ne (pc := 4) C (tgt := 9) d_Root_refusedText_4 (by decide) hf (fun c4 hf => ?_) (fun c4 hf => ?_)
  · refine r_aload_n (pc := 9) C 0 d_Root_refusedText_9 rfl rfl ?_
    refine g_Root_texts (pc := 10) C k_id0 Lf_Root_17 d_Root_refusedText_10 ?_
    refine r_iload_n (pc := 13) C 1 d_Root_refusedText_13 rfl rfl ?_
    refine r_aald15 (pc := 14) C kq_Root_texts d_Root_refusedText_14 hf (fun hn14 hf => ?_)
    refine r_callVi (pc := 15) (As := []) (rest := []) C ok_Text_isThere Lm_Root_425 (ke15 _ (inb_lt hn14)) (by decide) ⟨by decide, by decide⟩ rfl rfl (Nat.le_of_ble_eq_true rfl) d_Root_refusedText_15 hf (fun x D1 hc => c_Text_isThere Γ (ke15 _ (inb_lt hn14)) hc) (fun x3 D4 hf => ?_)
    refine r_if_eq (pc := 18) C (tgt := 25) d_Root_refusedText_18 (by decide) hf (fun c18 hf => ?_) (fun c18 hf => ?_)
    · refine r_aload_n (pc := 25) C 0 d_Root_refusedText_25 rfl rfl ?_
      refine r_iconst (pc := 26) C (v := 1) d_Root_refusedText_26 (by decide) ?_
      refine r_callVi (pc := 27) (As := [.int 1]) (rest := []) C ok_Root_find Lm_Root_84 k_id0 (by decide) ⟨by decide, by decide⟩ rfl rfl (Nat.le_of_ble_eq_true rfl) d_Root_refusedText_27 hf (fun x D1 hc => c_Root_find Γ hc) (fun x5 D6 hf => ?_)
      exact r_iret (pc := 30) C d_Root_refusedText_30 hf
    · refine r_iconst (pc := 21) C (v := 0) d_Root_refusedText_21 (by decide) ?_
      refine r_goto (pc := 22) C (tgt := 30) d_Root_refusedText_22 (by decide) ?_
      exact r_iret (pc := 30) C d_Root_refusedText_30 hf
  · refine r_iconst (pc := 7) C (v := (-1)) d_Root_refusedText_7 (by decide) ?_
    exact r_iret (pc := 8) C d_Root_refusedText_8 hf
theorem c_Root_refusedText (Γ : GmT) {v1 : Int32} {D : Dt} {rr : Int32} {DD : Dt} (hf : f_Root_refusedText v1 D = some (rr, DD)) : Mt Γ y_Root_refusedText b_Root_refusedText 2 (some .int) 3 [.ref (Γ.2.1 0), .int v1] D (some (.int rr)) DD := Mt_of (by decide) (Nat.le_of_ble_eq_true rfl) (fun G C => te_Root_refusedText C hf)
def b_Root_put_32 (D : Dt) : Option (Int32 × Dt) :=
  bnd (f_Root_find 2 D) (fun x3 D4 => some (x3, D4))
set_option maxHeartbeats 4000000 in
theorem tb_Root_put_32 {Γ : GmT} {G : Dt → Nat → List (Nat × Value) → List Value → Prop} {rr : Int32} {DD : Dt} (C : Cx Γ "RiverTuesdays" b_Root_put 6 4 (some .int) (some (.int rr)) DD G) {D : Dt} (hf : b_Root_put_32 D = some (rr, DD)) : G D 32 [(0, .ref (Γ.2.1 0))] [] := by
  unfold b_Root_put_32 at hf
  refine r_aload_n (pc := 32) C 0 d_Root_put_32 rfl rfl ?_
  refine r_iconst (pc := 33) C (v := 2) d_Root_put_33 (by decide) ?_
  refine r_callVi (pc := 34) (As := [.int 2]) (rest := []) C ok_Root_find Lm_Root_84 k_id0 (by decide) ⟨by decide, by decide⟩ rfl rfl (Nat.le_of_ble_eq_true rfl) d_Root_put_34 hf (fun x D1 hc => c_Root_find Γ hc) (fun x3 D4 hf => ?_)
  exact r_iret (pc := 37) C d_Root_put_37 hf
def f_Root_put (v1 : Int32) (v2 : Int32) (v3 : Int32) (D : Dt) : Option (Int32 × Dt) :=
  bnd (f_Root_refusedText v1 D) (fun x1 D2 => (if x1 = 0 then (if v2 < 0 then b_Root_put_32 D2 else (if inb v1 4 = true then (if v2 < (D2 (123 + 2 * v1.toNatClampNeg) 1) then (if inb v1 4 = true then (if inb v2 60 = true then nm (D2 ((123 + 2 * v1.toNatClampNeg) + 1) v2.toNatClampNeg) (fun x5 => (if inb v1 4 = true then (if inb v2 60 = true then nm (wr D2 ((123 + 2 * v1.toNatClampNeg) + 1) v2.toNatClampNeg (vp_nar .byte (v3.toInt8.toInt32))) (fun D6 => some (x5 + 1000, D6)) else none) else none)) else none) else none) else b_Root_put_32 D2) else none)) else some (x1, D2)))
set_option maxHeartbeats 4000000 in
theorem te_Root_put {Γ : GmT} {G : Dt → Nat → List (Nat × Value) → List Value → Prop} {rr : Int32} {DD : Dt} (C : Cx Γ "RiverTuesdays" b_Root_put 6 4 (some .int) (some (.int rr)) DD G) {v1 : Int32} {v2 : Int32} {v3 : Int32} {D : Dt} (hf : f_Root_put v1 v2 v3 D = some (rr, DD)) : G D 0 [(0, .ref (Γ.2.1 0)), (1, .int v1), (2, .int v2), (3, .int v3)] [] := by
  unfold f_Root_put at hf
  refine r_aload_n (pc := 0) C 0 d_Root_put_0 rfl rfl ?_
  refine r_iload_n (pc := 1) C 1 d_Root_put_1 rfl rfl ?_
  refine r_callVi (pc := 2) (As := [.int v1]) (rest := []) C ok_Root_refusedText Lm_Root_131 k_id0 (by decide) ⟨by decide, by decide⟩ rfl rfl (Nat.le_of_ble_eq_true rfl) d_Root_put_2 hf (fun x D1 hc => c_Root_refusedText Γ hc) (fun x1 D2 hf => ?_)
  refine r_istore (pc := 5) (lv' := [(4, .int x1), (0, .ref (Γ.2.1 0)), (1, .int v1), (2, .int v2), (3, .int v3)]) C d_Root_put_5 (Nat.le_of_ble_eq_true rfl) rfl ?_
  refine r_iload (pc := 7) C 0 d_Root_put_7 rfl ?_
  refine r_if_eq (pc := 9) C (tgt := 15) d_Root_put_9 (by decide) hf (fun c9 hf => ?_) (fun c9 hf => ?_)
  · refine r_iload_n (pc := 15) C 3 d_Root_put_15 rfl rfl ?_
    refine r_if_lt (pc := 16) C (tgt := 32) d_Root_put_16 (by decide) hf (fun c16 hf => ?_) (fun c16 hf => ?_)
    · exact r_lv (pc := 32) C [1] rfl (tb_Root_put_32 C hf)
    · refine r_iload_n (pc := 19) C 3 d_Root_put_19 rfl rfl ?_
      refine r_aload_n (pc := 20) C 1 d_Root_put_20 rfl rfl ?_
      refine g_Root_texts (pc := 21) C k_id0 Lf_Root_17 d_Root_put_21 ?_
      refine r_iload_n (pc := 24) C 2 d_Root_put_24 rfl rfl ?_
      refine r_aald15 (pc := 25) C kq_Root_texts d_Root_put_25 hf (fun hn25 hf => ?_)
      refine g_Text_size (pc := 26) C (ke15 _ (inb_lt hn25)) Lf_Root_134 d_Root_put_26 ?_
      refine r_icmp_lt (pc := 29) C (tgt := 38) d_Root_put_29 (by decide) hf (fun c29 hf => ?_) (fun c29 hf => ?_)
      · refine r_aload_n (pc := 38) C 1 d_Root_put_38 rfl rfl ?_
        refine g_Root_texts (pc := 39) C k_id0 Lf_Root_17 d_Root_put_39 ?_
        refine r_iload_n (pc := 42) C 2 d_Root_put_42 rfl rfl ?_
        refine r_aald15 (pc := 43) C kq_Root_texts d_Root_put_43 hf (fun hn43 hf => ?_)
        refine g_Text_signs (pc := 44) C (ke15 _ (inb_lt hn43)) Lf_Root_135 d_Root_put_44 ?_
        refine r_iload_n (pc := 47) C 3 d_Root_put_47 rfl rfl ?_
        refine r_bald (pc := 48) C (kq_Text_signs (ke15 _ (inb_lt hn43))) d_Root_put_48 hf (fun hf => ?_)
        refine r_nmi (pc := 49) hf (fun x5 hf => ?_)
        refine r_istore (pc := 49) (lv' := [(5, .int x5), (4, .int x1), (0, .ref (Γ.2.1 0)), (1, .int v1), (2, .int v2), (3, .int v3)]) C d_Root_put_49 (Nat.le_of_ble_eq_true rfl) rfl ?_
        refine r_aload_n (pc := 51) C 2 d_Root_put_51 rfl rfl ?_
        refine g_Root_texts (pc := 52) C k_id0 Lf_Root_17 d_Root_put_52 ?_
        refine r_iload_n (pc := 55) C 3 d_Root_put_55 rfl rfl ?_
        refine r_aald15 (pc := 56) C kq_Root_texts d_Root_put_56 hf (fun hn56 hf => ?_)
        refine g_Text_signs (pc := 57) C (ke15 _ (inb_lt hn56)) Lf_Root_135 d_Root_put_57 ?_
        refine r_iload_n (pc := 60) C 4 d_Root_put_60 rfl rfl ?_
        refine r_iload_n (pc := 61) C 5 d_Root_put_61 rfl rfl ?_
        refine r_i2b (pc := 62) C d_Root_put_62 ?_
        refine r_bast (pc := 63) C (kq_Text_signs (ke15 _ (inb_lt hn56))) d_Root_put_63 hf (fun hf => ?_)
        refine r_nmD hf (fun D6 hf => ?_)
        refine r_iload (pc := 64) C 0 d_Root_put_64 rfl ?_
        refine r_sipush (pc := 66) C (v := 1000) d_Root_put_66 (by decide) ?_
        refine r_iadd (pc := 69) C d_Root_put_69 ?_
        exact r_iret (pc := 70) C d_Root_put_70 hf
      · exact r_lv (pc := 32) C [1] rfl (tb_Root_put_32 C hf)
  · refine r_iload (pc := 12) C 0 d_Root_put_12 rfl ?_
    exact r_iret (pc := 14) C d_Root_put_14 hf
theorem c_Root_put (Γ : GmT) {v1 : Int32} {v2 : Int32} {v3 : Int32} {D : Dt} {rr : Int32} {DD : Dt} (hf : f_Root_put v1 v2 v3 D = some (rr, DD)) : Mt Γ y_Root_put b_Root_put 6 (some .int) 4 [.ref (Γ.2.1 0), .int v1, .int v2, .int v3] D (some (.int rr)) DD := Mt_of (by decide) (Nat.le_of_ble_eq_true rfl) (fun G C => te_Root_put C hf)
def f_Root_fault (v1 : Int32) (D : Dt) : Option (Int32 × Dt) :=
  bnd (f_Root_refusedText v1 D) (fun x1 D2 => (if x1 = 0 then (if inb v1 4 = true then bnd (f_Bed_readStreet 20 (123 + 2 * v1.toNatClampNeg) D2) (fun x3 D4 => some (x3, D4)) else none) else some (x1, D2)))
set_option maxHeartbeats 4000000 in
theorem te_Root_fault {Γ : GmT} {G : Dt → Nat → List (Nat × Value) → List Value → Prop} {rr : Int32} {DD : Dt} (C : Cx Γ "RiverTuesdays" b_Root_fault 3 5 (some .int) (some (.int rr)) DD G) {v1 : Int32} {D : Dt} (hf : f_Root_fault v1 D = some (rr, DD)) : G D 0 [(0, .ref (Γ.2.1 0)), (1, .int v1)] [] := by
  unfold f_Root_fault at hf
  refine r_aload_n (pc := 0) C 0 d_Root_fault_0 rfl rfl ?_
  refine r_iload_n (pc := 1) C 1 d_Root_fault_1 rfl rfl ?_
  refine r_callVi (pc := 2) (As := [.int v1]) (rest := []) C ok_Root_refusedText Lm_Root_131 k_id0 (by decide) ⟨by decide, by decide⟩ rfl rfl (Nat.le_of_ble_eq_true rfl) d_Root_fault_2 hf (fun x D1 hc => c_Root_refusedText Γ hc) (fun x1 D2 hf => ?_)
  refine r_istore_n (pc := 5) (lv' := [(2, .int x1), (0, .ref (Γ.2.1 0)), (1, .int v1)]) C d_Root_fault_5 rfl (Nat.le_of_ble_eq_true rfl) rfl ?_
  refine r_iload_n (pc := 6) C 0 d_Root_fault_6 rfl rfl ?_
  refine r_if_eq (pc := 7) C (tgt := 14) d_Root_fault_7 (by decide) hf (fun c7 hf => ?_) (fun c7 hf => ?_)
  · refine r_aload_n (pc := 14) C 1 d_Root_fault_14 rfl rfl ?_
    refine g_Root_trialBed (pc := 15) C k_id0 Lf_Root_39 d_Root_fault_15 ?_
    refine r_aload_n (pc := 18) C 1 d_Root_fault_18 rfl rfl ?_
    refine g_Root_texts (pc := 19) C k_id0 Lf_Root_17 d_Root_fault_19 ?_
    refine r_iload_n (pc := 22) C 2 d_Root_fault_22 rfl rfl ?_
    refine r_aald15 (pc := 23) C kq_Root_texts d_Root_fault_23 hf (fun hn23 hf => ?_)
    refine r_callVi (pc := 24) (As := [.ref (Γ.2.1 (123 + 2 * v1.toNatClampNeg))]) (rest := []) C ok_Bed_readStreet Lm_Root_139 kq_Root_trialBed (by decide) ⟨by decide, by decide⟩ rfl rfl (Nat.le_of_ble_eq_true rfl) d_Root_fault_24 hf (fun x D1 hc => c_Bed_readStreet Γ kq_Root_trialBed (ke15 _ (inb_lt hn23)) hc) (fun x3 D4 hf => ?_)
    exact r_iret (pc := 27) C d_Root_fault_27 hf
  · refine r_iload_n (pc := 10) C 0 d_Root_fault_10 rfl rfl ?_
    refine r_goto (pc := 11) C (tgt := 27) d_Root_fault_11 (by decide) ?_
    exact r_iret (pc := 27) C d_Root_fault_27 hf
theorem c_Root_fault (Γ : GmT) {v1 : Int32} {D : Dt} {rr : Int32} {DD : Dt} (hf : f_Root_fault v1 D = some (rr, DD)) : Mt Γ y_Root_fault b_Root_fault 3 (some .int) 5 [.ref (Γ.2.1 0), .int v1] D (some (.int rr)) DD := Mt_of (by decide) (Nat.le_of_ble_eq_true rfl) (fun G C => te_Root_fault C hf)
def s_Root_street_46 (k46 : Int32 → Dt → Option (Int32 × Dt)) (v3 : Int32) (D : Dt) : Option (Int32 × Dt) :=
  (if 3 ≤ v3 then some (D (3 + 1) 5, D) else (if inb v3 3 = true then nm (wr D 19 v3.toNatClampNeg (vp_nar .boolean 0)) (fun D7 => k46 (v3 + 1) D7) else none))
def lp_Root_street_46 (n : Nat) : Int32 → Dt → Option (Int32 × Dt) := itr (fun _ _ => none) (s_Root_street_46) n
set_option maxHeartbeats 4000000 in
theorem ts_Root_street_46 {Γ : GmT} {G : Dt → Nat → List (Nat × Value) → List Value → Prop} {rr : Int32} {DD : Dt} (C : Cx Γ "RiverTuesdays" b_Root_street 4 5 (some .int) (some (.int rr)) DD G) {k46 : Int32 → Dt → Option (Int32 × Dt)} (hk46 : ∀ (v3 : Int32) (D : Dt), k46 v3 D = some (rr, DD) → G D 46 [(0, .ref (Γ.2.1 0)), (3, .int v3)] []) {v3 : Int32} {D : Dt} (hf : s_Root_street_46 k46 v3 D = some (rr, DD)) : G D 46 [(0, .ref (Γ.2.1 0)), (3, .int v3)] [] := by
  unfold s_Root_street_46 at hf
  refine r_iload_n (pc := 46) C 1 d_Root_street_46 rfl rfl ?_
  refine r_iconst (pc := 47) C (v := 3) d_Root_street_47 (by decide) ?_
  refine r_icmp_ge (pc := 48) C (tgt := 64) d_Root_street_48 (by decide) hf (fun c48 hf => ?_) (fun c48 hf => ?_)
  · refine r_aload_n (pc := 64) C 0 d_Root_street_64 rfl rfl ?_
    refine g_Root_present (pc := 65) C k_id0 Lf_Root_24 d_Root_street_65 ?_
    refine g_Street_bed (pc := 68) C kq_Root_present Lf_Root_146 d_Root_street_68 ?_
    refine g_Bed_houses (pc := 71) C (kq_Street_bed kq_Root_present) Lf_Root_149 d_Root_street_71 ?_
    exact r_iret (pc := 74) C d_Root_street_74 hf
  · refine r_aload_n (pc := 51) C 0 d_Root_street_51 rfl rfl ?_
    refine g_Root_isKept (pc := 52) C k_id0 Lf_Root_32 d_Root_street_52 ?_
    refine r_iload_n (pc := 55) C 1 d_Root_street_55 rfl rfl ?_
    refine r_iconst (pc := 56) C (v := 0) d_Root_street_56 (by decide) ?_
    refine r_zast (pc := 57) C kq_Root_isKept d_Root_street_57 hf (fun hf => ?_)
    refine r_nmD hf (fun D7 hf => ?_)
    refine r_iinc (pc := 58) C (v := v3 + 1) (lv' := [(3, .int (v3 + 1)), (0, .ref (Γ.2.1 0))]) 1 d_Root_street_58 rfl rfl (Nat.le_of_ble_eq_true rfl) rfl ?_
    refine r_goto (pc := 61) C (tgt := 46) d_Root_street_61 (by decide) ?_
    exact r_lv (pc := 46) C [1, 0] rfl (hk46 (v3 + 1) D7 hf)
theorem tl_Root_street_46 {Γ : GmT} {G : Dt → Nat → List (Nat × Value) → List Value → Prop} {rr : Int32} {DD : Dt} (C : Cx Γ "RiverTuesdays" b_Root_street 4 5 (some .int) (some (.int rr)) DD G) : ∀ (n : Nat) (v3 : Int32) (D : Dt), lp_Root_street_46 n v3 D = some (rr, DD) → G D 46 [(0, .ref (Γ.2.1 0)), (3, .int v3)] [] := by
  intro n
  induction n with
  | zero =>
    intro v3 D hf
    exact absurd (show (none : Option (Int32 × Dt)) = some (rr, DD) from hf) (by simp)
  | succ n ih =>
    intro v3 D hf
    exact ts_Root_street_46 C (k46 := lp_Root_street_46 n) ih hf
def f_Root_street (v1 : Int32) (D : Dt) : Option (Int32 × Dt) :=
  bnd (f_Root_refusedText v1 D) (fun x1 D2 => (if x1 = 0 then (if inb v1 4 = true then bnd (f_Bed_readStreet 20 (123 + 2 * v1.toNatClampNeg) D2) (fun x3 D4 => (if x3 = (-9) then bnd (f_Street_begin 3 20 D4) (fun x5 D6 => lp_Root_street_46 FU 0 D6) else some ((-4), D4))) else none) else some (x1, D2)))
set_option maxHeartbeats 4000000 in
theorem te_Root_street {Γ : GmT} {G : Dt → Nat → List (Nat × Value) → List Value → Prop} {rr : Int32} {DD : Dt} (C : Cx Γ "RiverTuesdays" b_Root_street 4 5 (some .int) (some (.int rr)) DD G) {v1 : Int32} {D : Dt} (hf : f_Root_street v1 D = some (rr, DD)) : G D 0 [(0, .ref (Γ.2.1 0)), (1, .int v1)] [] := by
  unfold f_Root_street at hf
  refine r_aload_n (pc := 0) C 0 d_Root_street_0 rfl rfl ?_
  refine r_iload_n (pc := 1) C 1 d_Root_street_1 rfl rfl ?_
  refine r_callVi (pc := 2) (As := [.int v1]) (rest := []) C ok_Root_refusedText Lm_Root_131 k_id0 (by decide) ⟨by decide, by decide⟩ rfl rfl (Nat.le_of_ble_eq_true rfl) d_Root_street_2 hf (fun x D1 hc => c_Root_refusedText Γ hc) (fun x1 D2 hf => ?_)
  refine r_istore_n (pc := 5) (lv' := [(2, .int x1), (0, .ref (Γ.2.1 0)), (1, .int v1)]) C d_Root_street_5 rfl (Nat.le_of_ble_eq_true rfl) rfl ?_
  refine r_iload_n (pc := 6) C 0 d_Root_street_6 rfl rfl ?_
  refine r_if_eq (pc := 7) C (tgt := 12) d_Root_street_7 (by decide) hf (fun c7 hf => ?_) (fun c7 hf => ?_)
  · refine r_aload_n (pc := 12) C 1 d_Root_street_12 rfl rfl ?_
    refine g_Root_trialBed (pc := 13) C k_id0 Lf_Root_39 d_Root_street_13 ?_
    refine r_aload_n (pc := 16) C 1 d_Root_street_16 rfl rfl ?_
    refine g_Root_texts (pc := 17) C k_id0 Lf_Root_17 d_Root_street_17 ?_
    refine r_iload_n (pc := 20) C 2 d_Root_street_20 rfl rfl ?_
    refine r_aald15 (pc := 21) C kq_Root_texts d_Root_street_21 hf (fun hn21 hf => ?_)
    refine r_callVi (pc := 22) (As := [.ref (Γ.2.1 (123 + 2 * v1.toNatClampNeg))]) (rest := []) C ok_Bed_readStreet Lm_Root_139 kq_Root_trialBed (by decide) ⟨by decide, by decide⟩ rfl rfl (Nat.le_of_ble_eq_true rfl) d_Root_street_22 hf (fun x D1 hc => c_Bed_readStreet Γ kq_Root_trialBed (ke15 _ (inb_lt hn21)) hc) (fun x3 D4 hf => ?_)
    refine r_bipush (pc := 25) C (v := (-9)) d_Root_street_25 (by decide) ?_
    refine r_icmp_eq (pc := 27) C (tgt := 33) d_Root_street_27 (by decide) hf (fun c27 hf => ?_) (fun c27 hf => ?_)
    · refine r_aload_n (pc := 33) C 1 d_Root_street_33 rfl rfl ?_
      refine g_Root_present (pc := 34) C k_id0 Lf_Root_24 d_Root_street_34 ?_
      refine r_aload_n (pc := 37) C 1 d_Root_street_37 rfl rfl ?_
      refine g_Root_trialBed (pc := 38) C k_id0 Lf_Root_39 d_Root_street_38 ?_
      refine r_callVv (pc := 41) (As := [.ref (Γ.2.1 20)]) (rest := []) C ok_Street_begin Lm_Root_143 kq_Root_present (by decide) ⟨by decide, by decide⟩ rfl rfl (Nat.le_of_ble_eq_true rfl) d_Root_street_41 hf (fun x D1 hc => c_Street_begin Γ kq_Root_present kq_Root_trialBed hc) (fun x5 D6 hf => ?_)
      refine r_iconst (pc := 44) C (v := 0) d_Root_street_44 (by decide) ?_
      refine r_istore_n (pc := 45) (lv' := [(3, .int 0), (2, .int x1), (0, .ref (Γ.2.1 0)), (1, .int v1)]) C d_Root_street_45 rfl (Nat.le_of_ble_eq_true rfl) rfl ?_
      exact r_lv (pc := 46) C [2, 0] rfl (tl_Root_street_46 C FU 0 D6 hf)
    · refine r_bipush (pc := 30) C (v := (-4)) d_Root_street_30 (by decide) ?_
      exact r_iret (pc := 32) C d_Root_street_32 hf
  · refine r_iload_n (pc := 10) C 0 d_Root_street_10 rfl rfl ?_
    exact r_iret (pc := 11) C d_Root_street_11 hf
theorem c_Root_street (Γ : GmT) {v1 : Int32} {D : Dt} {rr : Int32} {DD : Dt} (hf : f_Root_street v1 D = some (rr, DD)) : Mt Γ y_Root_street b_Root_street 4 (some .int) 5 [.ref (Γ.2.1 0), .int v1] D (some (.int rr)) DD := Mt_of (by decide) (Nat.le_of_ble_eq_true rfl) (fun G C => te_Root_street C hf)
def f_Root_house (v1 : Int32) (v2 : Int32) (D : Dt) : Option (Int32 × Dt) :=
  bnd (f_Bed_hasHouse (3 + 1) v1 D) (fun x1 D2 => (if x1 = 0 then some ((-1), D2) else bnd (f_Root_isWithin v2 0 6 D2) (fun x3 D4 => (if x3 = 0 then some ((-1), D4) else bnd (f_Street_ofHouse 3 v1 v2 D4) (fun x5 D6 => bnd (f_Root_tell x5 1 D6) (fun x7 D8 => some (x7, D8)))))))
set_option maxHeartbeats 4000000 in
theorem te_Root_house {Γ : GmT} {G : Dt → Nat → List (Nat × Value) → List Value → Prop} {rr : Int32} {DD : Dt} (C : Cx Γ "RiverTuesdays" b_Root_house 3 2 (some .int) (some (.int rr)) DD G) {v1 : Int32} {v2 : Int32} {D : Dt} (hf : f_Root_house v1 v2 D = some (rr, DD)) : G D 0 [(0, .ref (Γ.2.1 0)), (1, .int v1), (2, .int v2)] [] := by
  unfold f_Root_house at hf
  refine r_aload_n (pc := 0) C 0 d_Root_house_0 rfl rfl ?_
  refine g_Root_present (pc := 1) C k_id0 Lf_Root_24 d_Root_house_1 ?_
  refine g_Street_bed (pc := 4) C kq_Root_present Lf_Root_146 d_Root_house_4 ?_
  refine r_iload_n (pc := 7) C 1 d_Root_house_7 rfl rfl ?_
  refine r_callVi (pc := 8) (As := [.int v1]) (rest := []) C ok_Bed_hasHouse Lm_Root_152 (kq_Street_bed kq_Root_present) (by decide) ⟨by decide, by decide⟩ rfl rfl (Nat.le_of_ble_eq_true rfl) d_Root_house_8 hf (fun x D1 hc => c_Bed_hasHouse Γ (kq_Street_bed kq_Root_present) hc) (fun x1 D2 hf => ?_)
  refine r_if_eq (pc := 11) C (tgt := 24) d_Root_house_11 (by decide) hf (fun c11 hf => ?_) (fun c11 hf => ?_)
  · refine r_iconst (pc := 24) C (v := (-1)) d_Root_house_24 (by decide) ?_
    exact r_iret (pc := 25) C d_Root_house_25 hf
  · refine r_iload_n (pc := 14) C 2 d_Root_house_14 rfl rfl ?_
    refine r_iconst (pc := 15) C (v := 0) d_Root_house_15 (by decide) ?_
    refine r_bipush (pc := 16) C (v := 6) d_Root_house_16 (by decide) ?_
    refine r_callSi (pc := 18) (As := [.int v2, .int 0, .int 6]) (rest := []) C ok_Root_isWithin Lm_Root_155 ⟨by decide, by decide⟩ rfl rfl (Nat.le_of_ble_eq_true rfl) d_Root_house_18 hf (fun x D1 hc => c_Root_isWithin Γ hc) (fun x3 D4 hf => ?_)
    refine r_if_ne (pc := 21) C (tgt := 26) d_Root_house_21 (by decide) hf (fun c21 hf => ?_) (fun c21 hf => ?_)
    · refine r_aload_n (pc := 26) C 0 d_Root_house_26 rfl rfl ?_
      refine r_aload_n (pc := 27) C 0 d_Root_house_27 rfl rfl ?_
      refine g_Root_present (pc := 28) C k_id0 Lf_Root_24 d_Root_house_28 ?_
      refine r_iload_n (pc := 31) C 1 d_Root_house_31 rfl rfl ?_
      refine r_iload_n (pc := 32) C 2 d_Root_house_32 rfl rfl ?_
      refine r_callVi (pc := 33) (As := [.int v1, .int v2]) (rest := [.ref (Γ.2.1 0)]) C ok_Street_ofHouse Lm_Root_159 kq_Root_present (by decide) ⟨by decide, by decide⟩ rfl rfl (Nat.le_of_ble_eq_true rfl) d_Root_house_33 hf (fun x D1 hc => c_Street_ofHouse Γ kq_Root_present hc) (fun x5 D6 hf => ?_)
      refine r_iconst (pc := 36) C (v := 1) d_Root_house_36 (by decide) ?_
      refine r_callVi (pc := 37) (As := [.int x5, .int 1]) (rest := []) C ok_Root_tell Lm_Root_99 k_id0 (by decide) ⟨by decide, by decide⟩ rfl rfl (Nat.le_of_ble_eq_true rfl) d_Root_house_37 hf (fun x D1 hc => c_Root_tell Γ hc) (fun x7 D8 hf => ?_)
      exact r_iret (pc := 40) C d_Root_house_40 hf
    · refine r_iconst (pc := 24) C (v := (-1)) d_Root_house_24 (by decide) ?_
      exact r_iret (pc := 25) C d_Root_house_25 hf
theorem c_Root_house (Γ : GmT) {v1 : Int32} {v2 : Int32} {D : Dt} {rr : Int32} {DD : Dt} (hf : f_Root_house v1 v2 D = some (rr, DD)) : Mt Γ y_Root_house b_Root_house 3 (some .int) 2 [.ref (Γ.2.1 0), .int v1, .int v2] D (some (.int rr)) DD := Mt_of (by decide) (Nat.le_of_ble_eq_true rfl) (fun G C => te_Root_house C hf)
def f_Root_wouldRunOn (v1 : Int32) (D : Dt) : Option (Int32 × Dt) :=
  bnd (f_Waters_takeFrom 26 (3 + 7) D) (fun x1 D2 => bnd (f_Waters_pass 26 (3 + 1) 1 D2) (fun x3 D4 => (if inb v1 8 = true then some (D4 (26 + 4) v1.toNatClampNeg, D4) else none)))
set_option maxHeartbeats 4000000 in
theorem te_Root_wouldRunOn {Γ : GmT} {G : Dt → Nat → List (Nat × Value) → List Value → Prop} {rr : Int32} {DD : Dt} (C : Cx Γ "RiverTuesdays" b_Root_wouldRunOn 2 4 (some .int) (some (.int rr)) DD G) {v1 : Int32} {D : Dt} (hf : f_Root_wouldRunOn v1 D = some (rr, DD)) : G D 0 [(0, .ref (Γ.2.1 0)), (1, .int v1)] [] := by
  unfold f_Root_wouldRunOn at hf
  refine r_aload_n (pc := 0) C 0 d_Root_wouldRunOn_0 rfl rfl ?_
  refine g_Root_trialWaters (pc := 1) C k_id0 Lf_Root_46 d_Root_wouldRunOn_1 ?_
  refine r_aload_n (pc := 4) C 0 d_Root_wouldRunOn_4 rfl rfl ?_
  refine g_Root_present (pc := 5) C k_id0 Lf_Root_24 d_Root_wouldRunOn_5 ?_
  refine g_Street_now (pc := 8) C kq_Root_present Lf_Root_168 d_Root_wouldRunOn_8 ?_
  refine r_callVv (pc := 11) (As := [.ref (Γ.2.1 (3 + 7))]) (rest := []) C ok_Waters_takeFrom Lm_Root_380 kq_Root_trialWaters (by decide) ⟨by decide, by decide⟩ rfl rfl (Nat.le_of_ble_eq_true rfl) d_Root_wouldRunOn_11 hf (fun x D1 hc => c_Waters_takeFrom Γ kq_Root_trialWaters (kq_Street_now kq_Root_present) hc) (fun x1 D2 hf => ?_)
  refine r_aload_n (pc := 14) C 0 d_Root_wouldRunOn_14 rfl rfl ?_
  refine g_Root_trialWaters (pc := 15) C k_id0 Lf_Root_46 d_Root_wouldRunOn_15 ?_
  refine r_aload_n (pc := 18) C 0 d_Root_wouldRunOn_18 rfl rfl ?_
  refine g_Root_present (pc := 19) C k_id0 Lf_Root_24 d_Root_wouldRunOn_19 ?_
  refine g_Street_bed (pc := 22) C kq_Root_present Lf_Root_146 d_Root_wouldRunOn_22 ?_
  refine r_iconst (pc := 25) C (v := 1) d_Root_wouldRunOn_25 (by decide) ?_
  refine r_callVv (pc := 26) (As := [.ref (Γ.2.1 (3 + 1)), .int 1]) (rest := []) C ok_Waters_pass Lm_Root_426 kq_Root_trialWaters (by decide) ⟨by decide, by decide⟩ rfl rfl (Nat.le_of_ble_eq_true rfl) d_Root_wouldRunOn_26 hf (fun x D1 hc => c_Waters_pass Γ kq_Root_trialWaters (kq_Street_bed kq_Root_present) hc) (fun x3 D4 hf => ?_)
  refine r_aload_n (pc := 29) C 0 d_Root_wouldRunOn_29 rfl rfl ?_
  refine g_Root_trialWaters (pc := 30) C k_id0 Lf_Root_46 d_Root_wouldRunOn_30 ?_
  refine g_Waters_ran (pc := 33) C kq_Root_trialWaters Lf_Root_428 d_Root_wouldRunOn_33 ?_
  refine r_iload_n (pc := 36) C 1 d_Root_wouldRunOn_36 rfl rfl ?_
  refine r_iald (pc := 37) C (kq_Waters_ran kq_Root_trialWaters) d_Root_wouldRunOn_37 hf (fun hf => ?_)
  exact r_iret (pc := 38) C d_Root_wouldRunOn_38 hf
theorem c_Root_wouldRunOn (Γ : GmT) {v1 : Int32} {D : Dt} {rr : Int32} {DD : Dt} (hf : f_Root_wouldRunOn v1 D = some (rr, DD)) : Mt Γ y_Root_wouldRunOn b_Root_wouldRunOn 2 (some .int) 4 [.ref (Γ.2.1 0), .int v1] D (some (.int rr)) DD := Mt_of (by decide) (Nat.le_of_ble_eq_true rfl) (fun G C => te_Root_wouldRunOn C hf)
def f_Root_mark (v1 : Int32) (v2 : Int32) (D : Dt) : Option (Int32 × Dt) :=
  bnd (f_Bed_hasHouse (3 + 1) v1 D) (fun x1 D2 => (if x1 = 0 then some ((-1), D2) else bnd (f_Root_isWithin v2 1 5 D2) (fun x3 D4 => (if x3 = 0 then some ((-1), D4) else bnd (f_Bed_isOfKind (3 + 1) v1 v2 D4) (fun x5 D6 => (if x5 = 0 then bnd (f_Root_find 3 D6) (fun x15 D16 => some (x15, D16)) else (if v2 = 2 then (if inb v1 8 = true then (if inb v1 8 = true then some ((D6 ((3 + 1) + 4) v1.toNatClampNeg) - (D6 ((3 + 7) + 2) v1.toNatClampNeg), D6) else none) else none) else (if v2 = 3 then bnd (f_Waters_drop (3 + 7) (3 + 1) v1 D6) (fun x7 D8 => some (x7, D8)) else (if v2 = 4 then bnd (f_Root_wouldRunOn v1 D6) (fun x9 D10 => bnd (f_Bed_grinds (3 + 1) v1 x9 D10) (fun x11 D12 => some (x11, D12))) else (if v2 = 5 then (if inb v1 8 = true then some (D6 ((3 + 1) + 5) v1.toNatClampNeg, D6) else none) else bnd (f_Root_wouldRunOn v1 D6) (fun x13 D14 => some (x13, D14))))))))))))
set_option maxHeartbeats 4000000 in
theorem te_Root_mark {Γ : GmT} {G : Dt → Nat → List (Nat × Value) → List Value → Prop} {rr : Int32} {DD : Dt} (C : Cx Γ "RiverTuesdays" b_Root_mark 3 5 (some .int) (some (.int rr)) DD G) {v1 : Int32} {v2 : Int32} {D : Dt} (hf : f_Root_mark v1 v2 D = some (rr, DD)) : G D 0 [(0, .ref (Γ.2.1 0)), (1, .int v1), (2, .int v2)] [] := by
  unfold f_Root_mark at hf
  refine r_aload_n (pc := 0) C 0 d_Root_mark_0 rfl rfl ?_
  refine g_Root_present (pc := 1) C k_id0 Lf_Root_24 d_Root_mark_1 ?_
  refine g_Street_bed (pc := 4) C kq_Root_present Lf_Root_146 d_Root_mark_4 ?_
  refine r_iload_n (pc := 7) C 1 d_Root_mark_7 rfl rfl ?_
  refine r_callVi (pc := 8) (As := [.int v1]) (rest := []) C ok_Bed_hasHouse Lm_Root_152 (kq_Street_bed kq_Root_present) (by decide) ⟨by decide, by decide⟩ rfl rfl (Nat.le_of_ble_eq_true rfl) d_Root_mark_8 hf (fun x D1 hc => c_Bed_hasHouse Γ (kq_Street_bed kq_Root_present) hc) (fun x1 D2 hf => ?_)
  refine r_if_eq (pc := 11) C (tgt := 23) d_Root_mark_11 (by decide) hf (fun c11 hf => ?_) (fun c11 hf => ?_)
  · refine r_iconst (pc := 23) C (v := (-1)) d_Root_mark_23 (by decide) ?_
    exact r_iret (pc := 24) C d_Root_mark_24 hf
  · refine r_iload_n (pc := 14) C 2 d_Root_mark_14 rfl rfl ?_
    refine r_iconst (pc := 15) C (v := 1) d_Root_mark_15 (by decide) ?_
    refine r_iconst (pc := 16) C (v := 5) d_Root_mark_16 (by decide) ?_
    refine r_callSi (pc := 17) (As := [.int v2, .int 1, .int 5]) (rest := []) C ok_Root_isWithin Lm_Root_155 ⟨by decide, by decide⟩ rfl rfl (Nat.le_of_ble_eq_true rfl) d_Root_mark_17 hf (fun x D1 hc => c_Root_isWithin Γ hc) (fun x3 D4 hf => ?_)
    refine r_if_ne (pc := 20) C (tgt := 25) d_Root_mark_20 (by decide) hf (fun c20 hf => ?_) (fun c20 hf => ?_)
    · refine r_aload_n (pc := 25) C 0 d_Root_mark_25 rfl rfl ?_
      refine g_Root_present (pc := 26) C k_id0 Lf_Root_24 d_Root_mark_26 ?_
      refine g_Street_bed (pc := 29) C kq_Root_present Lf_Root_146 d_Root_mark_29 ?_
      refine r_iload_n (pc := 32) C 1 d_Root_mark_32 rfl rfl ?_
      refine r_iload_n (pc := 33) C 2 d_Root_mark_33 rfl rfl ?_
      refine r_callVi (pc := 34) (As := [.int v1, .int v2]) (rest := []) C ok_Bed_isOfKind Lm_Root_162 (kq_Street_bed kq_Root_present) (by decide) ⟨by decide, by decide⟩ rfl rfl (Nat.le_of_ble_eq_true rfl) d_Root_mark_34 hf (fun x D1 hc => c_Bed_isOfKind Γ (kq_Street_bed kq_Root_present) hc) (fun x5 D6 hf => ?_)
      refine r_if_ne (pc := 37) C (tgt := 46) d_Root_mark_37 (by decide) hf (fun c37 hf => ?_) (fun c37 hf => ?_)
      · refine r_iload_n (pc := 46) C 2 d_Root_mark_46 rfl rfl ?_
        by_cases q47_0 : v2 = 2
        · rw [if_pos q47_0] at hf
          refine r_tsK (pc := 47) (tgt := 76) C q47_0 d_Root_mark_47 (by decide) (by decide) (off := 29) (by decide) (by decide) ?_
          refine r_aload_n (pc := 76) C 0 d_Root_mark_76 rfl rfl ?_
          refine g_Root_present (pc := 77) C k_id0 Lf_Root_24 d_Root_mark_77 ?_
          refine g_Street_bed (pc := 80) C kq_Root_present Lf_Root_146 d_Root_mark_80 ?_
          refine g_Bed_cellar (pc := 83) C (kq_Street_bed kq_Root_present) Lf_Root_165 d_Root_mark_83 ?_
          refine r_iload_n (pc := 86) C 1 d_Root_mark_86 rfl rfl ?_
          refine r_iald (pc := 87) C (kq_Bed_cellar (kq_Street_bed kq_Root_present)) d_Root_mark_87 hf (fun hf => ?_)
          refine r_aload_n (pc := 88) C 0 d_Root_mark_88 rfl rfl ?_
          refine g_Root_present (pc := 89) C k_id0 Lf_Root_24 d_Root_mark_89 ?_
          refine g_Street_now (pc := 92) C kq_Root_present Lf_Root_168 d_Root_mark_92 ?_
          refine g_Waters_below (pc := 95) C (kq_Street_now kq_Root_present) Lf_Root_171 d_Root_mark_95 ?_
          refine r_iload_n (pc := 98) C 1 d_Root_mark_98 rfl rfl ?_
          refine r_iald (pc := 99) C (kq_Waters_below (kq_Street_now kq_Root_present)) d_Root_mark_99 hf (fun hf => ?_)
          refine r_isub (pc := 100) C d_Root_mark_100 ?_
          exact r_iret (pc := 101) C d_Root_mark_101 hf
        rw [if_neg q47_0] at hf
        by_cases q47_1 : v2 = 3
        · rw [if_pos q47_1] at hf
          refine r_tsK (pc := 47) (tgt := 102) C q47_1 d_Root_mark_47 (by decide) (by decide) (off := 55) (by decide) (by decide) ?_
          refine r_aload_n (pc := 102) C 0 d_Root_mark_102 rfl rfl ?_
          refine g_Root_present (pc := 103) C k_id0 Lf_Root_24 d_Root_mark_103 ?_
          refine g_Street_now (pc := 106) C kq_Root_present Lf_Root_168 d_Root_mark_106 ?_
          refine r_aload_n (pc := 109) C 0 d_Root_mark_109 rfl rfl ?_
          refine g_Root_present (pc := 110) C k_id0 Lf_Root_24 d_Root_mark_110 ?_
          refine g_Street_bed (pc := 113) C kq_Root_present Lf_Root_146 d_Root_mark_113 ?_
          refine r_iload_n (pc := 116) C 1 d_Root_mark_116 rfl rfl ?_
          refine r_callVi (pc := 117) (As := [.ref (Γ.2.1 (3 + 1)), .int v1]) (rest := []) C ok_Waters_drop Lm_Root_174 (kq_Street_now kq_Root_present) (by decide) ⟨by decide, by decide⟩ rfl rfl (Nat.le_of_ble_eq_true rfl) d_Root_mark_117 hf (fun x D1 hc => c_Waters_drop Γ (kq_Street_now kq_Root_present) (kq_Street_bed kq_Root_present) hc) (fun x7 D8 hf => ?_)
          exact r_iret (pc := 120) C d_Root_mark_120 hf
        rw [if_neg q47_1] at hf
        by_cases q47_2 : v2 = 4
        · rw [if_pos q47_2] at hf
          refine r_tsK (pc := 47) (tgt := 134) C q47_2 d_Root_mark_47 (by decide) (by decide) (off := 87) (by decide) (by decide) ?_
          refine r_aload_n (pc := 134) C 0 d_Root_mark_134 rfl rfl ?_
          refine g_Root_present (pc := 135) C k_id0 Lf_Root_24 d_Root_mark_135 ?_
          refine g_Street_bed (pc := 138) C kq_Root_present Lf_Root_146 d_Root_mark_138 ?_
          refine r_iload_n (pc := 141) C 1 d_Root_mark_141 rfl rfl ?_
          refine r_aload_n (pc := 142) C 0 d_Root_mark_142 rfl rfl ?_
          refine r_iload_n (pc := 143) C 1 d_Root_mark_143 rfl rfl ?_
          refine r_callVi (pc := 144) (As := [.int v1]) (rest := [.int v1, .ref (Γ.2.1 (3 + 1))]) C ok_Root_wouldRunOn Lm_Root_181 k_id0 (by decide) ⟨by decide, by decide⟩ rfl rfl (Nat.le_of_ble_eq_true rfl) d_Root_mark_144 hf (fun x D1 hc => c_Root_wouldRunOn Γ hc) (fun x9 D10 hf => ?_)
          refine r_callVi (pc := 147) (As := [.int v1, .int x9]) (rest := []) C ok_Bed_grinds Lm_Root_184 (kq_Street_bed kq_Root_present) (by decide) ⟨by decide, by decide⟩ rfl rfl (Nat.le_of_ble_eq_true rfl) d_Root_mark_147 hf (fun x D1 hc => c_Bed_grinds Γ (kq_Street_bed kq_Root_present) hc) (fun x11 D12 hf => ?_)
          exact r_iret (pc := 150) C d_Root_mark_150 hf
        rw [if_neg q47_2] at hf
        by_cases q47_3 : v2 = 5
        · rw [if_pos q47_3] at hf
          refine r_tsK (pc := 47) (tgt := 121) C q47_3 d_Root_mark_47 (by decide) (by decide) (off := 74) (by decide) (by decide) ?_
          refine r_aload_n (pc := 121) C 0 d_Root_mark_121 rfl rfl ?_
          refine g_Root_present (pc := 122) C k_id0 Lf_Root_24 d_Root_mark_122 ?_
          refine g_Street_bed (pc := 125) C kq_Root_present Lf_Root_146 d_Root_mark_125 ?_
          refine g_Bed_shutBit (pc := 128) C (kq_Street_bed kq_Root_present) Lf_Root_178 d_Root_mark_128 ?_
          refine r_iload_n (pc := 131) C 1 d_Root_mark_131 rfl rfl ?_
          refine r_iald (pc := 132) C (kq_Bed_shutBit (kq_Street_bed kq_Root_present)) d_Root_mark_132 hf (fun hf => ?_)
          exact r_iret (pc := 133) C d_Root_mark_133 hf
        rw [if_neg q47_3] at hf
        refine r_tsD (pc := 47) (tgt := 151) C [2, 3, 4, 5] (by simp only [List.mem_cons, List.not_mem_nil, not_or, or_false]; exact ⟨q47_0, q47_1, q47_2, q47_3⟩) d_Root_mark_47 (by decide) (by decide) (by decide) ?_
        refine r_aload_n (pc := 151) C 0 d_Root_mark_151 rfl rfl ?_
        refine r_iload_n (pc := 152) C 1 d_Root_mark_152 rfl rfl ?_
        refine r_callVi (pc := 153) (As := [.int v1]) (rest := []) C ok_Root_wouldRunOn Lm_Root_181 k_id0 (by decide) ⟨by decide, by decide⟩ rfl rfl (Nat.le_of_ble_eq_true rfl) d_Root_mark_153 hf (fun x D1 hc => c_Root_wouldRunOn Γ hc) (fun x13 D14 hf => ?_)
        exact r_iret (pc := 156) C d_Root_mark_156 hf
      · refine r_aload_n (pc := 40) C 0 d_Root_mark_40 rfl rfl ?_
        refine r_iconst (pc := 41) C (v := 3) d_Root_mark_41 (by decide) ?_
        refine r_callVi (pc := 42) (As := [.int 3]) (rest := []) C ok_Root_find Lm_Root_84 k_id0 (by decide) ⟨by decide, by decide⟩ rfl rfl (Nat.le_of_ble_eq_true rfl) d_Root_mark_42 hf (fun x D1 hc => c_Root_find Γ hc) (fun x15 D16 hf => ?_)
        exact r_iret (pc := 45) C d_Root_mark_45 hf
    · refine r_iconst (pc := 23) C (v := (-1)) d_Root_mark_23 (by decide) ?_
      exact r_iret (pc := 24) C d_Root_mark_24 hf
theorem c_Root_mark (Γ : GmT) {v1 : Int32} {v2 : Int32} {D : Dt} {rr : Int32} {DD : Dt} (hf : f_Root_mark v1 v2 D = some (rr, DD)) : Mt Γ y_Root_mark b_Root_mark 3 (some .int) 5 [.ref (Γ.2.1 0), .int v1, .int v2] D (some (.int rr)) DD := Mt_of (by decide) (Nat.le_of_ble_eq_true rfl) (fun G C => te_Root_mark C hf)
def f_Root_sill (v1 : Int32) (v2 : Int32) (D : Dt) : Option (Int32 × Dt) :=
  bnd (f_Bed_hasHouse (3 + 1) v1 D) (fun x1 D2 => (if x1 = 0 then some ((-1), D2) else bnd (f_Root_isWithin v2 0 20 D2) (fun x3 D4 => (if x3 = 0 then some ((-1), D4) else (if inb v1 8 = true then nm (D4 ((3 + 1) + 3) v1.toNatClampNeg) (fun x5 => (if inb v1 8 = true then nm (wr D4 ((3 + 1) + 3) v1.toNatClampNeg v2) (fun D6 => some (x5, D6)) else none)) else none)))))
set_option maxHeartbeats 4000000 in
theorem te_Root_sill {Γ : GmT} {G : Dt → Nat → List (Nat × Value) → List Value → Prop} {rr : Int32} {DD : Dt} (C : Cx Γ "RiverTuesdays" b_Root_sill 4 2 (some .int) (some (.int rr)) DD G) {v1 : Int32} {v2 : Int32} {D : Dt} (hf : f_Root_sill v1 v2 D = some (rr, DD)) : G D 0 [(0, .ref (Γ.2.1 0)), (1, .int v1), (2, .int v2)] [] := by
  unfold f_Root_sill at hf
  refine r_aload_n (pc := 0) C 0 d_Root_sill_0 rfl rfl ?_
  refine g_Root_present (pc := 1) C k_id0 Lf_Root_24 d_Root_sill_1 ?_
  refine g_Street_bed (pc := 4) C kq_Root_present Lf_Root_146 d_Root_sill_4 ?_
  refine r_iload_n (pc := 7) C 1 d_Root_sill_7 rfl rfl ?_
  refine r_callVi (pc := 8) (As := [.int v1]) (rest := []) C ok_Bed_hasHouse Lm_Root_152 (kq_Street_bed kq_Root_present) (by decide) ⟨by decide, by decide⟩ rfl rfl (Nat.le_of_ble_eq_true rfl) d_Root_sill_8 hf (fun x D1 hc => c_Bed_hasHouse Γ (kq_Street_bed kq_Root_present) hc) (fun x1 D2 hf => ?_)
  refine r_if_eq (pc := 11) C (tgt := 24) d_Root_sill_11 (by decide) hf (fun c11 hf => ?_) (fun c11 hf => ?_)
  · refine r_iconst (pc := 24) C (v := (-1)) d_Root_sill_24 (by decide) ?_
    exact r_iret (pc := 25) C d_Root_sill_25 hf
  · refine r_iload_n (pc := 14) C 2 d_Root_sill_14 rfl rfl ?_
    refine r_iconst (pc := 15) C (v := 0) d_Root_sill_15 (by decide) ?_
    refine r_bipush (pc := 16) C (v := 20) d_Root_sill_16 (by decide) ?_
    refine r_callSi (pc := 18) (As := [.int v2, .int 0, .int 20]) (rest := []) C ok_Root_isWithin Lm_Root_155 ⟨by decide, by decide⟩ rfl rfl (Nat.le_of_ble_eq_true rfl) d_Root_sill_18 hf (fun x D1 hc => c_Root_isWithin Γ hc) (fun x3 D4 hf => ?_)
    refine r_if_ne (pc := 21) C (tgt := 26) d_Root_sill_21 (by decide) hf (fun c21 hf => ?_) (fun c21 hf => ?_)
    · refine r_aload_n (pc := 26) C 0 d_Root_sill_26 rfl rfl ?_
      refine g_Root_present (pc := 27) C k_id0 Lf_Root_24 d_Root_sill_27 ?_
      refine g_Street_bed (pc := 30) C kq_Root_present Lf_Root_146 d_Root_sill_30 ?_
      refine g_Bed_height (pc := 33) C (kq_Street_bed kq_Root_present) Lf_Root_187 d_Root_sill_33 ?_
      refine r_iload_n (pc := 36) C 1 d_Root_sill_36 rfl rfl ?_
      refine r_iald (pc := 37) C (kq_Bed_height (kq_Street_bed kq_Root_present)) d_Root_sill_37 hf (fun hf => ?_)
      refine r_nmi (pc := 38) hf (fun x5 hf => ?_)
      refine r_istore_n (pc := 38) (lv' := [(3, .int x5), (0, .ref (Γ.2.1 0)), (1, .int v1), (2, .int v2)]) C d_Root_sill_38 rfl (Nat.le_of_ble_eq_true rfl) rfl ?_
      refine r_aload_n (pc := 39) C 1 d_Root_sill_39 rfl rfl ?_
      refine g_Root_present (pc := 40) C k_id0 Lf_Root_24 d_Root_sill_40 ?_
      refine g_Street_bed (pc := 43) C kq_Root_present Lf_Root_146 d_Root_sill_43 ?_
      refine g_Bed_height (pc := 46) C (kq_Street_bed kq_Root_present) Lf_Root_187 d_Root_sill_46 ?_
      refine r_iload_n (pc := 49) C 2 d_Root_sill_49 rfl rfl ?_
      refine r_iload_n (pc := 50) C 3 d_Root_sill_50 rfl rfl ?_
      refine r_iast (pc := 51) C (kq_Bed_height (kq_Street_bed kq_Root_present)) d_Root_sill_51 hf (fun hf => ?_)
      refine r_nmD hf (fun D6 hf => ?_)
      refine r_iload_n (pc := 52) C 0 d_Root_sill_52 rfl rfl ?_
      exact r_iret (pc := 53) C d_Root_sill_53 hf
    · refine r_iconst (pc := 24) C (v := (-1)) d_Root_sill_24 (by decide) ?_
      exact r_iret (pc := 25) C d_Root_sill_25 hf
theorem c_Root_sill (Γ : GmT) {v1 : Int32} {v2 : Int32} {D : Dt} {rr : Int32} {DD : Dt} (hf : f_Root_sill v1 v2 D = some (rr, DD)) : Mt Γ y_Root_sill b_Root_sill 4 (some .int) 2 [.ref (Γ.2.1 0), .int v1, .int v2] D (some (.int rr)) DD := Mt_of (by decide) (Nat.le_of_ble_eq_true rfl) (fun G C => te_Root_sill C hf)
def f_Root_hasHouses (D : Dt) : Option (Int32 × Dt) :=
  (if (D (3 + 1) 5) ≤ 0 then some (0, D) else some (1, D))
set_option maxHeartbeats 4000000 in
theorem te_Root_hasHouses {Γ : GmT} {G : Dt → Nat → List (Nat × Value) → List Value → Prop} {rr : Int32} {DD : Dt} (C : Cx Γ "RiverTuesdays" b_Root_hasHouses 1 1 (some .boolean) (some (.int rr)) DD G) {D : Dt} (hf : f_Root_hasHouses D = some (rr, DD)) : G D 0 [(0, .ref (Γ.2.1 0))] [] := by
  unfold f_Root_hasHouses at hf
  refine r_aload_n (pc := 0) C 0 d_Root_hasHouses_0 rfl rfl ?_
  refine g_Root_present (pc := 1) C k_id0 Lf_Root_24 d_Root_hasHouses_1 ?_
  refine g_Street_bed (pc := 4) C kq_Root_present Lf_Root_146 d_Root_hasHouses_4 ?_
  refine g_Bed_houses (pc := 7) C (kq_Street_bed kq_Root_present) Lf_Root_149 d_Root_hasHouses_7 ?_
  refine r_if_le (pc := 10) C (tgt := 17) d_Root_hasHouses_10 (by decide) hf (fun c10 hf => ?_) (fun c10 hf => ?_)
  · refine r_iconst (pc := 17) C (v := 0) d_Root_hasHouses_17 (by decide) ?_
    exact r_zret (pc := 18) C d_Root_hasHouses_18 rfl hf
  · refine r_iconst (pc := 13) C (v := 1) d_Root_hasHouses_13 (by decide) ?_
    refine r_goto (pc := 14) C (tgt := 18) d_Root_hasHouses_14 (by decide) ?_
    exact r_zret (pc := 18) C d_Root_hasHouses_18 rfl hf
theorem c_Root_hasHouses (Γ : GmT) {D : Dt} {rr : Int32} {DD : Dt} (hf : f_Root_hasHouses D = some (rr, DD)) : Mt Γ y_Root_hasHouses b_Root_hasHouses 1 (some .boolean) 1 [.ref (Γ.2.1 0)] D (some (.int rr)) DD := Mt_of (by decide) (Nat.le_of_ble_eq_true rfl) (fun G C => te_Root_hasHouses C hf)
def f_Root_flow (v1 : Int32) (D : Dt) : Option (Int32 × Dt) :=
  bnd (f_Root_isWithin v1 1 9 D) (fun x1 D2 => (if x1 = 0 then some ((-1), D2) else bnd (f_Root_hasHouses D2) (fun x3 D4 => (if x3 = 0 then some ((-4), D4) else nm (wr D4 (3 + 1) 6 v1) (fun D5 => some (D4 (3 + 1) 6, D5))))))
set_option maxHeartbeats 4000000 in
theorem te_Root_flow {Γ : GmT} {G : Dt → Nat → List (Nat × Value) → List Value → Prop} {rr : Int32} {DD : Dt} (C : Cx Γ "RiverTuesdays" b_Root_flow 3 2 (some .int) (some (.int rr)) DD G) {v1 : Int32} {D : Dt} (hf : f_Root_flow v1 D = some (rr, DD)) : G D 0 [(0, .ref (Γ.2.1 0)), (1, .int v1)] [] := by
  unfold f_Root_flow at hf
  refine r_iload_n (pc := 0) C 1 d_Root_flow_0 rfl rfl ?_
  refine r_iconst (pc := 1) C (v := 1) d_Root_flow_1 (by decide) ?_
  refine r_bipush (pc := 2) C (v := 9) d_Root_flow_2 (by decide) ?_
  refine r_callSi (pc := 4) (As := [.int v1, .int 1, .int 9]) (rest := []) C ok_Root_isWithin Lm_Root_155 ⟨by decide, by decide⟩ rfl rfl (Nat.le_of_ble_eq_true rfl) d_Root_flow_4 hf (fun x D1 hc => c_Root_isWithin Γ hc) (fun x1 D2 hf => ?_)
  refine r_if_ne (pc := 7) C (tgt := 12) d_Root_flow_7 (by decide) hf (fun c7 hf => ?_) (fun c7 hf => ?_)
  · refine r_aload_n (pc := 12) C 0 d_Root_flow_12 rfl rfl ?_
    refine r_callVi (pc := 13) (As := []) (rest := []) C ok_Root_hasHouses Lm_Root_190 k_id0 (by decide) ⟨by decide, by decide⟩ rfl rfl (Nat.le_of_ble_eq_true rfl) d_Root_flow_13 hf (fun x D1 hc => c_Root_hasHouses Γ hc) (fun x3 D4 hf => ?_)
    refine r_if_ne (pc := 16) C (tgt := 22) d_Root_flow_16 (by decide) hf (fun c16 hf => ?_) (fun c16 hf => ?_)
    · refine r_aload_n (pc := 22) C 0 d_Root_flow_22 rfl rfl ?_
      refine g_Root_present (pc := 23) C k_id0 Lf_Root_24 d_Root_flow_23 ?_
      refine g_Street_bed (pc := 26) C kq_Root_present Lf_Root_146 d_Root_flow_26 ?_
      refine g_Bed_inflow (pc := 29) C (kq_Street_bed kq_Root_present) Lf_Root_193 d_Root_flow_29 ?_
      refine r_istore_n (pc := 32) (lv' := [(2, .int (D4 (3 + 1) 6)), (0, .ref (Γ.2.1 0)), (1, .int v1)]) C d_Root_flow_32 rfl (Nat.le_of_ble_eq_true rfl) rfl ?_
      refine r_aload_n (pc := 33) C 1 d_Root_flow_33 rfl rfl ?_
      refine g_Root_present (pc := 34) C k_id0 Lf_Root_24 d_Root_flow_34 ?_
      refine g_Street_bed (pc := 37) C kq_Root_present Lf_Root_146 d_Root_flow_37 ?_
      refine r_iload_n (pc := 40) C 2 d_Root_flow_40 rfl rfl ?_
      refine p_Bed_inflow (pc := 41) C (kq_Street_bed kq_Root_present) Lf_Root_193 d_Root_flow_41 ?_
      refine r_nmD hf (fun D5 hf => ?_)
      refine r_iload_n (pc := 44) C 0 d_Root_flow_44 rfl rfl ?_
      exact r_iret (pc := 45) C d_Root_flow_45 hf
    · refine r_bipush (pc := 19) C (v := (-4)) d_Root_flow_19 (by decide) ?_
      exact r_iret (pc := 21) C d_Root_flow_21 hf
  · refine r_iconst (pc := 10) C (v := (-1)) d_Root_flow_10 (by decide) ?_
    exact r_iret (pc := 11) C d_Root_flow_11 hf
theorem c_Root_flow (Γ : GmT) {v1 : Int32} {D : Dt} {rr : Int32} {DD : Dt} (hf : f_Root_flow v1 D = some (rr, DD)) : Mt Γ y_Root_flow b_Root_flow 3 (some .int) 2 [.ref (Γ.2.1 0), .int v1] D (some (.int rr)) DD := Mt_of (by decide) (Nat.le_of_ble_eq_true rfl) (fun G C => te_Root_flow C hf)
def f_Root_shut (v1 : Int32) (v2 : Int32) (D : Dt) : Option (Int32 × Dt) :=
  bnd (f_Bed_hasHouse (3 + 1) v1 D) (fun x1 D2 => (if x1 = 0 then some ((-1), D2) else bnd (f_Root_isWithin v2 0 1 D2) (fun x3 D4 => (if x3 = 0 then some ((-1), D4) else bnd (f_Bed_isOfKind (3 + 1) v1 5 D4) (fun x5 D6 => (if x5 = 0 then bnd (f_Root_find 3 D6) (fun x9 D10 => some (x9, D10)) else (if inb v1 8 = true then nm (D6 ((3 + 1) + 5) v1.toNatClampNeg) (fun x7 => (if inb v1 8 = true then nm (wr D6 ((3 + 1) + 5) v1.toNatClampNeg v2) (fun D8 => some (x7, D8)) else none)) else none)))))))
set_option maxHeartbeats 4000000 in
theorem te_Root_shut {Γ : GmT} {G : Dt → Nat → List (Nat × Value) → List Value → Prop} {rr : Int32} {DD : Dt} (C : Cx Γ "RiverTuesdays" b_Root_shut 4 2 (some .int) (some (.int rr)) DD G) {v1 : Int32} {v2 : Int32} {D : Dt} (hf : f_Root_shut v1 v2 D = some (rr, DD)) : G D 0 [(0, .ref (Γ.2.1 0)), (1, .int v1), (2, .int v2)] [] := by
  unfold f_Root_shut at hf
  refine r_aload_n (pc := 0) C 0 d_Root_shut_0 rfl rfl ?_
  refine g_Root_present (pc := 1) C k_id0 Lf_Root_24 d_Root_shut_1 ?_
  refine g_Street_bed (pc := 4) C kq_Root_present Lf_Root_146 d_Root_shut_4 ?_
  refine r_iload_n (pc := 7) C 1 d_Root_shut_7 rfl rfl ?_
  refine r_callVi (pc := 8) (As := [.int v1]) (rest := []) C ok_Bed_hasHouse Lm_Root_152 (kq_Street_bed kq_Root_present) (by decide) ⟨by decide, by decide⟩ rfl rfl (Nat.le_of_ble_eq_true rfl) d_Root_shut_8 hf (fun x D1 hc => c_Bed_hasHouse Γ (kq_Street_bed kq_Root_present) hc) (fun x1 D2 hf => ?_)
  refine r_if_eq (pc := 11) C (tgt := 23) d_Root_shut_11 (by decide) hf (fun c11 hf => ?_) (fun c11 hf => ?_)
  · refine r_iconst (pc := 23) C (v := (-1)) d_Root_shut_23 (by decide) ?_
    exact r_iret (pc := 24) C d_Root_shut_24 hf
  · refine r_iload_n (pc := 14) C 2 d_Root_shut_14 rfl rfl ?_
    refine r_iconst (pc := 15) C (v := 0) d_Root_shut_15 (by decide) ?_
    refine r_iconst (pc := 16) C (v := 1) d_Root_shut_16 (by decide) ?_
    refine r_callSi (pc := 17) (As := [.int v2, .int 0, .int 1]) (rest := []) C ok_Root_isWithin Lm_Root_155 ⟨by decide, by decide⟩ rfl rfl (Nat.le_of_ble_eq_true rfl) d_Root_shut_17 hf (fun x D1 hc => c_Root_isWithin Γ hc) (fun x3 D4 hf => ?_)
    refine r_if_ne (pc := 20) C (tgt := 25) d_Root_shut_20 (by decide) hf (fun c20 hf => ?_) (fun c20 hf => ?_)
    · refine r_aload_n (pc := 25) C 0 d_Root_shut_25 rfl rfl ?_
      refine g_Root_present (pc := 26) C k_id0 Lf_Root_24 d_Root_shut_26 ?_
      refine g_Street_bed (pc := 29) C kq_Root_present Lf_Root_146 d_Root_shut_29 ?_
      refine r_iload_n (pc := 32) C 1 d_Root_shut_32 rfl rfl ?_
      refine r_iconst (pc := 33) C (v := 5) d_Root_shut_33 (by decide) ?_
      refine r_callVi (pc := 34) (As := [.int v1, .int 5]) (rest := []) C ok_Bed_isOfKind Lm_Root_162 (kq_Street_bed kq_Root_present) (by decide) ⟨by decide, by decide⟩ rfl rfl (Nat.le_of_ble_eq_true rfl) d_Root_shut_34 hf (fun x D1 hc => c_Bed_isOfKind Γ (kq_Street_bed kq_Root_present) hc) (fun x5 D6 hf => ?_)
      refine r_if_ne (pc := 37) C (tgt := 46) d_Root_shut_37 (by decide) hf (fun c37 hf => ?_) (fun c37 hf => ?_)
      · refine r_aload_n (pc := 46) C 0 d_Root_shut_46 rfl rfl ?_
        refine g_Root_present (pc := 47) C k_id0 Lf_Root_24 d_Root_shut_47 ?_
        refine g_Street_bed (pc := 50) C kq_Root_present Lf_Root_146 d_Root_shut_50 ?_
        refine g_Bed_shutBit (pc := 53) C (kq_Street_bed kq_Root_present) Lf_Root_178 d_Root_shut_53 ?_
        refine r_iload_n (pc := 56) C 1 d_Root_shut_56 rfl rfl ?_
        refine r_iald (pc := 57) C (kq_Bed_shutBit (kq_Street_bed kq_Root_present)) d_Root_shut_57 hf (fun hf => ?_)
        refine r_nmi (pc := 58) hf (fun x7 hf => ?_)
        refine r_istore_n (pc := 58) (lv' := [(3, .int x7), (0, .ref (Γ.2.1 0)), (1, .int v1), (2, .int v2)]) C d_Root_shut_58 rfl (Nat.le_of_ble_eq_true rfl) rfl ?_
        refine r_aload_n (pc := 59) C 1 d_Root_shut_59 rfl rfl ?_
        refine g_Root_present (pc := 60) C k_id0 Lf_Root_24 d_Root_shut_60 ?_
        refine g_Street_bed (pc := 63) C kq_Root_present Lf_Root_146 d_Root_shut_63 ?_
        refine g_Bed_shutBit (pc := 66) C (kq_Street_bed kq_Root_present) Lf_Root_178 d_Root_shut_66 ?_
        refine r_iload_n (pc := 69) C 2 d_Root_shut_69 rfl rfl ?_
        refine r_iload_n (pc := 70) C 3 d_Root_shut_70 rfl rfl ?_
        refine r_iast (pc := 71) C (kq_Bed_shutBit (kq_Street_bed kq_Root_present)) d_Root_shut_71 hf (fun hf => ?_)
        refine r_nmD hf (fun D8 hf => ?_)
        refine r_iload_n (pc := 72) C 0 d_Root_shut_72 rfl rfl ?_
        exact r_iret (pc := 73) C d_Root_shut_73 hf
      · refine r_aload_n (pc := 40) C 0 d_Root_shut_40 rfl rfl ?_
        refine r_iconst (pc := 41) C (v := 3) d_Root_shut_41 (by decide) ?_
        refine r_callVi (pc := 42) (As := [.int 3]) (rest := []) C ok_Root_find Lm_Root_84 k_id0 (by decide) ⟨by decide, by decide⟩ rfl rfl (Nat.le_of_ble_eq_true rfl) d_Root_shut_42 hf (fun x D1 hc => c_Root_find Γ hc) (fun x9 D10 hf => ?_)
        exact r_iret (pc := 45) C d_Root_shut_45 hf
    · refine r_iconst (pc := 23) C (v := (-1)) d_Root_shut_23 (by decide) ?_
      exact r_iret (pc := 24) C d_Root_shut_24 hf
theorem c_Root_shut (Γ : GmT) {v1 : Int32} {v2 : Int32} {D : Dt} {rr : Int32} {DD : Dt} (hf : f_Root_shut v1 v2 D = some (rr, DD)) : Mt Γ y_Root_shut b_Root_shut 4 (some .int) 2 [.ref (Γ.2.1 0), .int v1, .int v2] D (some (.int rr)) DD := Mt_of (by decide) (Nat.le_of_ble_eq_true rfl) (fun G C => te_Root_shut C hf)
def f_Root_pump (v1 : Int32) (D : Dt) : Option (Int32 × Dt) :=
  bnd (f_Bed_hasHouse (3 + 1) v1 D) (fun x1 D2 => (if x1 = 0 then some ((-1), D2) else bnd (f_Waters_pumpOut (3 + 7) v1 D2) (fun x3 D4 => some (x3, D4))))
set_option maxHeartbeats 4000000 in
theorem te_Root_pump {Γ : GmT} {G : Dt → Nat → List (Nat × Value) → List Value → Prop} {rr : Int32} {DD : Dt} (C : Cx Γ "RiverTuesdays" b_Root_pump 2 2 (some .int) (some (.int rr)) DD G) {v1 : Int32} {D : Dt} (hf : f_Root_pump v1 D = some (rr, DD)) : G D 0 [(0, .ref (Γ.2.1 0)), (1, .int v1)] [] := by
  unfold f_Root_pump at hf
  refine r_aload_n (pc := 0) C 0 d_Root_pump_0 rfl rfl ?_
  refine g_Root_present (pc := 1) C k_id0 Lf_Root_24 d_Root_pump_1 ?_
  refine g_Street_bed (pc := 4) C kq_Root_present Lf_Root_146 d_Root_pump_4 ?_
  refine r_iload_n (pc := 7) C 1 d_Root_pump_7 rfl rfl ?_
  refine r_callVi (pc := 8) (As := [.int v1]) (rest := []) C ok_Bed_hasHouse Lm_Root_152 (kq_Street_bed kq_Root_present) (by decide) ⟨by decide, by decide⟩ rfl rfl (Nat.le_of_ble_eq_true rfl) d_Root_pump_8 hf (fun x D1 hc => c_Bed_hasHouse Γ (kq_Street_bed kq_Root_present) hc) (fun x1 D2 hf => ?_)
  refine r_if_eq (pc := 11) C (tgt := 28) d_Root_pump_11 (by decide) hf (fun c11 hf => ?_) (fun c11 hf => ?_)
  · refine r_iconst (pc := 28) C (v := (-1)) d_Root_pump_28 (by decide) ?_
    exact r_iret (pc := 29) C d_Root_pump_29 hf
  · refine r_aload_n (pc := 14) C 0 d_Root_pump_14 rfl rfl ?_
    refine g_Root_present (pc := 15) C k_id0 Lf_Root_24 d_Root_pump_15 ?_
    refine g_Street_now (pc := 18) C kq_Root_present Lf_Root_168 d_Root_pump_18 ?_
    refine r_iload_n (pc := 21) C 1 d_Root_pump_21 rfl rfl ?_
    refine r_callVi (pc := 22) (As := [.int v1]) (rest := []) C ok_Waters_pumpOut Lm_Root_196 (kq_Street_now kq_Root_present) (by decide) ⟨by decide, by decide⟩ rfl rfl (Nat.le_of_ble_eq_true rfl) d_Root_pump_22 hf (fun x D1 hc => c_Waters_pumpOut Γ (kq_Street_now kq_Root_present) hc) (fun x3 D4 hf => ?_)
    refine r_goto (pc := 25) C (tgt := 29) d_Root_pump_25 (by decide) ?_
    exact r_iret (pc := 29) C d_Root_pump_29 hf
theorem c_Root_pump (Γ : GmT) {v1 : Int32} {D : Dt} {rr : Int32} {DD : Dt} (hf : f_Root_pump v1 D = some (rr, DD)) : Mt Γ y_Root_pump b_Root_pump 2 (some .int) 2 [.ref (Γ.2.1 0), .int v1] D (some (.int rr)) DD := Mt_of (by decide) (Nat.le_of_ble_eq_true rfl) (fun G C => te_Root_pump C hf)
def f_Root_hour (v1 : Int32) (D : Dt) : Option (Int32 × Dt) :=
  bnd (f_Root_isWithin v1 0 1 D) (fun x1 D2 => (if x1 = 0 then some ((-1), D2) else bnd (f_Root_hasHouses D2) (fun x3 D4 => (if x3 = 0 then some ((-4), D4) else bnd (f_Street_hasRoomFor 3 1 D4) (fun x5 D6 => (if x5 = 0 then some ((-2), D6) else bnd (f_Street_pass 3 v1 D6) (fun x7 D8 => bnd (f_Waters_allAhead (3 + 7) D8) (fun x9 D10 => bnd (f_Root_tell ((D8 (3 + 7) 6) - (D6 (3 + 7) 6)) x9 D10) (fun x11 D12 => some (x11, D12))))))))))
set_option maxHeartbeats 4000000 in
theorem te_Root_hour {Γ : GmT} {G : Dt → Nat → List (Nat × Value) → List Value → Prop} {rr : Int32} {DD : Dt} (C : Cx Γ "RiverTuesdays" b_Root_hour 3 5 (some .int) (some (.int rr)) DD G) {v1 : Int32} {D : Dt} (hf : f_Root_hour v1 D = some (rr, DD)) : G D 0 [(0, .ref (Γ.2.1 0)), (1, .int v1)] [] := by
  unfold f_Root_hour at hf
  refine r_iload_n (pc := 0) C 1 d_Root_hour_0 rfl rfl ?_
  refine r_iconst (pc := 1) C (v := 0) d_Root_hour_1 (by decide) ?_
  refine r_iconst (pc := 2) C (v := 1) d_Root_hour_2 (by decide) ?_
  refine r_callSi (pc := 3) (As := [.int v1, .int 0, .int 1]) (rest := []) C ok_Root_isWithin Lm_Root_155 ⟨by decide, by decide⟩ rfl rfl (Nat.le_of_ble_eq_true rfl) d_Root_hour_3 hf (fun x D1 hc => c_Root_isWithin Γ hc) (fun x1 D2 hf => ?_)
  refine r_if_ne (pc := 6) C (tgt := 11) d_Root_hour_6 (by decide) hf (fun c6 hf => ?_) (fun c6 hf => ?_)
  · refine r_aload_n (pc := 11) C 0 d_Root_hour_11 rfl rfl ?_
    refine r_callVi (pc := 12) (As := []) (rest := []) C ok_Root_hasHouses Lm_Root_190 k_id0 (by decide) ⟨by decide, by decide⟩ rfl rfl (Nat.le_of_ble_eq_true rfl) d_Root_hour_12 hf (fun x D1 hc => c_Root_hasHouses Γ hc) (fun x3 D4 hf => ?_)
    refine r_if_ne (pc := 15) C (tgt := 21) d_Root_hour_15 (by decide) hf (fun c15 hf => ?_) (fun c15 hf => ?_)
    · refine r_aload_n (pc := 21) C 0 d_Root_hour_21 rfl rfl ?_
      refine g_Root_present (pc := 22) C k_id0 Lf_Root_24 d_Root_hour_22 ?_
      refine r_iconst (pc := 25) C (v := 1) d_Root_hour_25 (by decide) ?_
      refine r_callVi (pc := 26) (As := [.int 1]) (rest := []) C ok_Street_hasRoomFor Lm_Root_199 kq_Root_present (by decide) ⟨by decide, by decide⟩ rfl rfl (Nat.le_of_ble_eq_true rfl) d_Root_hour_26 hf (fun x D1 hc => c_Street_hasRoomFor Γ kq_Root_present hc) (fun x5 D6 hf => ?_)
      refine r_if_ne (pc := 29) C (tgt := 35) d_Root_hour_29 (by decide) hf (fun c29 hf => ?_) (fun c29 hf => ?_)
      · refine r_aload_n (pc := 35) C 0 d_Root_hour_35 rfl rfl ?_
        refine g_Root_present (pc := 36) C k_id0 Lf_Root_24 d_Root_hour_36 ?_
        refine g_Street_now (pc := 39) C kq_Root_present Lf_Root_168 d_Root_hour_39 ?_
        refine g_Waters_out (pc := 42) C (kq_Street_now kq_Root_present) Lf_Root_202 d_Root_hour_42 ?_
        refine r_istore_n (pc := 45) (lv' := [(2, .int (D6 (3 + 7) 6)), (0, .ref (Γ.2.1 0)), (1, .int v1)]) C d_Root_hour_45 rfl (Nat.le_of_ble_eq_true rfl) rfl ?_
        refine r_aload_n (pc := 46) C 1 d_Root_hour_46 rfl rfl ?_
        refine g_Root_present (pc := 47) C k_id0 Lf_Root_24 d_Root_hour_47 ?_
        refine r_iload_n (pc := 50) C 2 d_Root_hour_50 rfl rfl ?_
        refine r_callVv (pc := 51) (As := [.int v1]) (rest := []) C ok_Street_pass Lm_Root_205 kq_Root_present (by decide) ⟨by decide, by decide⟩ rfl rfl (Nat.le_of_ble_eq_true rfl) d_Root_hour_51 hf (fun x D1 hc => c_Street_pass Γ kq_Root_present hc) (fun x7 D8 hf => ?_)
        refine r_aload_n (pc := 54) C 1 d_Root_hour_54 rfl rfl ?_
        refine r_aload_n (pc := 55) C 1 d_Root_hour_55 rfl rfl ?_
        refine g_Root_present (pc := 56) C k_id0 Lf_Root_24 d_Root_hour_56 ?_
        refine g_Street_now (pc := 59) C kq_Root_present Lf_Root_168 d_Root_hour_59 ?_
        refine g_Waters_out (pc := 62) C (kq_Street_now kq_Root_present) Lf_Root_202 d_Root_hour_62 ?_
        refine r_iload_n (pc := 65) C 0 d_Root_hour_65 rfl rfl ?_
        refine r_isub (pc := 66) C d_Root_hour_66 ?_
        refine r_aload_n (pc := 67) C 1 d_Root_hour_67 rfl rfl ?_
        refine g_Root_present (pc := 68) C k_id0 Lf_Root_24 d_Root_hour_68 ?_
        refine g_Street_now (pc := 71) C kq_Root_present Lf_Root_168 d_Root_hour_71 ?_
        refine r_callVi (pc := 74) (As := []) (rest := [.int ((D8 (3 + 7) 6) - (D6 (3 + 7) 6)), .ref (Γ.2.1 0)]) C ok_Waters_allAhead Lm_Root_208 (kq_Street_now kq_Root_present) (by decide) ⟨by decide, by decide⟩ rfl rfl (Nat.le_of_ble_eq_true rfl) d_Root_hour_74 hf (fun x D1 hc => c_Waters_allAhead Γ (kq_Street_now kq_Root_present) hc) (fun x9 D10 hf => ?_)
        refine r_callVi (pc := 77) (As := [.int ((D8 (3 + 7) 6) - (D6 (3 + 7) 6)), .int x9]) (rest := []) C ok_Root_tell Lm_Root_99 k_id0 (by decide) ⟨by decide, by decide⟩ rfl rfl (Nat.le_of_ble_eq_true rfl) d_Root_hour_77 hf (fun x D1 hc => c_Root_tell Γ hc) (fun x11 D12 hf => ?_)
        exact r_iret (pc := 80) C d_Root_hour_80 hf
      · refine r_bipush (pc := 32) C (v := (-2)) d_Root_hour_32 (by decide) ?_
        exact r_iret (pc := 34) C d_Root_hour_34 hf
    · refine r_bipush (pc := 18) C (v := (-4)) d_Root_hour_18 (by decide) ?_
      exact r_iret (pc := 20) C d_Root_hour_20 hf
  · refine r_iconst (pc := 9) C (v := (-1)) d_Root_hour_9 (by decide) ?_
    exact r_iret (pc := 10) C d_Root_hour_10 hf
theorem c_Root_hour (Γ : GmT) {v1 : Int32} {D : Dt} {rr : Int32} {DD : Dt} (hf : f_Root_hour v1 D = some (rr, DD)) : Mt Γ y_Root_hour b_Root_hour 3 (some .int) 5 [.ref (Γ.2.1 0), .int v1] D (some (.int rr)) DD := Mt_of (by decide) (Nat.le_of_ble_eq_true rfl) (fun G C => te_Root_hour C hf)
def f_Root_undo (v1 : Int32) (D : Dt) : Option (Int32 × Dt) :=
  bnd (f_Root_isWithin v1 0 (D 3 4) D) (fun x1 D2 => (if x1 = 0 then some ((-1), D2) else bnd (f_Street_goBack 3 v1 D2) (fun x3 D4 => some (x3, D4))))
set_option maxHeartbeats 4000000 in
theorem te_Root_undo {Γ : GmT} {G : Dt → Nat → List (Nat × Value) → List Value → Prop} {rr : Int32} {DD : Dt} (C : Cx Γ "RiverTuesdays" b_Root_undo 2 4 (some .int) (some (.int rr)) DD G) {v1 : Int32} {D : Dt} (hf : f_Root_undo v1 D = some (rr, DD)) : G D 0 [(0, .ref (Γ.2.1 0)), (1, .int v1)] [] := by
  unfold f_Root_undo at hf
  refine r_iload_n (pc := 0) C 1 d_Root_undo_0 rfl rfl ?_
  refine r_iconst (pc := 1) C (v := 0) d_Root_undo_1 (by decide) ?_
  refine r_aload_n (pc := 2) C 0 d_Root_undo_2 rfl rfl ?_
  refine g_Root_present (pc := 3) C k_id0 Lf_Root_24 d_Root_undo_3 ?_
  refine g_Street_hours (pc := 6) C kq_Root_present Lf_Root_212 d_Root_undo_6 ?_
  refine r_callSi (pc := 9) (As := [.int v1, .int 0, .int (D 3 4)]) (rest := []) C ok_Root_isWithin Lm_Root_155 ⟨by decide, by decide⟩ rfl rfl (Nat.le_of_ble_eq_true rfl) d_Root_undo_9 hf (fun x D1 hc => c_Root_isWithin Γ hc) (fun x1 D2 hf => ?_)
  refine r_if_eq (pc := 12) C (tgt := 26) d_Root_undo_12 (by decide) hf (fun c12 hf => ?_) (fun c12 hf => ?_)
  · refine r_iconst (pc := 26) C (v := (-1)) d_Root_undo_26 (by decide) ?_
    exact r_iret (pc := 27) C d_Root_undo_27 hf
  · refine r_aload_n (pc := 15) C 0 d_Root_undo_15 rfl rfl ?_
    refine g_Root_present (pc := 16) C k_id0 Lf_Root_24 d_Root_undo_16 ?_
    refine r_iload_n (pc := 19) C 1 d_Root_undo_19 rfl rfl ?_
    refine r_callVi (pc := 20) (As := [.int v1]) (rest := []) C ok_Street_goBack Lm_Root_215 kq_Root_present (by decide) ⟨by decide, by decide⟩ rfl rfl (Nat.le_of_ble_eq_true rfl) d_Root_undo_20 hf (fun x D1 hc => c_Street_goBack Γ kq_Root_present hc) (fun x3 D4 hf => ?_)
    refine r_goto (pc := 23) C (tgt := 27) d_Root_undo_23 (by decide) ?_
    exact r_iret (pc := 27) C d_Root_undo_27 hf
theorem c_Root_undo (Γ : GmT) {v1 : Int32} {D : Dt} {rr : Int32} {DD : Dt} (hf : f_Root_undo v1 D = some (rr, DD)) : Mt Γ y_Root_undo b_Root_undo 2 (some .int) 4 [.ref (Γ.2.1 0), .int v1] D (some (.int rr)) DD := Mt_of (by decide) (Nat.le_of_ble_eq_true rfl) (fun G C => te_Root_undo C hf)
def f_Root_water (D : Dt) : Option (Int32 × Dt) :=
  bnd (f_Root_tell (D (3 + 7) 6) (D (3 + 7) 5) D) (fun x1 D2 => some (x1, D2))
set_option maxHeartbeats 4000000 in
theorem te_Root_water {Γ : GmT} {G : Dt → Nat → List (Nat × Value) → List Value → Prop} {rr : Int32} {DD : Dt} (C : Cx Γ "RiverTuesdays" b_Root_water 1 2 (some .int) (some (.int rr)) DD G) {D : Dt} (hf : f_Root_water D = some (rr, DD)) : G D 0 [(0, .ref (Γ.2.1 0))] [] := by
  unfold f_Root_water at hf
  refine r_aload_n (pc := 0) C 0 d_Root_water_0 rfl rfl ?_
  refine r_aload_n (pc := 1) C 0 d_Root_water_1 rfl rfl ?_
  refine g_Root_present (pc := 2) C k_id0 Lf_Root_24 d_Root_water_2 ?_
  refine g_Street_now (pc := 5) C kq_Root_present Lf_Root_168 d_Root_water_5 ?_
  refine g_Waters_out (pc := 8) C (kq_Street_now kq_Root_present) Lf_Root_202 d_Root_water_8 ?_
  refine r_aload_n (pc := 11) C 0 d_Root_water_11 rfl rfl ?_
  refine g_Root_present (pc := 12) C k_id0 Lf_Root_24 d_Root_water_12 ?_
  refine g_Street_now (pc := 15) C kq_Root_present Lf_Root_168 d_Root_water_15 ?_
  refine g_Waters_in (pc := 18) C (kq_Street_now kq_Root_present) Lf_Root_218 d_Root_water_18 ?_
  refine r_callVi (pc := 21) (As := [.int (D (3 + 7) 6), .int (D (3 + 7) 5)]) (rest := []) C ok_Root_tell Lm_Root_99 k_id0 (by decide) ⟨by decide, by decide⟩ rfl rfl (Nat.le_of_ble_eq_true rfl) d_Root_water_21 hf (fun x D1 hc => c_Root_tell Γ hc) (fun x1 D2 hf => ?_)
  exact r_iret (pc := 24) C d_Root_water_24 hf
theorem c_Root_water (Γ : GmT) {D : Dt} {rr : Int32} {DD : Dt} (hf : f_Root_water D = some (rr, DD)) : Mt Γ y_Root_water b_Root_water 1 (some .int) 2 [.ref (Γ.2.1 0)] D (some (.int rr)) DD := Mt_of (by decide) (Nat.le_of_ble_eq_true rfl) (fun G C => te_Root_water C hf)
def f_Root_keep (v1 : Int32) (D : Dt) : Option (Int32 × Dt) :=
  bnd (f_Root_isWithin v1 0 2 D) (fun x1 D2 => (if x1 = 0 then some ((-1), D2) else bnd (f_Root_hasHouses D2) (fun x3 D4 => (if x3 = 0 then some ((-4), D4) else (if inb v1 3 = true then bnd (f_Street_takeFrom (131 + 15 * v1.toNatClampNeg) 3 D4) (fun x5 D6 => (if inb v1 3 = true then nm (wr D6 19 v1.toNatClampNeg (vp_nar .boolean 1)) (fun D7 => some (D7 3 4, D7)) else none)) else none)))))
set_option maxHeartbeats 4000000 in
theorem te_Root_keep {Γ : GmT} {G : Dt → Nat → List (Nat × Value) → List Value → Prop} {rr : Int32} {DD : Dt} (C : Cx Γ "RiverTuesdays" b_Root_keep 2 4 (some .int) (some (.int rr)) DD G) {v1 : Int32} {D : Dt} (hf : f_Root_keep v1 D = some (rr, DD)) : G D 0 [(0, .ref (Γ.2.1 0)), (1, .int v1)] [] := by
  unfold f_Root_keep at hf
  refine r_iload_n (pc := 0) C 1 d_Root_keep_0 rfl rfl ?_
  refine r_iconst (pc := 1) C (v := 0) d_Root_keep_1 (by decide) ?_
  refine r_iconst (pc := 2) C (v := 2) d_Root_keep_2 (by decide) ?_
  refine r_callSi (pc := 3) (As := [.int v1, .int 0, .int 2]) (rest := []) C ok_Root_isWithin Lm_Root_155 ⟨by decide, by decide⟩ rfl rfl (Nat.le_of_ble_eq_true rfl) d_Root_keep_3 hf (fun x D1 hc => c_Root_isWithin Γ hc) (fun x1 D2 hf => ?_)
  refine r_if_ne (pc := 6) C (tgt := 11) d_Root_keep_6 (by decide) hf (fun c6 hf => ?_) (fun c6 hf => ?_)
  · refine r_aload_n (pc := 11) C 0 d_Root_keep_11 rfl rfl ?_
    refine r_callVi (pc := 12) (As := []) (rest := []) C ok_Root_hasHouses Lm_Root_190 k_id0 (by decide) ⟨by decide, by decide⟩ rfl rfl (Nat.le_of_ble_eq_true rfl) d_Root_keep_12 hf (fun x D1 hc => c_Root_hasHouses Γ hc) (fun x3 D4 hf => ?_)
    refine r_if_ne (pc := 15) C (tgt := 21) d_Root_keep_15 (by decide) hf (fun c15 hf => ?_) (fun c15 hf => ?_)
    · refine r_aload_n (pc := 21) C 0 d_Root_keep_21 rfl rfl ?_
      refine g_Root_kept (pc := 22) C k_id0 Lf_Root_28 d_Root_keep_22 ?_
      refine r_iload_n (pc := 25) C 1 d_Root_keep_25 rfl rfl ?_
      refine r_aald14 (pc := 26) C kq_Root_kept d_Root_keep_26 hf (fun hn26 hf => ?_)
      refine r_aload_n (pc := 27) C 0 d_Root_keep_27 rfl rfl ?_
      refine g_Root_present (pc := 28) C k_id0 Lf_Root_24 d_Root_keep_28 ?_
      refine r_callVv (pc := 31) (As := [.ref (Γ.2.1 3)]) (rest := []) C ok_Street_takeFrom Lm_Root_221 (ke14 _ (inb_lt hn26)) (by decide) ⟨by decide, by decide⟩ rfl rfl (Nat.le_of_ble_eq_true rfl) d_Root_keep_31 hf (fun x D1 hc => c_Street_takeFrom Γ (ke14 _ (inb_lt hn26)) kq_Root_present hc) (fun x5 D6 hf => ?_)
      refine r_aload_n (pc := 34) C 0 d_Root_keep_34 rfl rfl ?_
      refine g_Root_isKept (pc := 35) C k_id0 Lf_Root_32 d_Root_keep_35 ?_
      refine r_iload_n (pc := 38) C 1 d_Root_keep_38 rfl rfl ?_
      refine r_iconst (pc := 39) C (v := 1) d_Root_keep_39 (by decide) ?_
      refine r_zast (pc := 40) C kq_Root_isKept d_Root_keep_40 hf (fun hf => ?_)
      refine r_nmD hf (fun D7 hf => ?_)
      refine r_aload_n (pc := 41) C 0 d_Root_keep_41 rfl rfl ?_
      refine g_Root_present (pc := 42) C k_id0 Lf_Root_24 d_Root_keep_42 ?_
      refine g_Street_hours (pc := 45) C kq_Root_present Lf_Root_212 d_Root_keep_45 ?_
      exact r_iret (pc := 48) C d_Root_keep_48 hf
    · refine r_bipush (pc := 18) C (v := (-4)) d_Root_keep_18 (by decide) ?_
      exact r_iret (pc := 20) C d_Root_keep_20 hf
  · refine r_iconst (pc := 9) C (v := (-1)) d_Root_keep_9 (by decide) ?_
    exact r_iret (pc := 10) C d_Root_keep_10 hf
theorem c_Root_keep (Γ : GmT) {v1 : Int32} {D : Dt} {rr : Int32} {DD : Dt} (hf : f_Root_keep v1 D = some (rr, DD)) : Mt Γ y_Root_keep b_Root_keep 2 (some .int) 4 [.ref (Γ.2.1 0), .int v1] D (some (.int rr)) DD := Mt_of (by decide) (Nat.le_of_ble_eq_true rfl) (fun G C => te_Root_keep C hf)
def f_Root_on (v1 : Int32) (D : Dt) : Option (Int32 × Dt) :=
  bnd (f_Root_isWithin v1 0 2 D) (fun x1 D2 => (if x1 = 0 then some ((-1), D2) else (if inb v1 3 = true then (if (D2 19 v1.toNatClampNeg) = 0 then bnd (f_Root_find 1 D2) (fun x5 D6 => some (x5, D6)) else (if inb v1 3 = true then bnd (f_Street_takeFrom 3 (131 + 15 * v1.toNatClampNeg) D2) (fun x3 D4 => some (D4 3 4, D4)) else none)) else none)))
set_option maxHeartbeats 4000000 in
theorem te_Root_on {Γ : GmT} {G : Dt → Nat → List (Nat × Value) → List Value → Prop} {rr : Int32} {DD : Dt} (C : Cx Γ "RiverTuesdays" b_Root_on 2 4 (some .int) (some (.int rr)) DD G) {v1 : Int32} {D : Dt} (hf : f_Root_on v1 D = some (rr, DD)) : G D 0 [(0, .ref (Γ.2.1 0)), (1, .int v1)] [] := by
  unfold f_Root_on at hf
  refine r_iload_n (pc := 0) C 1 d_Root_on_0 rfl rfl ?_
  refine r_iconst (pc := 1) C (v := 0) d_Root_on_1 (by decide) ?_
  refine r_iconst (pc := 2) C (v := 2) d_Root_on_2 (by decide) ?_
  refine r_callSi (pc := 3) (As := [.int v1, .int 0, .int 2]) (rest := []) C ok_Root_isWithin Lm_Root_155 ⟨by decide, by decide⟩ rfl rfl (Nat.le_of_ble_eq_true rfl) d_Root_on_3 hf (fun x D1 hc => c_Root_isWithin Γ hc) (fun x1 D2 hf => ?_)
  refine r_if_ne (pc := 6) C (tgt := 11) d_Root_on_6 (by decide) hf (fun c6 hf => ?_) (fun c6 hf => ?_)
  · refine r_aload_n (pc := 11) C 0 d_Root_on_11 rfl rfl ?_
    refine g_Root_isKept (pc := 12) C k_id0 Lf_Root_32 d_Root_on_12 ?_
    refine r_iload_n (pc := 15) C 1 d_Root_on_15 rfl rfl ?_
    refine r_zald (pc := 16) C kq_Root_isKept d_Root_on_16 hf (fun hf => ?_)
    refine r_if_ne (pc := 17) C (tgt := 26) d_Root_on_17 (by decide) hf (fun c17 hf => ?_) (fun c17 hf => ?_)
    · refine r_aload_n (pc := 26) C 0 d_Root_on_26 rfl rfl ?_
      refine g_Root_present (pc := 27) C k_id0 Lf_Root_24 d_Root_on_27 ?_
      refine r_aload_n (pc := 30) C 0 d_Root_on_30 rfl rfl ?_
      refine g_Root_kept (pc := 31) C k_id0 Lf_Root_28 d_Root_on_31 ?_
      refine r_iload_n (pc := 34) C 1 d_Root_on_34 rfl rfl ?_
      refine r_aald14 (pc := 35) C kq_Root_kept d_Root_on_35 hf (fun hn35 hf => ?_)
      refine r_callVv (pc := 36) (As := [.ref (Γ.2.1 (131 + 15 * v1.toNatClampNeg))]) (rest := []) C ok_Street_takeFrom Lm_Root_221 kq_Root_present (by decide) ⟨by decide, by decide⟩ rfl rfl (Nat.le_of_ble_eq_true rfl) d_Root_on_36 hf (fun x D1 hc => c_Street_takeFrom Γ kq_Root_present (ke14 _ (inb_lt hn35)) hc) (fun x3 D4 hf => ?_)
      refine r_aload_n (pc := 39) C 0 d_Root_on_39 rfl rfl ?_
      refine g_Root_present (pc := 40) C k_id0 Lf_Root_24 d_Root_on_40 ?_
      refine g_Street_hours (pc := 43) C kq_Root_present Lf_Root_212 d_Root_on_43 ?_
      exact r_iret (pc := 46) C d_Root_on_46 hf
    · refine r_aload_n (pc := 20) C 0 d_Root_on_20 rfl rfl ?_
      refine r_iconst (pc := 21) C (v := 1) d_Root_on_21 (by decide) ?_
      refine r_callVi (pc := 22) (As := [.int 1]) (rest := []) C ok_Root_find Lm_Root_84 k_id0 (by decide) ⟨by decide, by decide⟩ rfl rfl (Nat.le_of_ble_eq_true rfl) d_Root_on_22 hf (fun x D1 hc => c_Root_find Γ hc) (fun x5 D6 hf => ?_)
      exact r_iret (pc := 25) C d_Root_on_25 hf
  · refine r_iconst (pc := 9) C (v := (-1)) d_Root_on_9 (by decide) ?_
    exact r_iret (pc := 10) C d_Root_on_10 hf
theorem c_Root_on (Γ : GmT) {v1 : Int32} {D : Dt} {rr : Int32} {DD : Dt} (hf : f_Root_on v1 D = some (rr, DD)) : Mt Γ y_Root_on b_Root_on 2 (some .int) 4 [.ref (Γ.2.1 0), .int v1] D (some (.int rr)) DD := Mt_of (by decide) (Nat.le_of_ble_eq_true rfl) (fun G C => te_Root_on C hf)
def f_Root_leadAside (v1 : Int32) (D : Dt) : Option (Unit × Dt) :=
  bnd (f_Tuesday_begin (3 + 7) D) (fun x1 D2 => bnd (f_Tuesday_lead (3 + 1) v1 D2) (fun x3 D4 => some ((), D4)))
set_option maxHeartbeats 4000000 in
theorem te_Root_leadAside {Γ : GmT} {G : Dt → Nat → List (Nat × Value) → List Value → Prop} {rr : Unit} {DD : Dt} (C : Cx Γ "RiverTuesdays" b_Root_leadAside 2 6 none none DD G) {v1 : Int32} {D : Dt} (hf : f_Root_leadAside v1 D = some (rr, DD)) : G D 0 [(0, .ref (Γ.2.1 0)), (1, .int v1)] [] := by
  unfold f_Root_leadAside at hf
  refine r_aload_n (pc := 0) C 0 d_Root_leadAside_0 rfl rfl ?_
  refine g_Root_today (pc := 1) C k_id0 Lf_Root_53 d_Root_leadAside_1 ?_
  refine r_aload_n (pc := 4) C 0 d_Root_leadAside_4 rfl rfl ?_
  refine g_Root_present (pc := 5) C k_id0 Lf_Root_24 d_Root_leadAside_5 ?_
  refine g_Street_now (pc := 8) C kq_Root_present Lf_Root_168 d_Root_leadAside_8 ?_
  refine r_callVv (pc := 11) (As := [.ref (Γ.2.1 (3 + 7))]) (rest := []) C ok_Tuesday_begin Lm_Root_291 kq_Root_today (by decide) ⟨by decide, by decide⟩ rfl rfl (Nat.le_of_ble_eq_true rfl) d_Root_leadAside_11 hf (fun x D1 hc => c_Tuesday_begin Γ (kq_Street_now kq_Root_present) hc) (fun x1 D2 hf => ?_)
  refine r_aload_n (pc := 14) C 0 d_Root_leadAside_14 rfl rfl ?_
  refine g_Root_today (pc := 15) C k_id0 Lf_Root_53 d_Root_leadAside_15 ?_
  refine r_aload_n (pc := 18) C 0 d_Root_leadAside_18 rfl rfl ?_
  refine g_Root_present (pc := 19) C k_id0 Lf_Root_24 d_Root_leadAside_19 ?_
  refine g_Street_bed (pc := 22) C kq_Root_present Lf_Root_146 d_Root_leadAside_22 ?_
  refine r_iload_n (pc := 25) C 1 d_Root_leadAside_25 rfl rfl ?_
  refine r_callVv (pc := 26) (As := [.ref (Γ.2.1 (3 + 1)), .int v1]) (rest := []) C ok_Tuesday_lead Lm_Root_297 kq_Root_today (by decide) ⟨by decide, by decide⟩ rfl rfl (Nat.le_of_ble_eq_true rfl) d_Root_leadAside_26 hf (fun x D1 hc => c_Tuesday_lead Γ (kq_Street_bed kq_Root_present) hc) (fun x3 D4 hf => ?_)
  exact r_vret (pc := 29) C d_Root_leadAside_29 hf
theorem c_Root_leadAside (Γ : GmT) {v1 : Int32} {D : Dt} {rr : Unit} {DD : Dt} (hf : f_Root_leadAside v1 D = some (rr, DD)) : Mt Γ y_Root_leadAside b_Root_leadAside 2 none 6 [.ref (Γ.2.1 0), .int v1] D none DD := Mt_of (by decide) (Nat.le_of_ble_eq_true rfl) (fun G C => te_Root_leadAside C hf)
def f_Root_isPlan (v0 : Int32) (D : Dt) : Option (Int32 × Dt) :=
  bnd (f_Root_isWithin v0 0 255 D) (fun x1 D2 => (if x1 = 0 ∨ x1 = 1 then some (x1, D2) else none))
set_option maxHeartbeats 4000000 in
theorem te_Root_isPlan {Γ : GmT} {G : Dt → Nat → List (Nat × Value) → List Value → Prop} {rr : Int32} {DD : Dt} (C : Cx Γ "RiverTuesdays" b_Root_isPlan 1 2 (some .boolean) (some (.int rr)) DD G) {v0 : Int32} {D : Dt} (hf : f_Root_isPlan v0 D = some (rr, DD)) : G D 0 [(0, .int v0)] [] := by
  unfold f_Root_isPlan at hf
  refine r_iload_n (pc := 0) C 0 d_Root_isPlan_0 rfl rfl ?_
  refine r_iconst (pc := 1) C (v := 0) d_Root_isPlan_1 (by decide) ?_
  refine r_sipush (pc := 2) C (v := 255) d_Root_isPlan_2 (by decide) ?_
  refine r_callSi (pc := 5) (As := [.int v0, .int 0, .int 255]) (rest := []) C ok_Root_isWithin Lm_Root_155 ⟨by decide, by decide⟩ rfl rfl (Nat.le_of_ble_eq_true rfl) d_Root_isPlan_5 hf (fun x D1 hc => c_Root_isWithin Γ hc) (fun x1 D2 hf => ?_)
  exact r_zretc (pc := 8) C d_Root_isPlan_8 hf
theorem c_Root_isPlan (Γ : GmT) {v0 : Int32} {D : Dt} {rr : Int32} {DD : Dt} (hf : f_Root_isPlan v0 D = some (rr, DD)) : Mt Γ y_Root_isPlan b_Root_isPlan 1 (some .boolean) 2 [.int v0] D (some (.int rr)) DD := Mt_of (by decide) (Nat.le_of_ble_eq_true rfl) (fun G C => te_Root_isPlan C hf)
def f_Root_refusedPlan (v1 : Int32) (D : Dt) : Option (Int32 × Dt) :=
  bnd (f_Root_isPlan v1 D) (fun x1 D2 => (if x1 = 0 then some ((-1), D2) else bnd (f_Root_hasHouses D2) (fun x3 D4 => (if x3 = 0 then some ((-4), D4) else some (0, D4)))))
set_option maxHeartbeats 4000000 in
theorem te_Root_refusedPlan {Γ : GmT} {G : Dt → Nat → List (Nat × Value) → List Value → Prop} {rr : Int32} {DD : Dt} (C : Cx Γ "RiverTuesdays" b_Root_refusedPlan 2 3 (some .int) (some (.int rr)) DD G) {v1 : Int32} {D : Dt} (hf : f_Root_refusedPlan v1 D = some (rr, DD)) : G D 0 [(0, .ref (Γ.2.1 0)), (1, .int v1)] [] := by
  unfold f_Root_refusedPlan at hf
  refine r_iload_n (pc := 0) C 1 d_Root_refusedPlan_0 rfl rfl ?_
  refine r_callSi (pc := 1) (As := [.int v1]) (rest := []) C ok_Root_isPlan Lm_Root_245 ⟨by decide, by decide⟩ rfl rfl (Nat.le_of_ble_eq_true rfl) d_Root_refusedPlan_1 hf (fun x D1 hc => c_Root_isPlan Γ hc) (fun x1 D2 hf => ?_)
  refine r_if_ne (pc := 4) C (tgt := 9) d_Root_refusedPlan_4 (by decide) hf (fun c4 hf => ?_) (fun c4 hf => ?_)
  · refine r_aload_n (pc := 9) C 0 d_Root_refusedPlan_9 rfl rfl ?_
    refine r_callVi (pc := 10) (As := []) (rest := []) C ok_Root_hasHouses Lm_Root_190 k_id0 (by decide) ⟨by decide, by decide⟩ rfl rfl (Nat.le_of_ble_eq_true rfl) d_Root_refusedPlan_10 hf (fun x D1 hc => c_Root_hasHouses Γ hc) (fun x3 D4 hf => ?_)
    refine r_if_eq (pc := 13) C (tgt := 20) d_Root_refusedPlan_13 (by decide) hf (fun c13 hf => ?_) (fun c13 hf => ?_)
    · refine r_bipush (pc := 20) C (v := (-4)) d_Root_refusedPlan_20 (by decide) ?_
      exact r_iret (pc := 22) C d_Root_refusedPlan_22 hf
    · refine r_iconst (pc := 16) C (v := 0) d_Root_refusedPlan_16 (by decide) ?_
      refine r_goto (pc := 17) C (tgt := 22) d_Root_refusedPlan_17 (by decide) ?_
      exact r_iret (pc := 22) C d_Root_refusedPlan_22 hf
  · refine r_iconst (pc := 7) C (v := (-1)) d_Root_refusedPlan_7 (by decide) ?_
    exact r_iret (pc := 8) C d_Root_refusedPlan_8 hf
theorem c_Root_refusedPlan (Γ : GmT) {v1 : Int32} {D : Dt} {rr : Int32} {DD : Dt} (hf : f_Root_refusedPlan v1 D = some (rr, DD)) : Mt Γ y_Root_refusedPlan b_Root_refusedPlan 2 (some .int) 3 [.ref (Γ.2.1 0), .int v1] D (some (.int rr)) DD := Mt_of (by decide) (Nat.le_of_ble_eq_true rfl) (fun G C => te_Root_refusedPlan C hf)
def f_Root_harm (v1 : Int32) (D : Dt) : Option (Int32 × Dt) :=
  bnd (f_Root_refusedPlan v1 D) (fun x1 D2 => (if x1 = 0 then bnd (f_Root_leadAside v1 D2) (fun x3 D4 => bnd (f_Tuesday_grindings D4) (fun x5 D6 => bnd (f_Tuesday_harmDone D6) (fun x7 D8 => bnd (f_Root_tell x5 x7 D8) (fun x9 D10 => some (x9, D10))))) else some (x1, D2)))
set_option maxHeartbeats 4000000 in
theorem te_Root_harm {Γ : GmT} {G : Dt → Nat → List (Nat × Value) → List Value → Prop} {rr : Int32} {DD : Dt} (C : Cx Γ "RiverTuesdays" b_Root_harm 3 7 (some .int) (some (.int rr)) DD G) {v1 : Int32} {D : Dt} (hf : f_Root_harm v1 D = some (rr, DD)) : G D 0 [(0, .ref (Γ.2.1 0)), (1, .int v1)] [] := by
  unfold f_Root_harm at hf
  refine r_aload_n (pc := 0) C 0 d_Root_harm_0 rfl rfl ?_
  refine r_iload_n (pc := 1) C 1 d_Root_harm_1 rfl rfl ?_
  refine r_callVi (pc := 2) (As := [.int v1]) (rest := []) C ok_Root_refusedPlan Lm_Root_225 k_id0 (by decide) ⟨by decide, by decide⟩ rfl rfl (Nat.le_of_ble_eq_true rfl) d_Root_harm_2 hf (fun x D1 hc => c_Root_refusedPlan Γ hc) (fun x1 D2 hf => ?_)
  refine r_istore_n (pc := 5) (lv' := [(2, .int x1), (0, .ref (Γ.2.1 0)), (1, .int v1)]) C d_Root_harm_5 rfl (Nat.le_of_ble_eq_true rfl) rfl ?_
  refine r_iload_n (pc := 6) C 0 d_Root_harm_6 rfl rfl ?_
  refine r_if_eq (pc := 7) C (tgt := 12) d_Root_harm_7 (by decide) hf (fun c7 hf => ?_) (fun c7 hf => ?_)
  · refine r_aload_n (pc := 12) C 1 d_Root_harm_12 rfl rfl ?_
    refine r_iload_n (pc := 13) C 2 d_Root_harm_13 rfl rfl ?_
    refine r_callVv (pc := 14) (As := [.int v1]) (rest := []) C ok_Root_leadAside Lm_Root_228 k_id0 (by decide) ⟨by decide, by decide⟩ rfl rfl (Nat.le_of_ble_eq_true rfl) d_Root_harm_14 hf (fun x D1 hc => c_Root_leadAside Γ hc) (fun x3 D4 hf => ?_)
    refine r_aload_n (pc := 17) C 1 d_Root_harm_17 rfl rfl ?_
    refine r_aload_n (pc := 18) C 1 d_Root_harm_18 rfl rfl ?_
    refine g_Root_today (pc := 19) C k_id0 Lf_Root_53 d_Root_harm_19 ?_
    refine r_callVi (pc := 22) (As := []) (rest := [.ref (Γ.2.1 0)]) C ok_Tuesday_grindings Lm_Root_231 kq_Root_today (by decide) ⟨by decide, by decide⟩ rfl rfl (Nat.le_of_ble_eq_true rfl) d_Root_harm_22 hf (fun x D1 hc => c_Tuesday_grindings Γ hc) (fun x5 D6 hf => ?_)
    refine r_aload_n (pc := 25) C 1 d_Root_harm_25 rfl rfl ?_
    refine g_Root_today (pc := 26) C k_id0 Lf_Root_53 d_Root_harm_26 ?_
    refine r_callVi (pc := 29) (As := []) (rest := [.int x5, .ref (Γ.2.1 0)]) C ok_Tuesday_harmDone Lm_Root_234 kq_Root_today (by decide) ⟨by decide, by decide⟩ rfl rfl (Nat.le_of_ble_eq_true rfl) d_Root_harm_29 hf (fun x D1 hc => c_Tuesday_harmDone Γ hc) (fun x7 D8 hf => ?_)
    refine r_callVi (pc := 32) (As := [.int x5, .int x7]) (rest := []) C ok_Root_tell Lm_Root_99 k_id0 (by decide) ⟨by decide, by decide⟩ rfl rfl (Nat.le_of_ble_eq_true rfl) d_Root_harm_32 hf (fun x D1 hc => c_Root_tell Γ hc) (fun x9 D10 hf => ?_)
    exact r_iret (pc := 35) C d_Root_harm_35 hf
  · refine r_iload_n (pc := 10) C 0 d_Root_harm_10 rfl rfl ?_
    exact r_iret (pc := 11) C d_Root_harm_11 hf
theorem c_Root_harm (Γ : GmT) {v1 : Int32} {D : Dt} {rr : Int32} {DD : Dt} (hf : f_Root_harm v1 D = some (rr, DD)) : Mt Γ y_Root_harm b_Root_harm 3 (some .int) 7 [.ref (Γ.2.1 0), .int v1] D (some (.int rr)) DD := Mt_of (by decide) (Nat.le_of_ble_eq_true rfl) (fun G C => te_Root_harm C hf)
def f_Root_wet (v1 : Int32) (D : Dt) : Option (Int32 × Dt) :=
  bnd (f_Root_refusedPlan v1 D) (fun x1 D2 => (if x1 = 0 then bnd (f_Root_leadAside v1 D2) (fun x3 D4 => (if inb 8 9 = true then nm (D4 35 (8 : Int32).toNatClampNeg) (fun x5 => bnd (f_J_bitCount x5 D4) (fun x6 D7 => bnd (f_Root_tell x6 x5 D7) (fun x8 D9 => some (x8, D9)))) else none)) else some (x1, D2)))
set_option maxHeartbeats 4000000 in
theorem te_Root_wet {Γ : GmT} {G : Dt → Nat → List (Nat × Value) → List Value → Prop} {rr : Int32} {DD : Dt} (C : Cx Γ "RiverTuesdays" b_Root_wet 4 7 (some .int) (some (.int rr)) DD G) {v1 : Int32} {D : Dt} (hf : f_Root_wet v1 D = some (rr, DD)) : G D 0 [(0, .ref (Γ.2.1 0)), (1, .int v1)] [] := by
  unfold f_Root_wet at hf
  refine r_aload_n (pc := 0) C 0 d_Root_wet_0 rfl rfl ?_
  refine r_iload_n (pc := 1) C 1 d_Root_wet_1 rfl rfl ?_
  refine r_callVi (pc := 2) (As := [.int v1]) (rest := []) C ok_Root_refusedPlan Lm_Root_225 k_id0 (by decide) ⟨by decide, by decide⟩ rfl rfl (Nat.le_of_ble_eq_true rfl) d_Root_wet_2 hf (fun x D1 hc => c_Root_refusedPlan Γ hc) (fun x1 D2 hf => ?_)
  refine r_istore_n (pc := 5) (lv' := [(2, .int x1), (0, .ref (Γ.2.1 0)), (1, .int v1)]) C d_Root_wet_5 rfl (Nat.le_of_ble_eq_true rfl) rfl ?_
  refine r_iload_n (pc := 6) C 0 d_Root_wet_6 rfl rfl ?_
  refine r_if_eq (pc := 7) C (tgt := 12) d_Root_wet_7 (by decide) hf (fun c7 hf => ?_) (fun c7 hf => ?_)
  · refine r_aload_n (pc := 12) C 1 d_Root_wet_12 rfl rfl ?_
    refine r_iload_n (pc := 13) C 2 d_Root_wet_13 rfl rfl ?_
    refine r_callVv (pc := 14) (As := [.int v1]) (rest := []) C ok_Root_leadAside Lm_Root_228 k_id0 (by decide) ⟨by decide, by decide⟩ rfl rfl (Nat.le_of_ble_eq_true rfl) d_Root_wet_14 hf (fun x D1 hc => c_Root_leadAside Γ hc) (fun x3 D4 hf => ?_)
    refine r_aload_n (pc := 17) C 1 d_Root_wet_17 rfl rfl ?_
    refine g_Root_today (pc := 18) C k_id0 Lf_Root_53 d_Root_wet_18 ?_
    refine g_Tuesday_wetBits (pc := 21) C kq_Root_today Lf_Root_237 d_Root_wet_21 ?_
    refine r_bipush (pc := 24) C (v := 8) d_Root_wet_24 (by decide) ?_
    refine r_iald (pc := 26) C kq_Tuesday_wetBits d_Root_wet_26 hf (fun hf => ?_)
    refine r_nmi (pc := 27) hf (fun x5 hf => ?_)
    refine r_istore_n (pc := 27) (lv' := [(3, .int x5), (2, .int x1), (0, .ref (Γ.2.1 0)), (1, .int v1)]) C d_Root_wet_27 rfl (Nat.le_of_ble_eq_true rfl) rfl ?_
    refine r_aload_n (pc := 28) C 2 d_Root_wet_28 rfl rfl ?_
    refine r_iload_n (pc := 29) C 0 d_Root_wet_29 rfl rfl ?_
    refine r_callSi (pc := 30) (As := [.int x5]) (rest := [.ref (Γ.2.1 0)]) C ok_J_bitCount Lm_Root_240 ⟨by decide, by decide⟩ rfl rfl (Nat.le_of_ble_eq_true rfl) d_Root_wet_30 hf (fun x D1 hc => c_J_bitCount Γ hc) (fun x6 D7 hf => ?_)
    refine r_iload_n (pc := 33) C 0 d_Root_wet_33 rfl rfl ?_
    refine r_callVi (pc := 34) (As := [.int x6, .int x5]) (rest := []) C ok_Root_tell Lm_Root_99 k_id0 (by decide) ⟨by decide, by decide⟩ rfl rfl (Nat.le_of_ble_eq_true rfl) d_Root_wet_34 hf (fun x D1 hc => c_Root_tell Γ hc) (fun x8 D9 hf => ?_)
    exact r_iret (pc := 37) C d_Root_wet_37 hf
  · refine r_iload_n (pc := 10) C 0 d_Root_wet_10 rfl rfl ?_
    exact r_iret (pc := 11) C d_Root_wet_11 hf
theorem c_Root_wet (Γ : GmT) {v1 : Int32} {D : Dt} {rr : Int32} {DD : Dt} (hf : f_Root_wet v1 D = some (rr, DD)) : Mt Γ y_Root_wet b_Root_wet 4 (some .int) 7 [.ref (Γ.2.1 0), .int v1] D (some (.int rr)) DD := Mt_of (by decide) (Nat.le_of_ble_eq_true rfl) (fun G C => te_Root_wet C hf)
def s_Root_when_30 (k30 : Int32 → Int32 → Dt → Option (Int32 × Dt)) (v2 : Int32) (v3 : Int32) (D : Dt) : Option (Int32 × Dt) :=
  (if 8 ≤ v3 then some ((-9), D) else (if inb (v3 + 1) 9 = true then bnd (f_Root_hasBit (D 35 (v3 + 1).toNatClampNeg) v2 D) (fun x7 D8 => (if x7 = 0 then k30 v2 (v3 + 1) D8 else some (v3, D8))) else none))
def lp_Root_when_30 (n : Nat) : Int32 → Int32 → Dt → Option (Int32 × Dt) := itr (fun _ _ _ => none) (s_Root_when_30) n
set_option maxHeartbeats 4000000 in
theorem ts_Root_when_30 {Γ : GmT} {G : Dt → Nat → List (Nat × Value) → List Value → Prop} {rr : Int32} {DD : Dt} (C : Cx Γ "RiverTuesdays" b_Root_when 4 7 (some .int) (some (.int rr)) DD G) {k30 : Int32 → Int32 → Dt → Option (Int32 × Dt)} (hk30 : ∀ (v2 : Int32) (v3 : Int32) (D : Dt), k30 v2 v3 D = some (rr, DD) → G D 30 [(0, .ref (Γ.2.1 0)), (2, .int v2), (3, .int v3)] []) {v2 : Int32} {v3 : Int32} {D : Dt} (hf : s_Root_when_30 k30 v2 v3 D = some (rr, DD)) : G D 30 [(0, .ref (Γ.2.1 0)), (2, .int v2), (3, .int v3)] [] := by
  unfold s_Root_when_30 at hf
  refine r_iload_n (pc := 30) C 2 d_Root_when_30 rfl rfl ?_
  refine r_bipush (pc := 31) C (v := 8) d_Root_when_31 (by decide) ?_
  refine r_icmp_ge (pc := 33) C (tgt := 62) d_Root_when_33 (by decide) hf (fun c33 hf => ?_) (fun c33 hf => ?_)
  · refine r_bipush (pc := 62) C (v := (-9)) d_Root_when_62 (by decide) ?_
    exact r_iret (pc := 64) C d_Root_when_64 hf
  · refine r_aload_n (pc := 36) C 0 d_Root_when_36 rfl rfl ?_
    refine g_Root_today (pc := 37) C k_id0 Lf_Root_53 d_Root_when_37 ?_
    refine g_Tuesday_wetBits (pc := 40) C kq_Root_today Lf_Root_237 d_Root_when_40 ?_
    refine r_iload_n (pc := 43) C 2 d_Root_when_43 rfl rfl ?_
    refine r_iconst (pc := 44) C (v := 1) d_Root_when_44 (by decide) ?_
    refine r_iadd (pc := 45) C d_Root_when_45 ?_
    refine r_iald (pc := 46) C kq_Tuesday_wetBits d_Root_when_46 hf (fun hf => ?_)
    refine r_iload_n (pc := 47) C 1 d_Root_when_47 rfl rfl ?_
    refine r_callSi (pc := 48) (As := [.int (D 35 (v3 + 1).toNatClampNeg), .int v2]) (rest := []) C ok_Root_hasBit Lm_Root_248 ⟨by decide, by decide⟩ rfl rfl (Nat.le_of_ble_eq_true rfl) d_Root_when_48 hf (fun x D1 hc => c_Root_hasBit Γ hc) (fun x7 D8 hf => ?_)
    refine r_if_eq (pc := 51) C (tgt := 56) d_Root_when_51 (by decide) hf (fun c51 hf => ?_) (fun c51 hf => ?_)
    · refine r_iinc (pc := 56) C (v := v3 + 1) (lv' := [(3, .int (v3 + 1)), (0, .ref (Γ.2.1 0)), (2, .int v2)]) 2 d_Root_when_56 rfl rfl (Nat.le_of_ble_eq_true rfl) rfl ?_
      refine r_goto (pc := 59) C (tgt := 30) d_Root_when_59 (by decide) ?_
      exact r_lv (pc := 30) C [1, 2, 0] rfl (hk30 v2 (v3 + 1) D8 hf)
    · refine r_iload_n (pc := 54) C 2 d_Root_when_54 rfl rfl ?_
      exact r_iret (pc := 55) C d_Root_when_55 hf
theorem tl_Root_when_30 {Γ : GmT} {G : Dt → Nat → List (Nat × Value) → List Value → Prop} {rr : Int32} {DD : Dt} (C : Cx Γ "RiverTuesdays" b_Root_when 4 7 (some .int) (some (.int rr)) DD G) : ∀ (n : Nat) (v2 : Int32) (v3 : Int32) (D : Dt), lp_Root_when_30 n v2 v3 D = some (rr, DD) → G D 30 [(0, .ref (Γ.2.1 0)), (2, .int v2), (3, .int v3)] [] := by
  intro n
  induction n with
  | zero =>
    intro v2 v3 D hf
    exact absurd (show (none : Option (Int32 × Dt)) = some (rr, DD) from hf) (by simp)
  | succ n ih =>
    intro v2 v3 D hf
    exact ts_Root_when_30 C (k30 := lp_Root_when_30 n) ih hf
def f_Root_when (v1 : Int32) (v2 : Int32) (D : Dt) : Option (Int32 × Dt) :=
  bnd (f_Root_isPlan v1 D) (fun x1 D2 => (if x1 = 0 then some ((-1), D2) else bnd (f_Bed_hasHouse (3 + 1) v2 D2) (fun x3 D4 => (if x3 = 0 then some ((-1), D4) else bnd (f_Root_leadAside v1 D4) (fun x5 D6 => lp_Root_when_30 FU v2 0 D6)))))
set_option maxHeartbeats 4000000 in
theorem te_Root_when {Γ : GmT} {G : Dt → Nat → List (Nat × Value) → List Value → Prop} {rr : Int32} {DD : Dt} (C : Cx Γ "RiverTuesdays" b_Root_when 4 7 (some .int) (some (.int rr)) DD G) {v1 : Int32} {v2 : Int32} {D : Dt} (hf : f_Root_when v1 v2 D = some (rr, DD)) : G D 0 [(0, .ref (Γ.2.1 0)), (1, .int v1), (2, .int v2)] [] := by
  unfold f_Root_when at hf
  refine r_iload_n (pc := 0) C 1 d_Root_when_0 rfl rfl ?_
  refine r_callSi (pc := 1) (As := [.int v1]) (rest := []) C ok_Root_isPlan Lm_Root_245 ⟨by decide, by decide⟩ rfl rfl (Nat.le_of_ble_eq_true rfl) d_Root_when_1 hf (fun x D1 hc => c_Root_isPlan Γ hc) (fun x1 D2 hf => ?_)
  refine r_if_eq (pc := 4) C (tgt := 21) d_Root_when_4 (by decide) hf (fun c4 hf => ?_) (fun c4 hf => ?_)
  · refine r_iconst (pc := 21) C (v := (-1)) d_Root_when_21 (by decide) ?_
    exact r_iret (pc := 22) C d_Root_when_22 hf
  · refine r_aload_n (pc := 7) C 0 d_Root_when_7 rfl rfl ?_
    refine g_Root_present (pc := 8) C k_id0 Lf_Root_24 d_Root_when_8 ?_
    refine g_Street_bed (pc := 11) C kq_Root_present Lf_Root_146 d_Root_when_11 ?_
    refine r_iload_n (pc := 14) C 2 d_Root_when_14 rfl rfl ?_
    refine r_callVi (pc := 15) (As := [.int v2]) (rest := []) C ok_Bed_hasHouse Lm_Root_152 (kq_Street_bed kq_Root_present) (by decide) ⟨by decide, by decide⟩ rfl rfl (Nat.le_of_ble_eq_true rfl) d_Root_when_15 hf (fun x D1 hc => c_Bed_hasHouse Γ (kq_Street_bed kq_Root_present) hc) (fun x3 D4 hf => ?_)
    refine r_if_ne (pc := 18) C (tgt := 23) d_Root_when_18 (by decide) hf (fun c18 hf => ?_) (fun c18 hf => ?_)
    · refine r_aload_n (pc := 23) C 0 d_Root_when_23 rfl rfl ?_
      refine r_iload_n (pc := 24) C 1 d_Root_when_24 rfl rfl ?_
      refine r_callVv (pc := 25) (As := [.int v1]) (rest := []) C ok_Root_leadAside Lm_Root_228 k_id0 (by decide) ⟨by decide, by decide⟩ rfl rfl (Nat.le_of_ble_eq_true rfl) d_Root_when_25 hf (fun x D1 hc => c_Root_leadAside Γ hc) (fun x5 D6 hf => ?_)
      refine r_iconst (pc := 28) C (v := 0) d_Root_when_28 (by decide) ?_
      refine r_istore_n (pc := 29) (lv' := [(3, .int 0), (0, .ref (Γ.2.1 0)), (1, .int v1), (2, .int v2)]) C d_Root_when_29 rfl (Nat.le_of_ble_eq_true rfl) rfl ?_
      exact r_lv (pc := 30) C [1, 3, 0] rfl (tl_Root_when_30 C FU v2 0 D6 hf)
    · refine r_iconst (pc := 21) C (v := (-1)) d_Root_when_21 (by decide) ?_
      exact r_iret (pc := 22) C d_Root_when_22 hf
theorem c_Root_when (Γ : GmT) {v1 : Int32} {v2 : Int32} {D : Dt} {rr : Int32} {DD : Dt} (hf : f_Root_when v1 v2 D = some (rr, DD)) : Mt Γ y_Root_when b_Root_when 4 (some .int) 7 [.ref (Γ.2.1 0), .int v1, .int v2] D (some (.int rr)) DD := Mt_of (by decide) (Nat.le_of_ble_eq_true rfl) (fun G C => te_Root_when C hf)
def f_Root_isHourOfDay (v0 : Int32) (D : Dt) : Option (Int32 × Dt) :=
  bnd (f_Root_isWithin v0 0 7 D) (fun x1 D2 => (if x1 = 0 ∨ x1 = 1 then some (x1, D2) else none))
set_option maxHeartbeats 4000000 in
theorem te_Root_isHourOfDay {Γ : GmT} {G : Dt → Nat → List (Nat × Value) → List Value → Prop} {rr : Int32} {DD : Dt} (C : Cx Γ "RiverTuesdays" b_Root_isHourOfDay 1 2 (some .boolean) (some (.int rr)) DD G) {v0 : Int32} {D : Dt} (hf : f_Root_isHourOfDay v0 D = some (rr, DD)) : G D 0 [(0, .int v0)] [] := by
  unfold f_Root_isHourOfDay at hf
  refine r_iload_n (pc := 0) C 0 d_Root_isHourOfDay_0 rfl rfl ?_
  refine r_iconst (pc := 1) C (v := 0) d_Root_isHourOfDay_1 (by decide) ?_
  refine r_bipush (pc := 2) C (v := 7) d_Root_isHourOfDay_2 (by decide) ?_
  refine r_callSi (pc := 4) (As := [.int v0, .int 0, .int 7]) (rest := []) C ok_Root_isWithin Lm_Root_155 ⟨by decide, by decide⟩ rfl rfl (Nat.le_of_ble_eq_true rfl) d_Root_isHourOfDay_4 hf (fun x D1 hc => c_Root_isWithin Γ hc) (fun x1 D2 hf => ?_)
  exact r_zretc (pc := 7) C d_Root_isHourOfDay_7 hf
theorem c_Root_isHourOfDay (Γ : GmT) {v0 : Int32} {D : Dt} {rr : Int32} {DD : Dt} (hf : f_Root_isHourOfDay v0 D = some (rr, DD)) : Mt Γ y_Root_isHourOfDay b_Root_isHourOfDay 1 (some .boolean) 2 [.int v0] D (some (.int rr)) DD := Mt_of (by decide) (Nat.le_of_ble_eq_true rfl) (fun G C => te_Root_isHourOfDay C hf)
def f_Root_cut (v1 : Int32) (v2 : Int32) (D : Dt) : Option (Int32 × Dt) :=
  bnd (f_Root_isHourOfDay v2 D) (fun x1 D2 => (if x1 = 0 then some ((-1), D2) else bnd (f_Root_refusedPlan v1 D2) (fun x3 D4 => (if x3 = 0 then bnd (f_Root_leadAside v1 D4) (fun x5 D6 => bnd (f_Tuesday_cutOffBits v2 D6) (fun x7 D8 => bnd (f_J_bitCount x7 D8) (fun x9 D10 => bnd (f_Root_tell x9 x7 D10) (fun x11 D12 => some (x11, D12))))) else some (x3, D4)))))
set_option maxHeartbeats 4000000 in
theorem te_Root_cut {Γ : GmT} {G : Dt → Nat → List (Nat × Value) → List Value → Prop} {rr : Int32} {DD : Dt} (C : Cx Γ "RiverTuesdays" b_Root_cut 5 7 (some .int) (some (.int rr)) DD G) {v1 : Int32} {v2 : Int32} {D : Dt} (hf : f_Root_cut v1 v2 D = some (rr, DD)) : G D 0 [(0, .ref (Γ.2.1 0)), (1, .int v1), (2, .int v2)] [] := by
  unfold f_Root_cut at hf
  refine r_iload_n (pc := 0) C 2 d_Root_cut_0 rfl rfl ?_
  refine r_callSi (pc := 1) (As := [.int v2]) (rest := []) C ok_Root_isHourOfDay Lm_Root_251 ⟨by decide, by decide⟩ rfl rfl (Nat.le_of_ble_eq_true rfl) d_Root_cut_1 hf (fun x D1 hc => c_Root_isHourOfDay Γ hc) (fun x1 D2 hf => ?_)
  refine r_if_ne (pc := 4) C (tgt := 9) d_Root_cut_4 (by decide) hf (fun c4 hf => ?_) (fun c4 hf => ?_)
  · refine r_aload_n (pc := 9) C 0 d_Root_cut_9 rfl rfl ?_
    refine r_iload_n (pc := 10) C 1 d_Root_cut_10 rfl rfl ?_
    refine r_callVi (pc := 11) (As := [.int v1]) (rest := []) C ok_Root_refusedPlan Lm_Root_225 k_id0 (by decide) ⟨by decide, by decide⟩ rfl rfl (Nat.le_of_ble_eq_true rfl) d_Root_cut_11 hf (fun x D1 hc => c_Root_refusedPlan Γ hc) (fun x3 D4 hf => ?_)
    refine r_istore_n (pc := 14) (lv' := [(3, .int x3), (0, .ref (Γ.2.1 0)), (1, .int v1), (2, .int v2)]) C d_Root_cut_14 rfl (Nat.le_of_ble_eq_true rfl) rfl ?_
    refine r_iload_n (pc := 15) C 0 d_Root_cut_15 rfl rfl ?_
    refine r_if_eq (pc := 16) C (tgt := 21) d_Root_cut_16 (by decide) hf (fun c16 hf => ?_) (fun c16 hf => ?_)
    · refine r_aload_n (pc := 21) C 1 d_Root_cut_21 rfl rfl ?_
      refine r_iload_n (pc := 22) C 2 d_Root_cut_22 rfl rfl ?_
      refine r_callVv (pc := 23) (As := [.int v1]) (rest := []) C ok_Root_leadAside Lm_Root_228 k_id0 (by decide) ⟨by decide, by decide⟩ rfl rfl (Nat.le_of_ble_eq_true rfl) d_Root_cut_23 hf (fun x D1 hc => c_Root_leadAside Γ hc) (fun x5 D6 hf => ?_)
      refine r_aload_n (pc := 26) C 1 d_Root_cut_26 rfl rfl ?_
      refine g_Root_today (pc := 27) C k_id0 Lf_Root_53 d_Root_cut_27 ?_
      refine r_iload_n (pc := 30) C 3 d_Root_cut_30 rfl rfl ?_
      refine r_callVi (pc := 31) (As := [.int v2]) (rest := []) C ok_Tuesday_cutOffBits Lm_Root_254 kq_Root_today (by decide) ⟨by decide, by decide⟩ rfl rfl (Nat.le_of_ble_eq_true rfl) d_Root_cut_31 hf (fun x D1 hc => c_Tuesday_cutOffBits Γ hc) (fun x7 D8 hf => ?_)
      refine r_istore (pc := 34) (lv' := [(4, .int x7), (3, .int x3), (0, .ref (Γ.2.1 0)), (1, .int v1), (2, .int v2)]) C d_Root_cut_34 (Nat.le_of_ble_eq_true rfl) rfl ?_
      refine r_aload_n (pc := 36) C 2 d_Root_cut_36 rfl rfl ?_
      refine r_iload (pc := 37) C 0 d_Root_cut_37 rfl ?_
      refine r_callSi (pc := 39) (As := [.int x7]) (rest := [.ref (Γ.2.1 0)]) C ok_J_bitCount Lm_Root_240 ⟨by decide, by decide⟩ rfl rfl (Nat.le_of_ble_eq_true rfl) d_Root_cut_39 hf (fun x D1 hc => c_J_bitCount Γ hc) (fun x9 D10 hf => ?_)
      refine r_iload (pc := 42) C 0 d_Root_cut_42 rfl ?_
      refine r_callVi (pc := 44) (As := [.int x9, .int x7]) (rest := []) C ok_Root_tell Lm_Root_99 k_id0 (by decide) ⟨by decide, by decide⟩ rfl rfl (Nat.le_of_ble_eq_true rfl) d_Root_cut_44 hf (fun x D1 hc => c_Root_tell Γ hc) (fun x11 D12 hf => ?_)
      exact r_iret (pc := 47) C d_Root_cut_47 hf
    · refine r_iload_n (pc := 19) C 0 d_Root_cut_19 rfl rfl ?_
      exact r_iret (pc := 20) C d_Root_cut_20 hf
  · refine r_iconst (pc := 7) C (v := (-1)) d_Root_cut_7 (by decide) ?_
    exact r_iret (pc := 8) C d_Root_cut_8 hf
theorem c_Root_cut (Γ : GmT) {v1 : Int32} {v2 : Int32} {D : Dt} {rr : Int32} {DD : Dt} (hf : f_Root_cut v1 v2 D = some (rr, DD)) : Mt Γ y_Root_cut b_Root_cut 5 (some .int) 7 [.ref (Γ.2.1 0), .int v1, .int v2] D (some (.int rr)) DD := Mt_of (by decide) (Nat.le_of_ble_eq_true rfl) (fun G C => te_Root_cut C hf)
def s_Root_boat_68 (k68 : Int32 → Int32 → Int32 → Int32 → Dt → Option (Int32 × Dt)) (v3 : Int32) (v4 : Int32) (v5 : Int32) (v6 : Int32) (D : Dt) : Option (Int32 × Dt) :=
  (if (imax v3 v4) < v6 then some (1, D) else bnd (f_Root_hasBit v5 v6 D) (fun x13 D14 => (if x13 = 0 then some (0, D14) else k68 v3 v4 v5 (v6 + 1) D14)))
def lp_Root_boat_68 (n : Nat) : Int32 → Int32 → Int32 → Int32 → Dt → Option (Int32 × Dt) := itr (fun _ _ _ _ _ => none) (s_Root_boat_68) n
set_option maxHeartbeats 4000000 in
theorem ts_Root_boat_68 {Γ : GmT} {G : Dt → Nat → List (Nat × Value) → List Value → Prop} {rr : Int32} {DD : Dt} (C : Cx Γ "RiverTuesdays" b_Root_boat 7 7 (some .int) (some (.int rr)) DD G) {k68 : Int32 → Int32 → Int32 → Int32 → Dt → Option (Int32 × Dt)} (hk68 : ∀ (v3 : Int32) (v4 : Int32) (v5 : Int32) (v6 : Int32) (D : Dt), k68 v3 v4 v5 v6 D = some (rr, DD) → G D 68 [(3, .int v3), (4, .int v4), (5, .int v5), (6, .int v6)] []) {v3 : Int32} {v4 : Int32} {v5 : Int32} {v6 : Int32} {D : Dt} (hf : s_Root_boat_68 k68 v3 v4 v5 v6 D = some (rr, DD)) : G D 68 [(3, .int v3), (4, .int v4), (5, .int v5), (6, .int v6)] [] := by
  unfold s_Root_boat_68 at hf
  refine r_iload (pc := 68) C 3 d_Root_boat_68 rfl ?_
  refine r_iload_n (pc := 70) C 0 d_Root_boat_70 rfl rfl ?_
  refine r_iload (pc := 71) C 1 d_Root_boat_71 rfl ?_
  refine r_mmax (pc := 73) C Lm_Root_262 (by decide) (Nat.le_of_ble_eq_true rfl) d_Root_boat_73 ?_
  refine r_icmp_gt (pc := 76) C (tgt := 97) d_Root_boat_76 (by decide) hf (fun c76 hf => ?_) (fun c76 hf => ?_)
  · refine r_iconst (pc := 97) C (v := 1) d_Root_boat_97 (by decide) ?_
    exact r_iret (pc := 98) C d_Root_boat_98 hf
  · refine r_iload (pc := 79) C 2 d_Root_boat_79 rfl ?_
    refine r_iload (pc := 81) C 3 d_Root_boat_81 rfl ?_
    refine r_callSi (pc := 83) (As := [.int v5, .int v6]) (rest := []) C ok_Root_hasBit Lm_Root_248 ⟨by decide, by decide⟩ rfl rfl (Nat.le_of_ble_eq_true rfl) d_Root_boat_83 hf (fun x D1 hc => c_Root_hasBit Γ hc) (fun x13 D14 hf => ?_)
    refine r_if_ne (pc := 86) C (tgt := 91) d_Root_boat_86 (by decide) hf (fun c86 hf => ?_) (fun c86 hf => ?_)
    · refine r_iinc (pc := 91) C (v := v6 + 1) (lv' := [(6, .int (v6 + 1)), (3, .int v3), (4, .int v4), (5, .int v5)]) 3 d_Root_boat_91 rfl rfl (Nat.le_of_ble_eq_true rfl) rfl ?_
      refine r_goto (pc := 94) C (tgt := 68) d_Root_boat_94 (by decide) ?_
      exact r_lv (pc := 68) C [1, 2, 3, 0] rfl (hk68 v3 v4 v5 (v6 + 1) D14 hf)
    · refine r_iconst (pc := 89) C (v := 0) d_Root_boat_89 (by decide) ?_
      exact r_iret (pc := 90) C d_Root_boat_90 hf
theorem tl_Root_boat_68 {Γ : GmT} {G : Dt → Nat → List (Nat × Value) → List Value → Prop} {rr : Int32} {DD : Dt} (C : Cx Γ "RiverTuesdays" b_Root_boat 7 7 (some .int) (some (.int rr)) DD G) : ∀ (n : Nat) (v3 : Int32) (v4 : Int32) (v5 : Int32) (v6 : Int32) (D : Dt), lp_Root_boat_68 n v3 v4 v5 v6 D = some (rr, DD) → G D 68 [(3, .int v3), (4, .int v4), (5, .int v5), (6, .int v6)] [] := by
  intro n
  induction n with
  | zero =>
    intro v3 v4 v5 v6 D hf
    exact absurd (show (none : Option (Int32 × Dt)) = some (rr, DD) from hf) (by simp)
  | succ n ih =>
    intro v3 v4 v5 v6 D hf
    exact ts_Root_boat_68 C (k68 := lp_Root_boat_68 n) ih hf
def f_Root_boat (v1 : Int32) (v2 : Int32) (v3 : Int32) (v4 : Int32) (D : Dt) : Option (Int32 × Dt) :=
  bnd (f_Root_isPlan v1 D) (fun x1 D2 => (if x1 = 0 then some ((-1), D2) else bnd (f_Root_isHourOfDay v2 D2) (fun x3 D4 => (if x3 = 0 then some ((-1), D4) else bnd (f_Bed_hasHouse (3 + 1) v3 D4) (fun x5 D6 => (if x5 = 0 then some ((-1), D6) else bnd (f_Bed_hasHouse (3 + 1) v4 D6) (fun x7 D8 => (if x7 = 0 then some ((-1), D8) else bnd (f_Root_leadAside v1 D8) (fun x9 D10 => bnd (f_Tuesday_cutOffBits v2 D10) (fun x11 D12 => lp_Root_boat_68 FU v3 v4 x11 (imin v3 v4) D12))))))))))
set_option maxHeartbeats 4000000 in
theorem te_Root_boat {Γ : GmT} {G : Dt → Nat → List (Nat × Value) → List Value → Prop} {rr : Int32} {DD : Dt} (C : Cx Γ "RiverTuesdays" b_Root_boat 7 7 (some .int) (some (.int rr)) DD G) {v1 : Int32} {v2 : Int32} {v3 : Int32} {v4 : Int32} {D : Dt} (hf : f_Root_boat v1 v2 v3 v4 D = some (rr, DD)) : G D 0 [(0, .ref (Γ.2.1 0)), (1, .int v1), (2, .int v2), (3, .int v3), (4, .int v4)] [] := by
  unfold f_Root_boat at hf
  refine r_iload_n (pc := 0) C 1 d_Root_boat_0 rfl rfl ?_
  refine r_callSi (pc := 1) (As := [.int v1]) (rest := []) C ok_Root_isPlan Lm_Root_245 ⟨by decide, by decide⟩ rfl rfl (Nat.le_of_ble_eq_true rfl) d_Root_boat_1 hf (fun x D1 hc => c_Root_isPlan Γ hc) (fun x1 D2 hf => ?_)
  refine r_if_eq (pc := 4) C (tgt := 43) d_Root_boat_4 (by decide) hf (fun c4 hf => ?_) (fun c4 hf => ?_)
  · refine r_iconst (pc := 43) C (v := (-1)) d_Root_boat_43 (by decide) ?_
    exact r_iret (pc := 44) C d_Root_boat_44 hf
  · refine r_iload_n (pc := 7) C 2 d_Root_boat_7 rfl rfl ?_
    refine r_callSi (pc := 8) (As := [.int v2]) (rest := []) C ok_Root_isHourOfDay Lm_Root_251 ⟨by decide, by decide⟩ rfl rfl (Nat.le_of_ble_eq_true rfl) d_Root_boat_8 hf (fun x D1 hc => c_Root_isHourOfDay Γ hc) (fun x3 D4 hf => ?_)
    refine r_if_eq (pc := 11) C (tgt := 43) d_Root_boat_11 (by decide) hf (fun c11 hf => ?_) (fun c11 hf => ?_)
    · refine r_iconst (pc := 43) C (v := (-1)) d_Root_boat_43 (by decide) ?_
      exact r_iret (pc := 44) C d_Root_boat_44 hf
    · refine r_aload_n (pc := 14) C 0 d_Root_boat_14 rfl rfl ?_
      refine g_Root_present (pc := 15) C k_id0 Lf_Root_24 d_Root_boat_15 ?_
      refine g_Street_bed (pc := 18) C kq_Root_present Lf_Root_146 d_Root_boat_18 ?_
      refine r_iload_n (pc := 21) C 3 d_Root_boat_21 rfl rfl ?_
      refine r_callVi (pc := 22) (As := [.int v3]) (rest := []) C ok_Bed_hasHouse Lm_Root_152 (kq_Street_bed kq_Root_present) (by decide) ⟨by decide, by decide⟩ rfl rfl (Nat.le_of_ble_eq_true rfl) d_Root_boat_22 hf (fun x D1 hc => c_Bed_hasHouse Γ (kq_Street_bed kq_Root_present) hc) (fun x5 D6 hf => ?_)
      refine r_if_eq (pc := 25) C (tgt := 43) d_Root_boat_25 (by decide) hf (fun c25 hf => ?_) (fun c25 hf => ?_)
      · refine r_iconst (pc := 43) C (v := (-1)) d_Root_boat_43 (by decide) ?_
        exact r_iret (pc := 44) C d_Root_boat_44 hf
      · refine r_aload_n (pc := 28) C 0 d_Root_boat_28 rfl rfl ?_
        refine g_Root_present (pc := 29) C k_id0 Lf_Root_24 d_Root_boat_29 ?_
        refine g_Street_bed (pc := 32) C kq_Root_present Lf_Root_146 d_Root_boat_32 ?_
        refine r_iload (pc := 35) C 4 d_Root_boat_35 rfl ?_
        refine r_callVi (pc := 37) (As := [.int v4]) (rest := []) C ok_Bed_hasHouse Lm_Root_152 (kq_Street_bed kq_Root_present) (by decide) ⟨by decide, by decide⟩ rfl rfl (Nat.le_of_ble_eq_true rfl) d_Root_boat_37 hf (fun x D1 hc => c_Bed_hasHouse Γ (kq_Street_bed kq_Root_present) hc) (fun x7 D8 hf => ?_)
        refine r_if_ne (pc := 40) C (tgt := 45) d_Root_boat_40 (by decide) hf (fun c40 hf => ?_) (fun c40 hf => ?_)
        · refine r_aload_n (pc := 45) C 0 d_Root_boat_45 rfl rfl ?_
          refine r_iload_n (pc := 46) C 1 d_Root_boat_46 rfl rfl ?_
          refine r_callVv (pc := 47) (As := [.int v1]) (rest := []) C ok_Root_leadAside Lm_Root_228 k_id0 (by decide) ⟨by decide, by decide⟩ rfl rfl (Nat.le_of_ble_eq_true rfl) d_Root_boat_47 hf (fun x D1 hc => c_Root_leadAside Γ hc) (fun x9 D10 hf => ?_)
          refine r_aload_n (pc := 50) C 0 d_Root_boat_50 rfl rfl ?_
          refine g_Root_today (pc := 51) C k_id0 Lf_Root_53 d_Root_boat_51 ?_
          refine r_iload_n (pc := 54) C 2 d_Root_boat_54 rfl rfl ?_
          refine r_callVi (pc := 55) (As := [.int v2]) (rest := []) C ok_Tuesday_cutOffBits Lm_Root_254 kq_Root_today (by decide) ⟨by decide, by decide⟩ rfl rfl (Nat.le_of_ble_eq_true rfl) d_Root_boat_55 hf (fun x D1 hc => c_Tuesday_cutOffBits Γ hc) (fun x11 D12 hf => ?_)
          refine r_istore (pc := 58) (lv' := [(5, .int x11), (0, .ref (Γ.2.1 0)), (1, .int v1), (2, .int v2), (3, .int v3), (4, .int v4)]) C d_Root_boat_58 (Nat.le_of_ble_eq_true rfl) rfl ?_
          refine r_iload_n (pc := 60) C 4 d_Root_boat_60 rfl rfl ?_
          refine r_iload (pc := 61) C 5 d_Root_boat_61 rfl ?_
          refine r_mmin (pc := 63) C Lm_Root_257 (by decide) (Nat.le_of_ble_eq_true rfl) d_Root_boat_63 ?_
          refine r_istore (pc := 66) (lv' := [(6, .int (imin v3 v4)), (5, .int x11), (0, .ref (Γ.2.1 0)), (1, .int v1), (2, .int v2), (3, .int v3), (4, .int v4)]) C d_Root_boat_66 (Nat.le_of_ble_eq_true rfl) rfl ?_
          exact r_lv (pc := 68) C [5, 6, 1, 0] rfl (tl_Root_boat_68 C FU v3 v4 x11 (imin v3 v4) D12 hf)
        · refine r_iconst (pc := 43) C (v := (-1)) d_Root_boat_43 (by decide) ?_
          exact r_iret (pc := 44) C d_Root_boat_44 hf
theorem c_Root_boat (Γ : GmT) {v1 : Int32} {v2 : Int32} {v3 : Int32} {v4 : Int32} {D : Dt} {rr : Int32} {DD : Dt} (hf : f_Root_boat v1 v2 v3 v4 D = some (rr, DD)) : Mt Γ y_Root_boat b_Root_boat 7 (some .int) 7 [.ref (Γ.2.1 0), .int v1, .int v2, .int v3, .int v4] D (some (.int rr)) DD := Mt_of (by decide) (Nat.le_of_ble_eq_true rfl) (fun G C => te_Root_boat C hf)
def b_Root_boatPairs_43 (k7 : Int32 → Int32 → Int32 → Int32 → Dt → Option (Int32 × Dt)) (v1 : Int32) (v2 : Int32) (v3 : Int32) (v4 : Int32) (D : Dt) : Option (Int32 × Dt) :=
  k7 v1 v2 v3 (v4 + 1) D
set_option maxHeartbeats 4000000 in
theorem tb_Root_boatPairs_43 {Γ : GmT} {G : Dt → Nat → List (Nat × Value) → List Value → Prop} {rr : Int32} {DD : Dt} (C : Cx Γ "RiverTuesdays" b_Root_boatPairs 5 2 (some .int) (some (.int rr)) DD G) {k7 : Int32 → Int32 → Int32 → Int32 → Dt → Option (Int32 × Dt)} (hk7 : ∀ (v1 : Int32) (v2 : Int32) (v3 : Int32) (v4 : Int32) (D : Dt), k7 v1 v2 v3 v4 D = some (rr, DD) → G D 7 [(0, .ref (Γ.2.1 0)), (1, .int v1), (2, .int v2), (3, .int v3), (4, .int v4)] []) {v1 : Int32} {v2 : Int32} {v3 : Int32} {v4 : Int32} {D : Dt} (hf : b_Root_boatPairs_43 k7 v1 v2 v3 v4 D = some (rr, DD)) : G D 43 [(0, .ref (Γ.2.1 0)), (1, .int v1), (2, .int v2), (3, .int v3), (4, .int v4)] [] := by
  unfold b_Root_boatPairs_43 at hf
  refine r_iinc (pc := 43) C (v := v4 + 1) (lv' := [(4, .int (v4 + 1)), (0, .ref (Γ.2.1 0)), (1, .int v1), (2, .int v2), (3, .int v3)]) 4 d_Root_boatPairs_43 rfl rfl (Nat.le_of_ble_eq_true rfl) rfl ?_
  refine r_goto (pc := 46) C (tgt := 7) d_Root_boatPairs_46 (by decide) ?_
  exact r_lv (pc := 7) C [1, 2, 3, 4, 0] rfl (hk7 v1 v2 v3 (v4 + 1) D hf)
def s_Root_boatPairs_7 (k7 : Int32 → Int32 → Int32 → Int32 → Dt → Option (Int32 × Dt)) (v1 : Int32) (v2 : Int32) (v3 : Int32) (v4 : Int32) (D : Dt) : Option (Int32 × Dt) :=
  (if (D (3 + 1) 5) ≤ v4 then some (v2, D) else bnd (f_Root_hasBit v1 v4 D) (fun x1 D2 => (if x1 = 0 then b_Root_boatPairs_43 k7 v1 v2 0 v4 D2 else b_Root_boatPairs_43 k7 v1 (v2 + v3) (v3 + 1) v4 D2)))
def lp_Root_boatPairs_7 (n : Nat) : Int32 → Int32 → Int32 → Int32 → Dt → Option (Int32 × Dt) := itr (fun _ _ _ _ _ => none) (s_Root_boatPairs_7) n
set_option maxHeartbeats 4000000 in
theorem ts_Root_boatPairs_7 {Γ : GmT} {G : Dt → Nat → List (Nat × Value) → List Value → Prop} {rr : Int32} {DD : Dt} (C : Cx Γ "RiverTuesdays" b_Root_boatPairs 5 2 (some .int) (some (.int rr)) DD G) {k7 : Int32 → Int32 → Int32 → Int32 → Dt → Option (Int32 × Dt)} (hk7 : ∀ (v1 : Int32) (v2 : Int32) (v3 : Int32) (v4 : Int32) (D : Dt), k7 v1 v2 v3 v4 D = some (rr, DD) → G D 7 [(0, .ref (Γ.2.1 0)), (1, .int v1), (2, .int v2), (3, .int v3), (4, .int v4)] []) {v1 : Int32} {v2 : Int32} {v3 : Int32} {v4 : Int32} {D : Dt} (hf : s_Root_boatPairs_7 k7 v1 v2 v3 v4 D = some (rr, DD)) : G D 7 [(0, .ref (Γ.2.1 0)), (1, .int v1), (2, .int v2), (3, .int v3), (4, .int v4)] [] := by
  unfold s_Root_boatPairs_7 at hf
  refine r_iload (pc := 7) C 4 d_Root_boatPairs_7 rfl ?_
  refine r_aload_n (pc := 9) C 0 d_Root_boatPairs_9 rfl rfl ?_
  refine g_Root_present (pc := 10) C k_id0 Lf_Root_24 d_Root_boatPairs_10 ?_
  refine g_Street_bed (pc := 13) C kq_Root_present Lf_Root_146 d_Root_boatPairs_13 ?_
  refine g_Bed_houses (pc := 16) C (kq_Street_bed kq_Root_present) Lf_Root_149 d_Root_boatPairs_16 ?_
  refine r_icmp_ge (pc := 19) C (tgt := 49) d_Root_boatPairs_19 (by decide) hf (fun c19 hf => ?_) (fun c19 hf => ?_)
  · refine r_iload_n (pc := 49) C 2 d_Root_boatPairs_49 rfl rfl ?_
    exact r_iret (pc := 50) C d_Root_boatPairs_50 hf
  · refine r_iload_n (pc := 22) C 1 d_Root_boatPairs_22 rfl rfl ?_
    refine r_iload (pc := 23) C 4 d_Root_boatPairs_23 rfl ?_
    refine r_callSi (pc := 25) (As := [.int v1, .int v4]) (rest := []) C ok_Root_hasBit Lm_Root_248 ⟨by decide, by decide⟩ rfl rfl (Nat.le_of_ble_eq_true rfl) d_Root_boatPairs_25 hf (fun x D1 hc => c_Root_hasBit Γ hc) (fun x1 D2 hf => ?_)
    refine r_if_eq (pc := 28) C (tgt := 41) d_Root_boatPairs_28 (by decide) hf (fun c28 hf => ?_) (fun c28 hf => ?_)
    · refine r_iconst (pc := 41) C (v := 0) d_Root_boatPairs_41 (by decide) ?_
      refine r_istore_n (pc := 42) (lv' := [(3, .int 0), (0, .ref (Γ.2.1 0)), (1, .int v1), (2, .int v2), (4, .int v4)]) C d_Root_boatPairs_42 rfl (Nat.le_of_ble_eq_true rfl) rfl ?_
      exact r_lv (pc := 43) C [1, 2, 3, 0, 4] rfl (tb_Root_boatPairs_43 C hk7 hf)
    · refine r_iload_n (pc := 31) C 2 d_Root_boatPairs_31 rfl rfl ?_
      refine r_iload_n (pc := 32) C 3 d_Root_boatPairs_32 rfl rfl ?_
      refine r_iadd (pc := 33) C d_Root_boatPairs_33 ?_
      refine r_istore_n (pc := 34) (lv' := [(2, .int (v2 + v3)), (0, .ref (Γ.2.1 0)), (1, .int v1), (3, .int v3), (4, .int v4)]) C d_Root_boatPairs_34 rfl (Nat.le_of_ble_eq_true rfl) rfl ?_
      refine r_iinc (pc := 35) C (v := v3 + 1) (lv' := [(3, .int (v3 + 1)), (2, .int (v2 + v3)), (0, .ref (Γ.2.1 0)), (1, .int v1), (4, .int v4)]) 3 d_Root_boatPairs_35 rfl rfl (Nat.le_of_ble_eq_true rfl) rfl ?_
      refine r_goto (pc := 38) C (tgt := 43) d_Root_boatPairs_38 (by decide) ?_
      exact r_lv (pc := 43) C [2, 3, 1, 0, 4] rfl (tb_Root_boatPairs_43 C hk7 hf)
theorem tl_Root_boatPairs_7 {Γ : GmT} {G : Dt → Nat → List (Nat × Value) → List Value → Prop} {rr : Int32} {DD : Dt} (C : Cx Γ "RiverTuesdays" b_Root_boatPairs 5 2 (some .int) (some (.int rr)) DD G) : ∀ (n : Nat) (v1 : Int32) (v2 : Int32) (v3 : Int32) (v4 : Int32) (D : Dt), lp_Root_boatPairs_7 n v1 v2 v3 v4 D = some (rr, DD) → G D 7 [(0, .ref (Γ.2.1 0)), (1, .int v1), (2, .int v2), (3, .int v3), (4, .int v4)] [] := by
  intro n
  induction n with
  | zero =>
    intro v1 v2 v3 v4 D hf
    exact absurd (show (none : Option (Int32 × Dt)) = some (rr, DD) from hf) (by simp)
  | succ n ih =>
    intro v1 v2 v3 v4 D hf
    exact ts_Root_boatPairs_7 C (k7 := lp_Root_boatPairs_7 n) ih hf
def f_Root_boatPairs (v1 : Int32) (D : Dt) : Option (Int32 × Dt) :=
  lp_Root_boatPairs_7 FU v1 0 0 0 D
set_option maxHeartbeats 4000000 in
theorem te_Root_boatPairs {Γ : GmT} {G : Dt → Nat → List (Nat × Value) → List Value → Prop} {rr : Int32} {DD : Dt} (C : Cx Γ "RiverTuesdays" b_Root_boatPairs 5 2 (some .int) (some (.int rr)) DD G) {v1 : Int32} {D : Dt} (hf : f_Root_boatPairs v1 D = some (rr, DD)) : G D 0 [(0, .ref (Γ.2.1 0)), (1, .int v1)] [] := by
  unfold f_Root_boatPairs at hf
  refine r_iconst (pc := 0) C (v := 0) d_Root_boatPairs_0 (by decide) ?_
  refine r_istore_n (pc := 1) (lv' := [(2, .int 0), (0, .ref (Γ.2.1 0)), (1, .int v1)]) C d_Root_boatPairs_1 rfl (Nat.le_of_ble_eq_true rfl) rfl ?_
  refine r_iconst (pc := 2) C (v := 0) d_Root_boatPairs_2 (by decide) ?_
  refine r_istore_n (pc := 3) (lv' := [(3, .int 0), (2, .int 0), (0, .ref (Γ.2.1 0)), (1, .int v1)]) C d_Root_boatPairs_3 rfl (Nat.le_of_ble_eq_true rfl) rfl ?_
  refine r_iconst (pc := 4) C (v := 0) d_Root_boatPairs_4 (by decide) ?_
  refine r_istore (pc := 5) (lv' := [(4, .int 0), (3, .int 0), (2, .int 0), (0, .ref (Γ.2.1 0)), (1, .int v1)]) C d_Root_boatPairs_5 (Nat.le_of_ble_eq_true rfl) rfl ?_
  exact r_lv (pc := 7) C [3, 4, 2, 1, 0] rfl (tl_Root_boatPairs_7 C FU v1 0 0 0 D hf)
theorem c_Root_boatPairs (Γ : GmT) {v1 : Int32} {D : Dt} {rr : Int32} {DD : Dt} (hf : f_Root_boatPairs v1 D = some (rr, DD)) : Mt Γ y_Root_boatPairs b_Root_boatPairs 5 (some .int) 2 [.ref (Γ.2.1 0), .int v1] D (some (.int rr)) DD := Mt_of (by decide) (Nat.le_of_ble_eq_true rfl) (fun G C => te_Root_boatPairs C hf)
def b_Root_trade_72 (k36 : Int32 → Int32 → Int32 → Dt → Option (Int32 × Dt)) (v3 : Int32) (v4 : Int32) (v5 : Int32) (D : Dt) : Option (Int32 × Dt) :=
  k36 v3 v4 (v5 + 1) D
set_option maxHeartbeats 4000000 in
theorem tb_Root_trade_72 {Γ : GmT} {G : Dt → Nat → List (Nat × Value) → List Value → Prop} {rr : Int32} {DD : Dt} (C : Cx Γ "RiverTuesdays" b_Root_trade 7 7 (some .int) (some (.int rr)) DD G) {k36 : Int32 → Int32 → Int32 → Dt → Option (Int32 × Dt)} (hk36 : ∀ (v3 : Int32) (v4 : Int32) (v5 : Int32) (D : Dt), k36 v3 v4 v5 D = some (rr, DD) → G D 36 [(0, .ref (Γ.2.1 0)), (3, .int v3), (4, .int v4), (5, .int v5)] []) {v3 : Int32} {v4 : Int32} {v5 : Int32} {D : Dt} (hf : b_Root_trade_72 k36 v3 v4 v5 D = some (rr, DD)) : G D 72 [(0, .ref (Γ.2.1 0)), (3, .int v3), (4, .int v4), (5, .int v5)] [] := by
  unfold b_Root_trade_72 at hf
  refine r_iinc (pc := 72) C (v := v5 + 1) (lv' := [(5, .int (v5 + 1)), (0, .ref (Γ.2.1 0)), (3, .int v3), (4, .int v4)]) 3 d_Root_trade_72 rfl rfl (Nat.le_of_ble_eq_true rfl) rfl ?_
  refine r_goto (pc := 75) C (tgt := 36) d_Root_trade_75 (by decide) ?_
  exact r_lv (pc := 36) C [1, 2, 3, 0] rfl (hk36 v3 v4 (v5 + 1) D hf)
def s_Root_trade_36 (k36 : Int32 → Int32 → Int32 → Dt → Option (Int32 × Dt)) (v3 : Int32) (v4 : Int32) (v5 : Int32) (D : Dt) : Option (Int32 × Dt) :=
  (if 8 ≤ v5 then bnd (f_Root_tell v4 v3 D) (fun x9 D10 => some (x9, D10)) else bnd (f_Tuesday_cutOffBits v5 D) (fun x11 D12 => bnd (f_Root_boatPairs x11 D12) (fun x13 D14 => (if x13 ≤ v4 then b_Root_trade_72 k36 v3 v4 v5 D14 else b_Root_trade_72 k36 v5 x13 v5 D14))))
def lp_Root_trade_36 (n : Nat) : Int32 → Int32 → Int32 → Dt → Option (Int32 × Dt) := itr (fun _ _ _ _ => none) (s_Root_trade_36) n
set_option maxHeartbeats 4000000 in
theorem ts_Root_trade_36 {Γ : GmT} {G : Dt → Nat → List (Nat × Value) → List Value → Prop} {rr : Int32} {DD : Dt} (C : Cx Γ "RiverTuesdays" b_Root_trade 7 7 (some .int) (some (.int rr)) DD G) {k36 : Int32 → Int32 → Int32 → Dt → Option (Int32 × Dt)} (hk36 : ∀ (v3 : Int32) (v4 : Int32) (v5 : Int32) (D : Dt), k36 v3 v4 v5 D = some (rr, DD) → G D 36 [(0, .ref (Γ.2.1 0)), (3, .int v3), (4, .int v4), (5, .int v5)] []) {v3 : Int32} {v4 : Int32} {v5 : Int32} {D : Dt} (hf : s_Root_trade_36 k36 v3 v4 v5 D = some (rr, DD)) : G D 36 [(0, .ref (Γ.2.1 0)), (3, .int v3), (4, .int v4), (5, .int v5)] [] := by
  unfold s_Root_trade_36 at hf
  refine r_iload (pc := 36) C 3 d_Root_trade_36 rfl ?_
  refine r_bipush (pc := 38) C (v := 8) d_Root_trade_38 (by decide) ?_
  refine r_icmp_ge (pc := 40) C (tgt := 78) d_Root_trade_40 (by decide) hf (fun c40 hf => ?_) (fun c40 hf => ?_)
  · refine r_aload_n (pc := 78) C 0 d_Root_trade_78 rfl rfl ?_
    refine r_iload (pc := 79) C 2 d_Root_trade_79 rfl ?_
    refine r_iload_n (pc := 81) C 1 d_Root_trade_81 rfl rfl ?_
    refine r_callVi (pc := 82) (As := [.int v4, .int v3]) (rest := []) C ok_Root_tell Lm_Root_99 k_id0 (by decide) ⟨by decide, by decide⟩ rfl rfl (Nat.le_of_ble_eq_true rfl) d_Root_trade_82 hf (fun x D1 hc => c_Root_tell Γ hc) (fun x9 D10 hf => ?_)
    exact r_iret (pc := 85) C d_Root_trade_85 hf
  · refine r_aload_n (pc := 43) C 0 d_Root_trade_43 rfl rfl ?_
    refine r_aload_n (pc := 44) C 0 d_Root_trade_44 rfl rfl ?_
    refine g_Root_today (pc := 45) C k_id0 Lf_Root_53 d_Root_trade_45 ?_
    refine r_iload (pc := 48) C 3 d_Root_trade_48 rfl ?_
    refine r_callVi (pc := 50) (As := [.int v5]) (rest := [.ref (Γ.2.1 0)]) C ok_Tuesday_cutOffBits Lm_Root_254 kq_Root_today (by decide) ⟨by decide, by decide⟩ rfl rfl (Nat.le_of_ble_eq_true rfl) d_Root_trade_50 hf (fun x D1 hc => c_Tuesday_cutOffBits Γ hc) (fun x11 D12 hf => ?_)
    refine r_callVi (pc := 53) (As := [.int x11]) (rest := []) C ok_Root_boatPairs Lm_Root_265 k_id0 (by decide) ⟨by decide, by decide⟩ rfl rfl (Nat.le_of_ble_eq_true rfl) d_Root_trade_53 hf (fun x D1 hc => c_Root_boatPairs Γ hc) (fun x13 D14 hf => ?_)
    refine r_istore (pc := 56) (lv' := [(6, .int x13), (0, .ref (Γ.2.1 0)), (3, .int v3), (4, .int v4), (5, .int v5)]) C d_Root_trade_56 (Nat.le_of_ble_eq_true rfl) rfl ?_
    refine r_iload (pc := 58) C 0 d_Root_trade_58 rfl ?_
    refine r_iload (pc := 60) C 3 d_Root_trade_60 rfl ?_
    refine r_icmp_le (pc := 62) C (tgt := 72) d_Root_trade_62 (by decide) hf (fun c62 hf => ?_) (fun c62 hf => ?_)
    · exact r_lv (pc := 72) C [1, 2, 3, 4] rfl (tb_Root_trade_72 C hk36 hf)
    · refine r_iload (pc := 65) C 4 d_Root_trade_65 rfl ?_
      refine r_istore_n (pc := 67) (lv' := [(3, .int v5), (6, .int x13), (0, .ref (Γ.2.1 0)), (4, .int v4), (5, .int v5)]) C d_Root_trade_67 rfl (Nat.le_of_ble_eq_true rfl) rfl ?_
      refine r_iload (pc := 68) C 1 d_Root_trade_68 rfl ?_
      refine r_istore (pc := 70) (lv' := [(4, .int x13), (3, .int v5), (6, .int x13), (0, .ref (Γ.2.1 0)), (5, .int v5)]) C d_Root_trade_70 (Nat.le_of_ble_eq_true rfl) rfl ?_
      exact r_lv (pc := 72) C [3, 1, 0, 4] rfl (tb_Root_trade_72 C hk36 hf)
theorem tl_Root_trade_36 {Γ : GmT} {G : Dt → Nat → List (Nat × Value) → List Value → Prop} {rr : Int32} {DD : Dt} (C : Cx Γ "RiverTuesdays" b_Root_trade 7 7 (some .int) (some (.int rr)) DD G) : ∀ (n : Nat) (v3 : Int32) (v4 : Int32) (v5 : Int32) (D : Dt), lp_Root_trade_36 n v3 v4 v5 D = some (rr, DD) → G D 36 [(0, .ref (Γ.2.1 0)), (3, .int v3), (4, .int v4), (5, .int v5)] [] := by
  intro n
  induction n with
  | zero =>
    intro v3 v4 v5 D hf
    exact absurd (show (none : Option (Int32 × Dt)) = some (rr, DD) from hf) (by simp)
  | succ n ih =>
    intro v3 v4 v5 D hf
    exact ts_Root_trade_36 C (k36 := lp_Root_trade_36 n) ih hf
def f_Root_trade (v1 : Int32) (D : Dt) : Option (Int32 × Dt) :=
  bnd (f_Root_refusedPlan v1 D) (fun x1 D2 => (if x1 = 0 then bnd (f_Root_leadAside v1 D2) (fun x3 D4 => bnd (f_Tuesday_cutOffBits 0 D4) (fun x5 D6 => bnd (f_Root_boatPairs x5 D6) (fun x7 D8 => lp_Root_trade_36 FU 0 x7 1 D8))) else some (x1, D2)))
set_option maxHeartbeats 4000000 in
theorem te_Root_trade {Γ : GmT} {G : Dt → Nat → List (Nat × Value) → List Value → Prop} {rr : Int32} {DD : Dt} (C : Cx Γ "RiverTuesdays" b_Root_trade 7 7 (some .int) (some (.int rr)) DD G) {v1 : Int32} {D : Dt} (hf : f_Root_trade v1 D = some (rr, DD)) : G D 0 [(0, .ref (Γ.2.1 0)), (1, .int v1)] [] := by
  unfold f_Root_trade at hf
  refine r_aload_n (pc := 0) C 0 d_Root_trade_0 rfl rfl ?_
  refine r_iload_n (pc := 1) C 1 d_Root_trade_1 rfl rfl ?_
  refine r_callVi (pc := 2) (As := [.int v1]) (rest := []) C ok_Root_refusedPlan Lm_Root_225 k_id0 (by decide) ⟨by decide, by decide⟩ rfl rfl (Nat.le_of_ble_eq_true rfl) d_Root_trade_2 hf (fun x D1 hc => c_Root_refusedPlan Γ hc) (fun x1 D2 hf => ?_)
  refine r_istore_n (pc := 5) (lv' := [(2, .int x1), (0, .ref (Γ.2.1 0)), (1, .int v1)]) C d_Root_trade_5 rfl (Nat.le_of_ble_eq_true rfl) rfl ?_
  refine r_iload_n (pc := 6) C 0 d_Root_trade_6 rfl rfl ?_
  refine r_if_eq (pc := 7) C (tgt := 12) d_Root_trade_7 (by decide) hf (fun c7 hf => ?_) (fun c7 hf => ?_)
  · refine r_aload_n (pc := 12) C 1 d_Root_trade_12 rfl rfl ?_
    refine r_iload_n (pc := 13) C 2 d_Root_trade_13 rfl rfl ?_
    refine r_callVv (pc := 14) (As := [.int v1]) (rest := []) C ok_Root_leadAside Lm_Root_228 k_id0 (by decide) ⟨by decide, by decide⟩ rfl rfl (Nat.le_of_ble_eq_true rfl) d_Root_trade_14 hf (fun x D1 hc => c_Root_leadAside Γ hc) (fun x3 D4 hf => ?_)
    refine r_iconst (pc := 17) C (v := 0) d_Root_trade_17 (by decide) ?_
    refine r_istore_n (pc := 18) (lv' := [(3, .int 0), (2, .int x1), (0, .ref (Γ.2.1 0)), (1, .int v1)]) C d_Root_trade_18 rfl (Nat.le_of_ble_eq_true rfl) rfl ?_
    refine r_aload_n (pc := 19) C 2 d_Root_trade_19 rfl rfl ?_
    refine r_aload_n (pc := 20) C 2 d_Root_trade_20 rfl rfl ?_
    refine g_Root_today (pc := 21) C k_id0 Lf_Root_53 d_Root_trade_21 ?_
    refine r_iconst (pc := 24) C (v := 0) d_Root_trade_24 (by decide) ?_
    refine r_callVi (pc := 25) (As := [.int 0]) (rest := [.ref (Γ.2.1 0)]) C ok_Tuesday_cutOffBits Lm_Root_254 kq_Root_today (by decide) ⟨by decide, by decide⟩ rfl rfl (Nat.le_of_ble_eq_true rfl) d_Root_trade_25 hf (fun x D1 hc => c_Tuesday_cutOffBits Γ hc) (fun x5 D6 hf => ?_)
    refine r_callVi (pc := 28) (As := [.int x5]) (rest := []) C ok_Root_boatPairs Lm_Root_265 k_id0 (by decide) ⟨by decide, by decide⟩ rfl rfl (Nat.le_of_ble_eq_true rfl) d_Root_trade_28 hf (fun x D1 hc => c_Root_boatPairs Γ hc) (fun x7 D8 hf => ?_)
    refine r_istore (pc := 31) (lv' := [(4, .int x7), (3, .int 0), (2, .int x1), (0, .ref (Γ.2.1 0)), (1, .int v1)]) C d_Root_trade_31 (Nat.le_of_ble_eq_true rfl) rfl ?_
    refine r_iconst (pc := 33) C (v := 1) d_Root_trade_33 (by decide) ?_
    refine r_istore (pc := 34) (lv' := [(5, .int 1), (4, .int x7), (3, .int 0), (2, .int x1), (0, .ref (Γ.2.1 0)), (1, .int v1)]) C d_Root_trade_34 (Nat.le_of_ble_eq_true rfl) rfl ?_
    exact r_lv (pc := 36) C [4, 2, 1, 0] rfl (tl_Root_trade_36 C FU 0 x7 1 D8 hf)
  · refine r_iload_n (pc := 10) C 0 d_Root_trade_10 rfl rfl ?_
    exact r_iret (pc := 11) C d_Root_trade_11 hf
theorem c_Root_trade (Γ : GmT) {v1 : Int32} {D : Dt} {rr : Int32} {DD : Dt} (hf : f_Root_trade v1 D = some (rr, DD)) : Mt Γ y_Root_trade b_Root_trade 7 (some .int) 7 [.ref (Γ.2.1 0), .int v1] D (some (.int rr)) DD := Mt_of (by decide) (Nat.le_of_ble_eq_true rfl) (fun G C => te_Root_trade C hf)
def f_Root_marks (v1 : Int32) (v2 : Int32) (D : Dt) : Option (Int32 × Dt) :=
  bnd (f_Root_isRow v2 D) (fun x1 D2 => (if x1 = 0 then some ((-1), D2) else bnd (f_Root_refusedPlan v1 D2) (fun x3 D4 => (if x3 = 0 then bnd (f_Root_leadAside v1 D4) (fun x5 D6 => (if inb v2 6 = true then (if inb 8 9 = true then bnd (f_Row_takeFrom (111 + 2 * v2.toNatClampNeg) (37 + 1 * (8 : Int32).toNatClampNeg) (D6 (3 + 1) 5) D6) (fun x7 D8 => (if inb v2 6 = true then bnd (f_Row_greatest (111 + 2 * v2.toNatClampNeg) D8) (fun x9 D10 => some (x9, D10)) else none)) else none) else none)) else some (x3, D4)))))
set_option maxHeartbeats 4000000 in
theorem te_Root_marks {Γ : GmT} {G : Dt → Nat → List (Nat × Value) → List Value → Prop} {rr : Int32} {DD : Dt} (C : Cx Γ "RiverTuesdays" b_Root_marks 4 7 (some .int) (some (.int rr)) DD G) {v1 : Int32} {v2 : Int32} {D : Dt} (hf : f_Root_marks v1 v2 D = some (rr, DD)) : G D 0 [(0, .ref (Γ.2.1 0)), (1, .int v1), (2, .int v2)] [] := by
  unfold f_Root_marks at hf
  refine r_iload_n (pc := 0) C 2 d_Root_marks_0 rfl rfl ?_
  refine r_callSi (pc := 1) (As := [.int v2]) (rest := []) C ok_Root_isRow Lm_Root_80 ⟨by decide, by decide⟩ rfl rfl (Nat.le_of_ble_eq_true rfl) d_Root_marks_1 hf (fun x D1 hc => c_Root_isRow Γ hc) (fun x1 D2 hf => ?_)
  refine r_if_ne (pc := 4) C (tgt := 9) d_Root_marks_4 (by decide) hf (fun c4 hf => ?_) (fun c4 hf => ?_)
  · refine r_aload_n (pc := 9) C 0 d_Root_marks_9 rfl rfl ?_
    refine r_iload_n (pc := 10) C 1 d_Root_marks_10 rfl rfl ?_
    refine r_callVi (pc := 11) (As := [.int v1]) (rest := []) C ok_Root_refusedPlan Lm_Root_225 k_id0 (by decide) ⟨by decide, by decide⟩ rfl rfl (Nat.le_of_ble_eq_true rfl) d_Root_marks_11 hf (fun x D1 hc => c_Root_refusedPlan Γ hc) (fun x3 D4 hf => ?_)
    refine r_istore_n (pc := 14) (lv' := [(3, .int x3), (0, .ref (Γ.2.1 0)), (1, .int v1), (2, .int v2)]) C d_Root_marks_14 rfl (Nat.le_of_ble_eq_true rfl) rfl ?_
    refine r_iload_n (pc := 15) C 0 d_Root_marks_15 rfl rfl ?_
    refine r_if_eq (pc := 16) C (tgt := 21) d_Root_marks_16 (by decide) hf (fun c16 hf => ?_) (fun c16 hf => ?_)
    · refine r_aload_n (pc := 21) C 1 d_Root_marks_21 rfl rfl ?_
      refine r_iload_n (pc := 22) C 2 d_Root_marks_22 rfl rfl ?_
      refine r_callVv (pc := 23) (As := [.int v1]) (rest := []) C ok_Root_leadAside Lm_Root_228 k_id0 (by decide) ⟨by decide, by decide⟩ rfl rfl (Nat.le_of_ble_eq_true rfl) d_Root_marks_23 hf (fun x D1 hc => c_Root_leadAside Γ hc) (fun x5 D6 hf => ?_)
      refine r_aload_n (pc := 26) C 1 d_Root_marks_26 rfl rfl ?_
      refine g_Root_rows (pc := 27) C k_id0 Lf_Root_11 d_Root_marks_27 ?_
      refine r_iload_n (pc := 30) C 3 d_Root_marks_30 rfl rfl ?_
      refine r_aald13 (pc := 31) C kq_Root_rows d_Root_marks_31 hf (fun hn31 hf => ?_)
      refine r_aload_n (pc := 32) C 1 d_Root_marks_32 rfl rfl ?_
      refine g_Root_today (pc := 33) C k_id0 Lf_Root_53 d_Root_marks_33 ?_
      refine g_Tuesday_markAt (pc := 36) C kq_Root_today Lf_Root_268 d_Root_marks_36 ?_
      refine r_bipush (pc := 39) C (v := 8) d_Root_marks_39 (by decide) ?_
      refine r_aald17 (pc := 41) C kq_Tuesday_markAt d_Root_marks_41 hf (fun hn41 hf => ?_)
      refine r_aload_n (pc := 42) C 1 d_Root_marks_42 rfl rfl ?_
      refine g_Root_present (pc := 43) C k_id0 Lf_Root_24 d_Root_marks_43 ?_
      refine g_Street_bed (pc := 46) C kq_Root_present Lf_Root_146 d_Root_marks_46 ?_
      refine g_Bed_houses (pc := 49) C (kq_Street_bed kq_Root_present) Lf_Root_149 d_Root_marks_49 ?_
      refine r_callVv (pc := 52) (As := [.ref (Γ.2.1 (37 + 1 * (8 : Int32).toNatClampNeg)), .int (D6 (3 + 1) 5)]) (rest := []) C ok_Row_takeFrom Lm_Root_272 (ke13 _ (inb_lt hn31)) (by decide) ⟨by decide, by decide⟩ rfl rfl (Nat.le_of_ble_eq_true rfl) d_Root_marks_52 hf (fun x D1 hc => c_Row_takeFrom Γ (ke13 _ (inb_lt hn31)) ((ke17 _ (inb_lt hn41))).1 hc) (fun x7 D8 hf => ?_)
      refine r_aload_n (pc := 55) C 1 d_Root_marks_55 rfl rfl ?_
      refine g_Root_rows (pc := 56) C k_id0 Lf_Root_11 d_Root_marks_56 ?_
      refine r_iload_n (pc := 59) C 3 d_Root_marks_59 rfl rfl ?_
      refine r_aald13 (pc := 60) C kq_Root_rows d_Root_marks_60 hf (fun hn60 hf => ?_)
      refine r_callVi (pc := 61) (As := []) (rest := []) C ok_Row_greatest Lm_Root_275 (ke13 _ (inb_lt hn60)) (by decide) ⟨by decide, by decide⟩ rfl rfl (Nat.le_of_ble_eq_true rfl) d_Root_marks_61 hf (fun x D1 hc => c_Row_greatest Γ (ke13 _ (inb_lt hn60)) hc) (fun x9 D10 hf => ?_)
      exact r_iret (pc := 64) C d_Root_marks_64 hf
    · refine r_iload_n (pc := 19) C 0 d_Root_marks_19 rfl rfl ?_
      exact r_iret (pc := 20) C d_Root_marks_20 hf
  · refine r_iconst (pc := 7) C (v := (-1)) d_Root_marks_7 (by decide) ?_
    exact r_iret (pc := 8) C d_Root_marks_8 hf
theorem c_Root_marks (Γ : GmT) {v1 : Int32} {v2 : Int32} {D : Dt} {rr : Int32} {DD : Dt} (hf : f_Root_marks v1 v2 D = some (rr, DD)) : Mt Γ y_Root_marks b_Root_marks 4 (some .int) 7 [.ref (Γ.2.1 0), .int v1, .int v2] D (some (.int rr)) DD := Mt_of (by decide) (Nat.le_of_ble_eq_true rfl) (fun G C => te_Root_marks C hf)
def f_Root_stands (v1 : Int32) (D : Dt) : Option (Int32 × Dt) :=
  bnd (f_Root_refusedPlan v1 D) (fun x1 D2 => (if x1 = 0 then bnd (f_Root_leadAside v1 D2) (fun x3 D4 => bnd (f_Tuesday_runOut D4) (fun x5 D6 => (if inb 8 9 = true then bnd (f_Waters_allAhead (46 + 6 * (8 : Int32).toNatClampNeg) D6) (fun x7 D8 => bnd (f_Root_tell x5 x7 D8) (fun x9 D10 => some (x9, D10))) else none))) else some (x1, D2)))
set_option maxHeartbeats 4000000 in
theorem te_Root_stands {Γ : GmT} {G : Dt → Nat → List (Nat × Value) → List Value → Prop} {rr : Int32} {DD : Dt} (C : Cx Γ "RiverTuesdays" b_Root_stands 3 7 (some .int) (some (.int rr)) DD G) {v1 : Int32} {D : Dt} (hf : f_Root_stands v1 D = some (rr, DD)) : G D 0 [(0, .ref (Γ.2.1 0)), (1, .int v1)] [] := by
  unfold f_Root_stands at hf
  refine r_aload_n (pc := 0) C 0 d_Root_stands_0 rfl rfl ?_
  refine r_iload_n (pc := 1) C 1 d_Root_stands_1 rfl rfl ?_
  refine r_callVi (pc := 2) (As := [.int v1]) (rest := []) C ok_Root_refusedPlan Lm_Root_225 k_id0 (by decide) ⟨by decide, by decide⟩ rfl rfl (Nat.le_of_ble_eq_true rfl) d_Root_stands_2 hf (fun x D1 hc => c_Root_refusedPlan Γ hc) (fun x1 D2 hf => ?_)
  refine r_istore_n (pc := 5) (lv' := [(2, .int x1), (0, .ref (Γ.2.1 0)), (1, .int v1)]) C d_Root_stands_5 rfl (Nat.le_of_ble_eq_true rfl) rfl ?_
  refine r_iload_n (pc := 6) C 0 d_Root_stands_6 rfl rfl ?_
  refine r_if_eq (pc := 7) C (tgt := 12) d_Root_stands_7 (by decide) hf (fun c7 hf => ?_) (fun c7 hf => ?_)
  · refine r_aload_n (pc := 12) C 1 d_Root_stands_12 rfl rfl ?_
    refine r_iload_n (pc := 13) C 2 d_Root_stands_13 rfl rfl ?_
    refine r_callVv (pc := 14) (As := [.int v1]) (rest := []) C ok_Root_leadAside Lm_Root_228 k_id0 (by decide) ⟨by decide, by decide⟩ rfl rfl (Nat.le_of_ble_eq_true rfl) d_Root_stands_14 hf (fun x D1 hc => c_Root_leadAside Γ hc) (fun x3 D4 hf => ?_)
    refine r_aload_n (pc := 17) C 1 d_Root_stands_17 rfl rfl ?_
    refine r_aload_n (pc := 18) C 1 d_Root_stands_18 rfl rfl ?_
    refine g_Root_today (pc := 19) C k_id0 Lf_Root_53 d_Root_stands_19 ?_
    refine r_callVi (pc := 22) (As := []) (rest := [.ref (Γ.2.1 0)]) C ok_Tuesday_runOut Lm_Root_278 kq_Root_today (by decide) ⟨by decide, by decide⟩ rfl rfl (Nat.le_of_ble_eq_true rfl) d_Root_stands_22 hf (fun x D1 hc => c_Tuesday_runOut Γ hc) (fun x5 D6 hf => ?_)
    refine r_aload_n (pc := 25) C 1 d_Root_stands_25 rfl rfl ?_
    refine g_Root_today (pc := 26) C k_id0 Lf_Root_53 d_Root_stands_26 ?_
    refine g_Tuesday_behind (pc := 29) C kq_Root_today Lf_Root_281 d_Root_stands_29 ?_
    refine r_bipush (pc := 32) C (v := 8) d_Root_stands_32 (by decide) ?_
    refine r_aald16 (pc := 34) C kq_Tuesday_behind d_Root_stands_34 hf (fun hn34 hf => ?_)
    refine r_callVi (pc := 35) (As := []) (rest := [.int x5, .ref (Γ.2.1 0)]) C ok_Waters_allAhead Lm_Root_208 (ke16 _ (inb_lt hn34)) (by decide) ⟨by decide, by decide⟩ rfl rfl (Nat.le_of_ble_eq_true rfl) d_Root_stands_35 hf (fun x D1 hc => c_Waters_allAhead Γ (ke16 _ (inb_lt hn34)) hc) (fun x7 D8 hf => ?_)
    refine r_callVi (pc := 38) (As := [.int x5, .int x7]) (rest := []) C ok_Root_tell Lm_Root_99 k_id0 (by decide) ⟨by decide, by decide⟩ rfl rfl (Nat.le_of_ble_eq_true rfl) d_Root_stands_38 hf (fun x D1 hc => c_Root_tell Γ hc) (fun x9 D10 hf => ?_)
    exact r_iret (pc := 41) C d_Root_stands_41 hf
  · refine r_iload_n (pc := 10) C 0 d_Root_stands_10 rfl rfl ?_
    exact r_iret (pc := 11) C d_Root_stands_11 hf
theorem c_Root_stands (Γ : GmT) {v1 : Int32} {D : Dt} {rr : Int32} {DD : Dt} (hf : f_Root_stands v1 D = some (rr, DD)) : Mt Γ y_Root_stands b_Root_stands 3 (some .int) 7 [.ref (Γ.2.1 0), .int v1] D (some (.int rr)) DD := Mt_of (by decide) (Nat.le_of_ble_eq_true rfl) (fun G C => te_Root_stands C hf)
def s_Root_tuesday_32 (k32 : Int32 → Int32 → Int32 → Dt → Option (Int32 × Dt)) (v1 : Int32) (v3 : Int32) (v4 : Int32) (D : Dt) : Option (Int32 × Dt) :=
  (if 8 ≤ v4 then some (v3, D) else bnd (f_Street_pass 3 ((v1 >>> (v4 &&& 31)) &&& 1) D) (fun x5 D6 => bnd (f_Waters_harmOfHour (3 + 7) (3 + 1) D6) (fun x7 D8 => k32 v1 (v3 + x7) (v4 + 1) D8)))
def lp_Root_tuesday_32 (n : Nat) : Int32 → Int32 → Int32 → Dt → Option (Int32 × Dt) := itr (fun _ _ _ _ => none) (s_Root_tuesday_32) n
set_option maxHeartbeats 4000000 in
theorem ts_Root_tuesday_32 {Γ : GmT} {G : Dt → Nat → List (Nat × Value) → List Value → Prop} {rr : Int32} {DD : Dt} (C : Cx Γ "RiverTuesdays" b_Root_tuesday 5 5 (some .int) (some (.int rr)) DD G) {k32 : Int32 → Int32 → Int32 → Dt → Option (Int32 × Dt)} (hk32 : ∀ (v1 : Int32) (v3 : Int32) (v4 : Int32) (D : Dt), k32 v1 v3 v4 D = some (rr, DD) → G D 32 [(0, .ref (Γ.2.1 0)), (1, .int v1), (3, .int v3), (4, .int v4)] []) {v1 : Int32} {v3 : Int32} {v4 : Int32} {D : Dt} (hf : s_Root_tuesday_32 k32 v1 v3 v4 D = some (rr, DD)) : G D 32 [(0, .ref (Γ.2.1 0)), (1, .int v1), (3, .int v3), (4, .int v4)] [] := by
  unfold s_Root_tuesday_32 at hf
  refine r_iload (pc := 32) C 3 d_Root_tuesday_32 rfl ?_
  refine r_bipush (pc := 34) C (v := 8) d_Root_tuesday_34 (by decide) ?_
  refine r_icmp_ge (pc := 36) C (tgt := 78) d_Root_tuesday_36 (by decide) hf (fun c36 hf => ?_) (fun c36 hf => ?_)
  · refine r_iload_n (pc := 78) C 2 d_Root_tuesday_78 rfl rfl ?_
    exact r_iret (pc := 79) C d_Root_tuesday_79 hf
  · refine r_aload_n (pc := 39) C 0 d_Root_tuesday_39 rfl rfl ?_
    refine g_Root_present (pc := 40) C k_id0 Lf_Root_24 d_Root_tuesday_40 ?_
    refine r_iload_n (pc := 43) C 1 d_Root_tuesday_43 rfl rfl ?_
    refine r_iload (pc := 44) C 3 d_Root_tuesday_44 rfl ?_
    refine r_ishr (pc := 46) C d_Root_tuesday_46 ?_
    refine r_iconst (pc := 47) C (v := 1) d_Root_tuesday_47 (by decide) ?_
    refine r_iand (pc := 48) C d_Root_tuesday_48 ?_
    refine r_callVv (pc := 49) (As := [.int ((v1 >>> (v4 &&& 31)) &&& 1)]) (rest := []) C ok_Street_pass Lm_Root_205 kq_Root_present (by decide) ⟨by decide, by decide⟩ rfl rfl (Nat.le_of_ble_eq_true rfl) d_Root_tuesday_49 hf (fun x D1 hc => c_Street_pass Γ kq_Root_present hc) (fun x5 D6 hf => ?_)
    refine r_iload_n (pc := 52) C 2 d_Root_tuesday_52 rfl rfl ?_
    refine r_aload_n (pc := 53) C 0 d_Root_tuesday_53 rfl rfl ?_
    refine g_Root_present (pc := 54) C k_id0 Lf_Root_24 d_Root_tuesday_54 ?_
    refine g_Street_now (pc := 57) C kq_Root_present Lf_Root_168 d_Root_tuesday_57 ?_
    refine r_aload_n (pc := 60) C 0 d_Root_tuesday_60 rfl rfl ?_
    refine g_Root_present (pc := 61) C k_id0 Lf_Root_24 d_Root_tuesday_61 ?_
    refine g_Street_bed (pc := 64) C kq_Root_present Lf_Root_146 d_Root_tuesday_64 ?_
    refine r_callVi (pc := 67) (As := [.ref (Γ.2.1 (3 + 1))]) (rest := [.int v3]) C ok_Waters_harmOfHour Lm_Root_285 (kq_Street_now kq_Root_present) (by decide) ⟨by decide, by decide⟩ rfl rfl (Nat.le_of_ble_eq_true rfl) d_Root_tuesday_67 hf (fun x D1 hc => c_Waters_harmOfHour Γ (kq_Street_now kq_Root_present) (kq_Street_bed kq_Root_present) hc) (fun x7 D8 hf => ?_)
    refine r_iadd (pc := 70) C d_Root_tuesday_70 ?_
    refine r_istore_n (pc := 71) (lv' := [(3, .int (v3 + x7)), (0, .ref (Γ.2.1 0)), (1, .int v1), (4, .int v4)]) C d_Root_tuesday_71 rfl (Nat.le_of_ble_eq_true rfl) rfl ?_
    refine r_iinc (pc := 72) C (v := v4 + 1) (lv' := [(4, .int (v4 + 1)), (3, .int (v3 + x7)), (0, .ref (Γ.2.1 0)), (1, .int v1)]) 3 d_Root_tuesday_72 rfl rfl (Nat.le_of_ble_eq_true rfl) rfl ?_
    refine r_goto (pc := 75) C (tgt := 32) d_Root_tuesday_75 (by decide) ?_
    exact r_lv (pc := 32) C [2, 3, 1, 0] rfl (hk32 v1 (v3 + x7) (v4 + 1) D8 hf)
theorem tl_Root_tuesday_32 {Γ : GmT} {G : Dt → Nat → List (Nat × Value) → List Value → Prop} {rr : Int32} {DD : Dt} (C : Cx Γ "RiverTuesdays" b_Root_tuesday 5 5 (some .int) (some (.int rr)) DD G) : ∀ (n : Nat) (v1 : Int32) (v3 : Int32) (v4 : Int32) (D : Dt), lp_Root_tuesday_32 n v1 v3 v4 D = some (rr, DD) → G D 32 [(0, .ref (Γ.2.1 0)), (1, .int v1), (3, .int v3), (4, .int v4)] [] := by
  intro n
  induction n with
  | zero =>
    intro v1 v3 v4 D hf
    exact absurd (show (none : Option (Int32 × Dt)) = some (rr, DD) from hf) (by simp)
  | succ n ih =>
    intro v1 v3 v4 D hf
    exact ts_Root_tuesday_32 C (k32 := lp_Root_tuesday_32 n) ih hf
def f_Root_tuesday (v1 : Int32) (D : Dt) : Option (Int32 × Dt) :=
  bnd (f_Root_refusedPlan v1 D) (fun x1 D2 => (if x1 = 0 then bnd (f_Street_hasRoomFor 3 8 D2) (fun x3 D4 => (if x3 = 0 then some ((-2), D4) else lp_Root_tuesday_32 FU v1 0 0 D4)) else some (x1, D2)))
set_option maxHeartbeats 4000000 in
theorem te_Root_tuesday {Γ : GmT} {G : Dt → Nat → List (Nat × Value) → List Value → Prop} {rr : Int32} {DD : Dt} (C : Cx Γ "RiverTuesdays" b_Root_tuesday 5 5 (some .int) (some (.int rr)) DD G) {v1 : Int32} {D : Dt} (hf : f_Root_tuesday v1 D = some (rr, DD)) : G D 0 [(0, .ref (Γ.2.1 0)), (1, .int v1)] [] := by
  unfold f_Root_tuesday at hf
  refine r_aload_n (pc := 0) C 0 d_Root_tuesday_0 rfl rfl ?_
  refine r_iload_n (pc := 1) C 1 d_Root_tuesday_1 rfl rfl ?_
  refine r_callVi (pc := 2) (As := [.int v1]) (rest := []) C ok_Root_refusedPlan Lm_Root_225 k_id0 (by decide) ⟨by decide, by decide⟩ rfl rfl (Nat.le_of_ble_eq_true rfl) d_Root_tuesday_2 hf (fun x D1 hc => c_Root_refusedPlan Γ hc) (fun x1 D2 hf => ?_)
  refine r_istore_n (pc := 5) (lv' := [(2, .int x1), (0, .ref (Γ.2.1 0)), (1, .int v1)]) C d_Root_tuesday_5 rfl (Nat.le_of_ble_eq_true rfl) rfl ?_
  refine r_iload_n (pc := 6) C 0 d_Root_tuesday_6 rfl rfl ?_
  refine r_if_eq (pc := 7) C (tgt := 12) d_Root_tuesday_7 (by decide) hf (fun c7 hf => ?_) (fun c7 hf => ?_)
  · refine r_aload_n (pc := 12) C 1 d_Root_tuesday_12 rfl rfl ?_
    refine g_Root_present (pc := 13) C k_id0 Lf_Root_24 d_Root_tuesday_13 ?_
    refine r_bipush (pc := 16) C (v := 8) d_Root_tuesday_16 (by decide) ?_
    refine r_callVi (pc := 18) (As := [.int 8]) (rest := []) C ok_Street_hasRoomFor Lm_Root_199 kq_Root_present (by decide) ⟨by decide, by decide⟩ rfl rfl (Nat.le_of_ble_eq_true rfl) d_Root_tuesday_18 hf (fun x D1 hc => c_Street_hasRoomFor Γ kq_Root_present hc) (fun x3 D4 hf => ?_)
    refine r_if_ne (pc := 21) C (tgt := 27) d_Root_tuesday_21 (by decide) hf (fun c21 hf => ?_) (fun c21 hf => ?_)
    · refine r_iconst (pc := 27) C (v := 0) d_Root_tuesday_27 (by decide) ?_
      refine r_istore_n (pc := 28) (lv' := [(3, .int 0), (2, .int x1), (0, .ref (Γ.2.1 0)), (1, .int v1)]) C d_Root_tuesday_28 rfl (Nat.le_of_ble_eq_true rfl) rfl ?_
      refine r_iconst (pc := 29) C (v := 0) d_Root_tuesday_29 (by decide) ?_
      refine r_istore (pc := 30) (lv' := [(4, .int 0), (3, .int 0), (2, .int x1), (0, .ref (Γ.2.1 0)), (1, .int v1)]) C d_Root_tuesday_30 (Nat.le_of_ble_eq_true rfl) rfl ?_
      exact r_lv (pc := 32) C [3, 4, 1, 0] rfl (tl_Root_tuesday_32 C FU v1 0 0 D4 hf)
    · refine r_bipush (pc := 24) C (v := (-2)) d_Root_tuesday_24 (by decide) ?_
      exact r_iret (pc := 26) C d_Root_tuesday_26 hf
  · refine r_iload_n (pc := 10) C 0 d_Root_tuesday_10 rfl rfl ?_
    exact r_iret (pc := 11) C d_Root_tuesday_11 hf
theorem c_Root_tuesday (Γ : GmT) {v1 : Int32} {D : Dt} {rr : Int32} {DD : Dt} (hf : f_Root_tuesday v1 D = some (rr, DD)) : Mt Γ y_Root_tuesday b_Root_tuesday 5 (some .int) 5 [.ref (Γ.2.1 0), .int v1] D (some (.int rr)) DD := Mt_of (by decide) (Nat.le_of_ble_eq_true rfl) (fun G C => te_Root_tuesday C hf)
