/-! 12.waters: printed by wip/whole/gen/gmeth.py out of the bytecode -/
abbrev b_Waters_begin : ByteArray := prog_9_method_2_code
abbrev y_Waters_begin : MethodName := ⟨"RiverTuesdays$Waters", "begin", "()V"⟩
theorem ok_Waters_begin : okV y_Waters_begin b_Waters_begin 1 none 0 7 := ⟨mGW (List.mem_of_getElem? (i := 513) (by decide +kernel)) rfl, mGW (List.mem_of_getElem? (i := 514) (by decide +kernel)) rfl, mGW (List.mem_of_getElem? (i := 77) (by decide +kernel)) rfl, mGW (List.mem_of_getElem? (i := 515) (by decide +kernel)) rfl, ⟨by decide, by decide, by decide +kernel⟩, rfl⟩
theorem d_Waters_begin_0 : decode b_Waters_begin 0 = .ok (.aload_n 0, 1) := by decide +kernel
theorem d_Waters_begin_1 : decode b_Waters_begin 1 = .ok (.getfield 9, 3) := by decide +kernel
theorem d_Waters_begin_4 : decode b_Waters_begin 4 = .ok (.iconst 0, 1) := by decide +kernel
theorem d_Waters_begin_5 : decode b_Waters_begin 5 = .ok (.invokestatic 27, 3) := by decide +kernel
theorem d_Waters_begin_8 : decode b_Waters_begin 8 = .ok (.aload_n 0, 1) := by decide +kernel
theorem d_Waters_begin_9 : decode b_Waters_begin 9 = .ok (.getfield 15, 3) := by decide +kernel
theorem d_Waters_begin_12 : decode b_Waters_begin 12 = .ok (.iconst 0, 1) := by decide +kernel
theorem d_Waters_begin_13 : decode b_Waters_begin 13 = .ok (.invokestatic 27, 3) := by decide +kernel
theorem d_Waters_begin_16 : decode b_Waters_begin 16 = .ok (.aload_n 0, 1) := by decide +kernel
theorem d_Waters_begin_17 : decode b_Waters_begin 17 = .ok (.getfield 18, 3) := by decide +kernel
theorem d_Waters_begin_20 : decode b_Waters_begin 20 = .ok (.iconst 0, 1) := by decide +kernel
theorem d_Waters_begin_21 : decode b_Waters_begin 21 = .ok (.invokestatic 27, 3) := by decide +kernel
theorem d_Waters_begin_24 : decode b_Waters_begin 24 = .ok (.aload_n 0, 1) := by decide +kernel
theorem d_Waters_begin_25 : decode b_Waters_begin 25 = .ok (.iconst 0, 1) := by decide +kernel
theorem d_Waters_begin_26 : decode b_Waters_begin 26 = .ok (.putfield 33, 3) := by decide +kernel
theorem d_Waters_begin_29 : decode b_Waters_begin 29 = .ok (.aload_n 0, 1) := by decide +kernel
theorem d_Waters_begin_30 : decode b_Waters_begin 30 = .ok (.iconst 0, 1) := by decide +kernel
theorem d_Waters_begin_31 : decode b_Waters_begin 31 = .ok (.putfield 37, 3) := by decide +kernel
theorem d_Waters_begin_34 : decode b_Waters_begin 34 = .ok (.return_, 1) := by decide +kernel
abbrev b_Waters_takeFrom : ByteArray := prog_9_method_3_code
abbrev y_Waters_takeFrom : MethodName := ⟨"RiverTuesdays$Waters", "takeFrom", "(LRiverTuesdays$Waters;)V"⟩
theorem ok_Waters_takeFrom : okV y_Waters_takeFrom b_Waters_takeFrom 2 none 1 7 := ⟨mGW (List.mem_of_getElem? (i := 546) (by decide +kernel)) rfl, mGW (List.mem_of_getElem? (i := 547) (by decide +kernel)) rfl, mGW (List.mem_of_getElem? (i := 77) (by decide +kernel)) rfl, mGW (List.mem_of_getElem? (i := 548) (by decide +kernel)) rfl, ⟨by decide, by decide, by decide +kernel⟩, rfl⟩
theorem d_Waters_takeFrom_0 : decode b_Waters_takeFrom 0 = .ok (.aload_n 1, 1) := by decide +kernel
theorem d_Waters_takeFrom_1 : decode b_Waters_takeFrom 1 = .ok (.getfield 9, 3) := by decide +kernel
theorem d_Waters_takeFrom_4 : decode b_Waters_takeFrom 4 = .ok (.iconst 0, 1) := by decide +kernel
theorem d_Waters_takeFrom_5 : decode b_Waters_takeFrom 5 = .ok (.aload_n 0, 1) := by decide +kernel
theorem d_Waters_takeFrom_6 : decode b_Waters_takeFrom 6 = .ok (.getfield 9, 3) := by decide +kernel
theorem d_Waters_takeFrom_9 : decode b_Waters_takeFrom 9 = .ok (.iconst 0, 1) := by decide +kernel
theorem d_Waters_takeFrom_10 : decode b_Waters_takeFrom 10 = .ok (.bipush 8, 2) := by decide +kernel
theorem d_Waters_takeFrom_12 : decode b_Waters_takeFrom 12 = .ok (.invokestatic 40, 3) := by decide +kernel
theorem d_Waters_takeFrom_15 : decode b_Waters_takeFrom 15 = .ok (.aload_n 1, 1) := by decide +kernel
theorem d_Waters_takeFrom_16 : decode b_Waters_takeFrom 16 = .ok (.getfield 15, 3) := by decide +kernel
theorem d_Waters_takeFrom_19 : decode b_Waters_takeFrom 19 = .ok (.iconst 0, 1) := by decide +kernel
theorem d_Waters_takeFrom_20 : decode b_Waters_takeFrom 20 = .ok (.aload_n 0, 1) := by decide +kernel
theorem d_Waters_takeFrom_21 : decode b_Waters_takeFrom 21 = .ok (.getfield 15, 3) := by decide +kernel
theorem d_Waters_takeFrom_24 : decode b_Waters_takeFrom 24 = .ok (.iconst 0, 1) := by decide +kernel
theorem d_Waters_takeFrom_25 : decode b_Waters_takeFrom 25 = .ok (.bipush 8, 2) := by decide +kernel
theorem d_Waters_takeFrom_27 : decode b_Waters_takeFrom 27 = .ok (.invokestatic 40, 3) := by decide +kernel
theorem d_Waters_takeFrom_30 : decode b_Waters_takeFrom 30 = .ok (.aload_n 1, 1) := by decide +kernel
theorem d_Waters_takeFrom_31 : decode b_Waters_takeFrom 31 = .ok (.getfield 18, 3) := by decide +kernel
theorem d_Waters_takeFrom_34 : decode b_Waters_takeFrom 34 = .ok (.iconst 0, 1) := by decide +kernel
theorem d_Waters_takeFrom_35 : decode b_Waters_takeFrom 35 = .ok (.aload_n 0, 1) := by decide +kernel
theorem d_Waters_takeFrom_36 : decode b_Waters_takeFrom 36 = .ok (.getfield 18, 3) := by decide +kernel
theorem d_Waters_takeFrom_39 : decode b_Waters_takeFrom 39 = .ok (.iconst 0, 1) := by decide +kernel
theorem d_Waters_takeFrom_40 : decode b_Waters_takeFrom 40 = .ok (.bipush 8, 2) := by decide +kernel
theorem d_Waters_takeFrom_42 : decode b_Waters_takeFrom 42 = .ok (.invokestatic 40, 3) := by decide +kernel
theorem d_Waters_takeFrom_45 : decode b_Waters_takeFrom 45 = .ok (.aload_n 0, 1) := by decide +kernel
theorem d_Waters_takeFrom_46 : decode b_Waters_takeFrom 46 = .ok (.aload_n 1, 1) := by decide +kernel
theorem d_Waters_takeFrom_47 : decode b_Waters_takeFrom 47 = .ok (.getfield 33, 3) := by decide +kernel
theorem d_Waters_takeFrom_50 : decode b_Waters_takeFrom 50 = .ok (.putfield 33, 3) := by decide +kernel
theorem d_Waters_takeFrom_53 : decode b_Waters_takeFrom 53 = .ok (.aload_n 0, 1) := by decide +kernel
theorem d_Waters_takeFrom_54 : decode b_Waters_takeFrom 54 = .ok (.aload_n 1, 1) := by decide +kernel
theorem d_Waters_takeFrom_55 : decode b_Waters_takeFrom 55 = .ok (.getfield 37, 3) := by decide +kernel
theorem d_Waters_takeFrom_58 : decode b_Waters_takeFrom 58 = .ok (.putfield 37, 3) := by decide +kernel
theorem d_Waters_takeFrom_61 : decode b_Waters_takeFrom 61 = .ok (.return_, 1) := by decide +kernel
abbrev b_Waters_saveTo : ByteArray := prog_9_method_4_code
abbrev y_Waters_saveTo : MethodName := ⟨"RiverTuesdays$Waters", "saveTo", "([II)V"⟩
theorem ok_Waters_saveTo : okV y_Waters_saveTo b_Waters_saveTo 3 none 2 7 := ⟨mGW (List.mem_of_getElem? (i := 616) (by decide +kernel)) rfl, mGW (List.mem_of_getElem? (i := 617) (by decide +kernel)) rfl, mGW (List.mem_of_getElem? (i := 77) (by decide +kernel)) rfl, mGW (List.mem_of_getElem? (i := 618) (by decide +kernel)) rfl, ⟨by decide, by decide, by decide +kernel⟩, rfl⟩
theorem d_Waters_saveTo_0 : decode b_Waters_saveTo 0 = .ok (.aload_n 0, 1) := by decide +kernel
theorem d_Waters_saveTo_1 : decode b_Waters_saveTo 1 = .ok (.getfield 9, 3) := by decide +kernel
theorem d_Waters_saveTo_4 : decode b_Waters_saveTo 4 = .ok (.iconst 0, 1) := by decide +kernel
theorem d_Waters_saveTo_5 : decode b_Waters_saveTo 5 = .ok (.aload_n 1, 1) := by decide +kernel
theorem d_Waters_saveTo_6 : decode b_Waters_saveTo 6 = .ok (.iload_n 2, 1) := by decide +kernel
theorem d_Waters_saveTo_7 : decode b_Waters_saveTo 7 = .ok (.bipush 8, 2) := by decide +kernel
theorem d_Waters_saveTo_9 : decode b_Waters_saveTo 9 = .ok (.invokestatic 40, 3) := by decide +kernel
theorem d_Waters_saveTo_12 : decode b_Waters_saveTo 12 = .ok (.aload_n 0, 1) := by decide +kernel
theorem d_Waters_saveTo_13 : decode b_Waters_saveTo 13 = .ok (.getfield 15, 3) := by decide +kernel
theorem d_Waters_saveTo_16 : decode b_Waters_saveTo 16 = .ok (.iconst 0, 1) := by decide +kernel
theorem d_Waters_saveTo_17 : decode b_Waters_saveTo 17 = .ok (.aload_n 1, 1) := by decide +kernel
theorem d_Waters_saveTo_18 : decode b_Waters_saveTo 18 = .ok (.iload_n 2, 1) := by decide +kernel
theorem d_Waters_saveTo_19 : decode b_Waters_saveTo 19 = .ok (.bipush 8, 2) := by decide +kernel
theorem d_Waters_saveTo_21 : decode b_Waters_saveTo 21 = .ok (.iadd, 1) := by decide +kernel
theorem d_Waters_saveTo_22 : decode b_Waters_saveTo 22 = .ok (.bipush 8, 2) := by decide +kernel
theorem d_Waters_saveTo_24 : decode b_Waters_saveTo 24 = .ok (.invokestatic 40, 3) := by decide +kernel
theorem d_Waters_saveTo_27 : decode b_Waters_saveTo 27 = .ok (.aload_n 0, 1) := by decide +kernel
theorem d_Waters_saveTo_28 : decode b_Waters_saveTo 28 = .ok (.getfield 18, 3) := by decide +kernel
theorem d_Waters_saveTo_31 : decode b_Waters_saveTo 31 = .ok (.iconst 0, 1) := by decide +kernel
theorem d_Waters_saveTo_32 : decode b_Waters_saveTo 32 = .ok (.aload_n 1, 1) := by decide +kernel
theorem d_Waters_saveTo_33 : decode b_Waters_saveTo 33 = .ok (.iload_n 2, 1) := by decide +kernel
theorem d_Waters_saveTo_34 : decode b_Waters_saveTo 34 = .ok (.bipush 16, 2) := by decide +kernel
theorem d_Waters_saveTo_36 : decode b_Waters_saveTo 36 = .ok (.iadd, 1) := by decide +kernel
theorem d_Waters_saveTo_37 : decode b_Waters_saveTo 37 = .ok (.bipush 8, 2) := by decide +kernel
theorem d_Waters_saveTo_39 : decode b_Waters_saveTo 39 = .ok (.invokestatic 40, 3) := by decide +kernel
theorem d_Waters_saveTo_42 : decode b_Waters_saveTo 42 = .ok (.aload_n 1, 1) := by decide +kernel
theorem d_Waters_saveTo_43 : decode b_Waters_saveTo 43 = .ok (.iload_n 2, 1) := by decide +kernel
theorem d_Waters_saveTo_44 : decode b_Waters_saveTo 44 = .ok (.bipush 24, 2) := by decide +kernel
theorem d_Waters_saveTo_46 : decode b_Waters_saveTo 46 = .ok (.iadd, 1) := by decide +kernel
theorem d_Waters_saveTo_47 : decode b_Waters_saveTo 47 = .ok (.aload_n 0, 1) := by decide +kernel
theorem d_Waters_saveTo_48 : decode b_Waters_saveTo 48 = .ok (.getfield 33, 3) := by decide +kernel
theorem d_Waters_saveTo_51 : decode b_Waters_saveTo 51 = .ok (.iastore, 1) := by decide +kernel
theorem d_Waters_saveTo_52 : decode b_Waters_saveTo 52 = .ok (.aload_n 1, 1) := by decide +kernel
theorem d_Waters_saveTo_53 : decode b_Waters_saveTo 53 = .ok (.iload_n 2, 1) := by decide +kernel
theorem d_Waters_saveTo_54 : decode b_Waters_saveTo 54 = .ok (.bipush 24, 2) := by decide +kernel
theorem d_Waters_saveTo_56 : decode b_Waters_saveTo 56 = .ok (.iadd, 1) := by decide +kernel
theorem d_Waters_saveTo_57 : decode b_Waters_saveTo 57 = .ok (.iconst 1, 1) := by decide +kernel
theorem d_Waters_saveTo_58 : decode b_Waters_saveTo 58 = .ok (.iadd, 1) := by decide +kernel
theorem d_Waters_saveTo_59 : decode b_Waters_saveTo 59 = .ok (.aload_n 0, 1) := by decide +kernel
theorem d_Waters_saveTo_60 : decode b_Waters_saveTo 60 = .ok (.getfield 37, 3) := by decide +kernel
theorem d_Waters_saveTo_63 : decode b_Waters_saveTo 63 = .ok (.iastore, 1) := by decide +kernel
theorem d_Waters_saveTo_64 : decode b_Waters_saveTo 64 = .ok (.return_, 1) := by decide +kernel
abbrev b_Waters_loadFrom : ByteArray := prog_9_method_5_code
abbrev y_Waters_loadFrom : MethodName := ⟨"RiverTuesdays$Waters", "loadFrom", "([II)V"⟩
theorem ok_Waters_loadFrom : okV y_Waters_loadFrom b_Waters_loadFrom 3 none 2 7 := ⟨mGW (List.mem_of_getElem? (i := 636) (by decide +kernel)) rfl, mGW (List.mem_of_getElem? (i := 637) (by decide +kernel)) rfl, mGW (List.mem_of_getElem? (i := 77) (by decide +kernel)) rfl, mGW (List.mem_of_getElem? (i := 638) (by decide +kernel)) rfl, ⟨by decide, by decide, by decide +kernel⟩, rfl⟩
theorem d_Waters_loadFrom_0 : decode b_Waters_loadFrom 0 = .ok (.aload_n 1, 1) := by decide +kernel
theorem d_Waters_loadFrom_1 : decode b_Waters_loadFrom 1 = .ok (.iload_n 2, 1) := by decide +kernel
theorem d_Waters_loadFrom_2 : decode b_Waters_loadFrom 2 = .ok (.aload_n 0, 1) := by decide +kernel
theorem d_Waters_loadFrom_3 : decode b_Waters_loadFrom 3 = .ok (.getfield 9, 3) := by decide +kernel
theorem d_Waters_loadFrom_6 : decode b_Waters_loadFrom 6 = .ok (.iconst 0, 1) := by decide +kernel
theorem d_Waters_loadFrom_7 : decode b_Waters_loadFrom 7 = .ok (.bipush 8, 2) := by decide +kernel
theorem d_Waters_loadFrom_9 : decode b_Waters_loadFrom 9 = .ok (.invokestatic 40, 3) := by decide +kernel
theorem d_Waters_loadFrom_12 : decode b_Waters_loadFrom 12 = .ok (.aload_n 1, 1) := by decide +kernel
theorem d_Waters_loadFrom_13 : decode b_Waters_loadFrom 13 = .ok (.iload_n 2, 1) := by decide +kernel
theorem d_Waters_loadFrom_14 : decode b_Waters_loadFrom 14 = .ok (.bipush 8, 2) := by decide +kernel
theorem d_Waters_loadFrom_16 : decode b_Waters_loadFrom 16 = .ok (.iadd, 1) := by decide +kernel
theorem d_Waters_loadFrom_17 : decode b_Waters_loadFrom 17 = .ok (.aload_n 0, 1) := by decide +kernel
theorem d_Waters_loadFrom_18 : decode b_Waters_loadFrom 18 = .ok (.getfield 15, 3) := by decide +kernel
theorem d_Waters_loadFrom_21 : decode b_Waters_loadFrom 21 = .ok (.iconst 0, 1) := by decide +kernel
theorem d_Waters_loadFrom_22 : decode b_Waters_loadFrom 22 = .ok (.bipush 8, 2) := by decide +kernel
theorem d_Waters_loadFrom_24 : decode b_Waters_loadFrom 24 = .ok (.invokestatic 40, 3) := by decide +kernel
theorem d_Waters_loadFrom_27 : decode b_Waters_loadFrom 27 = .ok (.aload_n 1, 1) := by decide +kernel
theorem d_Waters_loadFrom_28 : decode b_Waters_loadFrom 28 = .ok (.iload_n 2, 1) := by decide +kernel
theorem d_Waters_loadFrom_29 : decode b_Waters_loadFrom 29 = .ok (.bipush 16, 2) := by decide +kernel
theorem d_Waters_loadFrom_31 : decode b_Waters_loadFrom 31 = .ok (.iadd, 1) := by decide +kernel
theorem d_Waters_loadFrom_32 : decode b_Waters_loadFrom 32 = .ok (.aload_n 0, 1) := by decide +kernel
theorem d_Waters_loadFrom_33 : decode b_Waters_loadFrom 33 = .ok (.getfield 18, 3) := by decide +kernel
theorem d_Waters_loadFrom_36 : decode b_Waters_loadFrom 36 = .ok (.iconst 0, 1) := by decide +kernel
theorem d_Waters_loadFrom_37 : decode b_Waters_loadFrom 37 = .ok (.bipush 8, 2) := by decide +kernel
theorem d_Waters_loadFrom_39 : decode b_Waters_loadFrom 39 = .ok (.invokestatic 40, 3) := by decide +kernel
theorem d_Waters_loadFrom_42 : decode b_Waters_loadFrom 42 = .ok (.aload_n 0, 1) := by decide +kernel
theorem d_Waters_loadFrom_43 : decode b_Waters_loadFrom 43 = .ok (.aload_n 1, 1) := by decide +kernel
theorem d_Waters_loadFrom_44 : decode b_Waters_loadFrom 44 = .ok (.iload_n 2, 1) := by decide +kernel
theorem d_Waters_loadFrom_45 : decode b_Waters_loadFrom 45 = .ok (.bipush 24, 2) := by decide +kernel
theorem d_Waters_loadFrom_47 : decode b_Waters_loadFrom 47 = .ok (.iadd, 1) := by decide +kernel
theorem d_Waters_loadFrom_48 : decode b_Waters_loadFrom 48 = .ok (.iaload, 1) := by decide +kernel
theorem d_Waters_loadFrom_49 : decode b_Waters_loadFrom 49 = .ok (.putfield 33, 3) := by decide +kernel
theorem d_Waters_loadFrom_52 : decode b_Waters_loadFrom 52 = .ok (.aload_n 0, 1) := by decide +kernel
theorem d_Waters_loadFrom_53 : decode b_Waters_loadFrom 53 = .ok (.aload_n 1, 1) := by decide +kernel
theorem d_Waters_loadFrom_54 : decode b_Waters_loadFrom 54 = .ok (.iload_n 2, 1) := by decide +kernel
theorem d_Waters_loadFrom_55 : decode b_Waters_loadFrom 55 = .ok (.bipush 24, 2) := by decide +kernel
theorem d_Waters_loadFrom_57 : decode b_Waters_loadFrom 57 = .ok (.iadd, 1) := by decide +kernel
theorem d_Waters_loadFrom_58 : decode b_Waters_loadFrom 58 = .ok (.iconst 1, 1) := by decide +kernel
theorem d_Waters_loadFrom_59 : decode b_Waters_loadFrom 59 = .ok (.iadd, 1) := by decide +kernel
theorem d_Waters_loadFrom_60 : decode b_Waters_loadFrom 60 = .ok (.iaload, 1) := by decide +kernel
theorem d_Waters_loadFrom_61 : decode b_Waters_loadFrom 61 = .ok (.putfield 37, 3) := by decide +kernel
theorem d_Waters_loadFrom_64 : decode b_Waters_loadFrom 64 = .ok (.return_, 1) := by decide +kernel
abbrev b_Waters_drop : ByteArray := prog_9_method_8_code
abbrev y_Waters_drop : MethodName := ⟨"RiverTuesdays$Waters", "drop", "(LRiverTuesdays$Bed;I)I"⟩
theorem ok_Waters_drop : okV y_Waters_drop b_Waters_drop 4 (some .int) 2 7 := ⟨mGW (List.mem_of_getElem? (i := 538) (by decide +kernel)) rfl, mGW (List.mem_of_getElem? (i := 539) (by decide +kernel)) rfl, mGW (List.mem_of_getElem? (i := 77) (by decide +kernel)) rfl, mGW (List.mem_of_getElem? (i := 540) (by decide +kernel)) rfl, ⟨by decide, by decide, by decide +kernel⟩, rfl⟩
theorem d_Waters_drop_0 : decode b_Waters_drop 0 = .ok (.iload_n 2, 1) := by decide +kernel
theorem d_Waters_drop_1 : decode b_Waters_drop 1 = .ok (.iconst 1, 1) := by decide +kernel
theorem d_Waters_drop_2 : decode b_Waters_drop 2 = .ok (.iadd, 1) := by decide +kernel
theorem d_Waters_drop_3 : decode b_Waters_drop 3 = .ok (.aload_n 1, 1) := by decide +kernel
theorem d_Waters_drop_4 : decode b_Waters_drop 4 = .ok (.getfield 51, 3) := by decide +kernel
theorem d_Waters_drop_7 : decode b_Waters_drop 7 = .ok (.if_icmp .ge 23, 3) := by decide +kernel
theorem d_Waters_drop_10 : decode b_Waters_drop 10 = .ok (.aload_n 1, 1) := by decide +kernel
theorem d_Waters_drop_11 : decode b_Waters_drop 11 = .ok (.getfield 81, 3) := by decide +kernel
theorem d_Waters_drop_14 : decode b_Waters_drop 14 = .ok (.iload_n 2, 1) := by decide +kernel
theorem d_Waters_drop_15 : decode b_Waters_drop 15 = .ok (.iconst 1, 1) := by decide +kernel
theorem d_Waters_drop_16 : decode b_Waters_drop 16 = .ok (.iadd, 1) := by decide +kernel
theorem d_Waters_drop_17 : decode b_Waters_drop 17 = .ok (.iaload, 1) := by decide +kernel
theorem d_Waters_drop_18 : decode b_Waters_drop 18 = .ok (.aload_n 0, 1) := by decide +kernel
theorem d_Waters_drop_19 : decode b_Waters_drop 19 = .ok (.getfield 9, 3) := by decide +kernel
theorem d_Waters_drop_22 : decode b_Waters_drop 22 = .ok (.iload_n 2, 1) := by decide +kernel
theorem d_Waters_drop_23 : decode b_Waters_drop 23 = .ok (.iconst 1, 1) := by decide +kernel
theorem d_Waters_drop_24 : decode b_Waters_drop 24 = .ok (.iadd, 1) := by decide +kernel
theorem d_Waters_drop_25 : decode b_Waters_drop 25 = .ok (.iaload, 1) := by decide +kernel
theorem d_Waters_drop_26 : decode b_Waters_drop 26 = .ok (.iadd, 1) := by decide +kernel
theorem d_Waters_drop_27 : decode b_Waters_drop 27 = .ok (.goto 7, 3) := by decide +kernel
theorem d_Waters_drop_30 : decode b_Waters_drop 30 = .ok (.aload_n 1, 1) := by decide +kernel
theorem d_Waters_drop_31 : decode b_Waters_drop 31 = .ok (.getfield 84, 3) := by decide +kernel
theorem d_Waters_drop_34 : decode b_Waters_drop 34 = .ok (.istore_n 3, 1) := by decide +kernel
theorem d_Waters_drop_35 : decode b_Waters_drop 35 = .ok (.aload_n 1, 1) := by decide +kernel
theorem d_Waters_drop_36 : decode b_Waters_drop 36 = .ok (.getfield 81, 3) := by decide +kernel
theorem d_Waters_drop_39 : decode b_Waters_drop 39 = .ok (.iload_n 2, 1) := by decide +kernel
theorem d_Waters_drop_40 : decode b_Waters_drop 40 = .ok (.iaload, 1) := by decide +kernel
theorem d_Waters_drop_41 : decode b_Waters_drop 41 = .ok (.aload_n 0, 1) := by decide +kernel
theorem d_Waters_drop_42 : decode b_Waters_drop 42 = .ok (.getfield 9, 3) := by decide +kernel
theorem d_Waters_drop_45 : decode b_Waters_drop 45 = .ok (.iload_n 2, 1) := by decide +kernel
theorem d_Waters_drop_46 : decode b_Waters_drop 46 = .ok (.iaload, 1) := by decide +kernel
theorem d_Waters_drop_47 : decode b_Waters_drop 47 = .ok (.iadd, 1) := by decide +kernel
theorem d_Waters_drop_48 : decode b_Waters_drop 48 = .ok (.iload_n 3, 1) := by decide +kernel
theorem d_Waters_drop_49 : decode b_Waters_drop 49 = .ok (.isub, 1) := by decide +kernel
theorem d_Waters_drop_50 : decode b_Waters_drop 50 = .ok (.ireturn, 1) := by decide +kernel
abbrev b_Waters_runDown : ByteArray := prog_9_method_7_code
abbrev y_Waters_runDown : MethodName := ⟨"RiverTuesdays$Waters", "runDown", "(LRiverTuesdays$Bed;I)V"⟩
theorem ok_Waters_runDown : okV y_Waters_runDown b_Waters_runDown 5 none 2 7 := ⟨mGW (List.mem_of_getElem? (i := 556) (by decide +kernel)) rfl, mGW (List.mem_of_getElem? (i := 8) (by decide +kernel)) rfl, mGW (List.mem_of_getElem? (i := 77) (by decide +kernel)) rfl, mGW (List.mem_of_getElem? (i := 557) (by decide +kernel)) rfl, ⟨by decide, by decide, by decide +kernel⟩, rfl⟩
theorem d_Waters_runDown_0 : decode b_Waters_runDown 0 = .ok (.aload_n 0, 1) := by decide +kernel
theorem d_Waters_runDown_1 : decode b_Waters_runDown 1 = .ok (.aload_n 1, 1) := by decide +kernel
theorem d_Waters_runDown_2 : decode b_Waters_runDown 2 = .ok (.iload_n 2, 1) := by decide +kernel
theorem d_Waters_runDown_3 : decode b_Waters_runDown 3 = .ok (.invokevirtual 61, 3) := by decide +kernel
theorem d_Waters_runDown_6 : decode b_Waters_runDown 6 = .ok (.iconst 1, 1) := by decide +kernel
theorem d_Waters_runDown_7 : decode b_Waters_runDown 7 = .ok (.iadd, 1) := by decide +kernel
theorem d_Waters_runDown_8 : decode b_Waters_runDown 8 = .ok (.iconst 0, 1) := by decide +kernel
theorem d_Waters_runDown_9 : decode b_Waters_runDown 9 = .ok (.invokestatic 65, 3) := by decide +kernel
theorem d_Waters_runDown_12 : decode b_Waters_runDown 12 = .ok (.iconst 2, 1) := by decide +kernel
theorem d_Waters_runDown_13 : decode b_Waters_runDown 13 = .ok (.idiv, 1) := by decide +kernel
theorem d_Waters_runDown_14 : decode b_Waters_runDown 14 = .ok (.istore_n 3, 1) := by decide +kernel
theorem d_Waters_runDown_15 : decode b_Waters_runDown 15 = .ok (.iload_n 3, 1) := by decide +kernel
theorem d_Waters_runDown_16 : decode b_Waters_runDown 16 = .ok (.aload_n 0, 1) := by decide +kernel
theorem d_Waters_runDown_17 : decode b_Waters_runDown 17 = .ok (.getfield 9, 3) := by decide +kernel
theorem d_Waters_runDown_20 : decode b_Waters_runDown 20 = .ok (.iload_n 2, 1) := by decide +kernel
theorem d_Waters_runDown_21 : decode b_Waters_runDown 21 = .ok (.iaload, 1) := by decide +kernel
theorem d_Waters_runDown_22 : decode b_Waters_runDown 22 = .ok (.invokestatic 71, 3) := by decide +kernel
theorem d_Waters_runDown_25 : decode b_Waters_runDown 25 = .ok (.aload_n 1, 1) := by decide +kernel
theorem d_Waters_runDown_26 : decode b_Waters_runDown 26 = .ok (.iload_n 2, 1) := by decide +kernel
theorem d_Waters_runDown_27 : decode b_Waters_runDown 27 = .ok (.invokevirtual 74, 3) := by decide +kernel
theorem d_Waters_runDown_30 : decode b_Waters_runDown 30 = .ok (.invokestatic 71, 3) := by decide +kernel
theorem d_Waters_runDown_33 : decode b_Waters_runDown 33 = .ok (.istore 4, 2) := by decide +kernel
theorem d_Waters_runDown_35 : decode b_Waters_runDown 35 = .ok (.aload_n 0, 1) := by decide +kernel
theorem d_Waters_runDown_36 : decode b_Waters_runDown 36 = .ok (.getfield 21, 3) := by decide +kernel
theorem d_Waters_runDown_39 : decode b_Waters_runDown 39 = .ok (.iload_n 2, 1) := by decide +kernel
theorem d_Waters_runDown_40 : decode b_Waters_runDown 40 = .ok (.iload 4, 2) := by decide +kernel
theorem d_Waters_runDown_42 : decode b_Waters_runDown 42 = .ok (.iastore, 1) := by decide +kernel
theorem d_Waters_runDown_43 : decode b_Waters_runDown 43 = .ok (.aload_n 0, 1) := by decide +kernel
theorem d_Waters_runDown_44 : decode b_Waters_runDown 44 = .ok (.getfield 18, 3) := by decide +kernel
theorem d_Waters_runDown_47 : decode b_Waters_runDown 47 = .ok (.iload_n 2, 1) := by decide +kernel
theorem d_Waters_runDown_48 : decode b_Waters_runDown 48 = .ok (.dup2, 1) := by decide +kernel
theorem d_Waters_runDown_49 : decode b_Waters_runDown 49 = .ok (.iaload, 1) := by decide +kernel
theorem d_Waters_runDown_50 : decode b_Waters_runDown 50 = .ok (.aload_n 1, 1) := by decide +kernel
theorem d_Waters_runDown_51 : decode b_Waters_runDown 51 = .ok (.iload_n 2, 1) := by decide +kernel
theorem d_Waters_runDown_52 : decode b_Waters_runDown 52 = .ok (.iload 4, 2) := by decide +kernel
theorem d_Waters_runDown_54 : decode b_Waters_runDown 54 = .ok (.invokevirtual 78, 3) := by decide +kernel
theorem d_Waters_runDown_57 : decode b_Waters_runDown 57 = .ok (.iadd, 1) := by decide +kernel
theorem d_Waters_runDown_58 : decode b_Waters_runDown 58 = .ok (.iastore, 1) := by decide +kernel
theorem d_Waters_runDown_59 : decode b_Waters_runDown 59 = .ok (.aload_n 0, 1) := by decide +kernel
theorem d_Waters_runDown_60 : decode b_Waters_runDown 60 = .ok (.getfield 9, 3) := by decide +kernel
theorem d_Waters_runDown_63 : decode b_Waters_runDown 63 = .ok (.iload_n 2, 1) := by decide +kernel
theorem d_Waters_runDown_64 : decode b_Waters_runDown 64 = .ok (.dup2, 1) := by decide +kernel
theorem d_Waters_runDown_65 : decode b_Waters_runDown 65 = .ok (.iaload, 1) := by decide +kernel
theorem d_Waters_runDown_66 : decode b_Waters_runDown 66 = .ok (.iload 4, 2) := by decide +kernel
theorem d_Waters_runDown_68 : decode b_Waters_runDown 68 = .ok (.isub, 1) := by decide +kernel
theorem d_Waters_runDown_69 : decode b_Waters_runDown 69 = .ok (.iastore, 1) := by decide +kernel
theorem d_Waters_runDown_70 : decode b_Waters_runDown 70 = .ok (.iload_n 2, 1) := by decide +kernel
theorem d_Waters_runDown_71 : decode b_Waters_runDown 71 = .ok (.iconst 1, 1) := by decide +kernel
theorem d_Waters_runDown_72 : decode b_Waters_runDown 72 = .ok (.iadd, 1) := by decide +kernel
theorem d_Waters_runDown_73 : decode b_Waters_runDown 73 = .ok (.aload_n 1, 1) := by decide +kernel
theorem d_Waters_runDown_74 : decode b_Waters_runDown 74 = .ok (.getfield 51, 3) := by decide +kernel
theorem d_Waters_runDown_77 : decode b_Waters_runDown 77 = .ok (.if_icmp .ge 19, 3) := by decide +kernel
theorem d_Waters_runDown_80 : decode b_Waters_runDown 80 = .ok (.aload_n 0, 1) := by decide +kernel
theorem d_Waters_runDown_81 : decode b_Waters_runDown 81 = .ok (.getfield 9, 3) := by decide +kernel
theorem d_Waters_runDown_84 : decode b_Waters_runDown 84 = .ok (.iload_n 2, 1) := by decide +kernel
theorem d_Waters_runDown_85 : decode b_Waters_runDown 85 = .ok (.iconst 1, 1) := by decide +kernel
theorem d_Waters_runDown_86 : decode b_Waters_runDown 86 = .ok (.iadd, 1) := by decide +kernel
theorem d_Waters_runDown_87 : decode b_Waters_runDown 87 = .ok (.dup2, 1) := by decide +kernel
theorem d_Waters_runDown_88 : decode b_Waters_runDown 88 = .ok (.iaload, 1) := by decide +kernel
theorem d_Waters_runDown_89 : decode b_Waters_runDown 89 = .ok (.iload 4, 2) := by decide +kernel
theorem d_Waters_runDown_91 : decode b_Waters_runDown 91 = .ok (.iadd, 1) := by decide +kernel
theorem d_Waters_runDown_92 : decode b_Waters_runDown 92 = .ok (.iastore, 1) := by decide +kernel
theorem d_Waters_runDown_93 : decode b_Waters_runDown 93 = .ok (.goto 14, 3) := by decide +kernel
theorem d_Waters_runDown_96 : decode b_Waters_runDown 96 = .ok (.aload_n 0, 1) := by decide +kernel
theorem d_Waters_runDown_97 : decode b_Waters_runDown 97 = .ok (.dup, 1) := by decide +kernel
theorem d_Waters_runDown_98 : decode b_Waters_runDown 98 = .ok (.getfield 37, 3) := by decide +kernel
theorem d_Waters_runDown_101 : decode b_Waters_runDown 101 = .ok (.iload 4, 2) := by decide +kernel
theorem d_Waters_runDown_103 : decode b_Waters_runDown 103 = .ok (.iadd, 1) := by decide +kernel
theorem d_Waters_runDown_104 : decode b_Waters_runDown 104 = .ok (.putfield 37, 3) := by decide +kernel
theorem d_Waters_runDown_107 : decode b_Waters_runDown 107 = .ok (.return_, 1) := by decide +kernel
abbrev b_Waters_sinkIntoCellar : ByteArray := prog_9_method_9_code
abbrev y_Waters_sinkIntoCellar : MethodName := ⟨"RiverTuesdays$Waters", "sinkIntoCellar", "(LRiverTuesdays$Bed;I)V"⟩
theorem ok_Waters_sinkIntoCellar : okV y_Waters_sinkIntoCellar b_Waters_sinkIntoCellar 5 none 2 7 := ⟨mGW (List.mem_of_getElem? (i := 576) (by decide +kernel)) rfl, mGW (List.mem_of_getElem? (i := 9) (by decide +kernel)) rfl, mGW (List.mem_of_getElem? (i := 77) (by decide +kernel)) rfl, mGW (List.mem_of_getElem? (i := 577) (by decide +kernel)) rfl, ⟨by decide, by decide, by decide +kernel⟩, rfl⟩
theorem d_Waters_sinkIntoCellar_0 : decode b_Waters_sinkIntoCellar 0 = .ok (.aload_n 0, 1) := by decide +kernel
theorem d_Waters_sinkIntoCellar_1 : decode b_Waters_sinkIntoCellar 1 = .ok (.getfield 9, 3) := by decide +kernel
theorem d_Waters_sinkIntoCellar_4 : decode b_Waters_sinkIntoCellar 4 = .ok (.iload_n 2, 1) := by decide +kernel
theorem d_Waters_sinkIntoCellar_5 : decode b_Waters_sinkIntoCellar 5 = .ok (.iaload, 1) := by decide +kernel
theorem d_Waters_sinkIntoCellar_6 : decode b_Waters_sinkIntoCellar 6 = .ok (.aload_n 1, 1) := by decide +kernel
theorem d_Waters_sinkIntoCellar_7 : decode b_Waters_sinkIntoCellar 7 = .ok (.getfield 87, 3) := by decide +kernel
theorem d_Waters_sinkIntoCellar_10 : decode b_Waters_sinkIntoCellar 10 = .ok (.iload_n 2, 1) := by decide +kernel
theorem d_Waters_sinkIntoCellar_11 : decode b_Waters_sinkIntoCellar 11 = .ok (.iaload, 1) := by decide +kernel
theorem d_Waters_sinkIntoCellar_12 : decode b_Waters_sinkIntoCellar 12 = .ok (.isub, 1) := by decide +kernel
theorem d_Waters_sinkIntoCellar_13 : decode b_Waters_sinkIntoCellar 13 = .ok (.iconst 0, 1) := by decide +kernel
theorem d_Waters_sinkIntoCellar_14 : decode b_Waters_sinkIntoCellar 14 = .ok (.invokestatic 65, 3) := by decide +kernel
theorem d_Waters_sinkIntoCellar_17 : decode b_Waters_sinkIntoCellar 17 = .ok (.istore_n 3, 1) := by decide +kernel
theorem d_Waters_sinkIntoCellar_18 : decode b_Waters_sinkIntoCellar 18 = .ok (.iload_n 3, 1) := by decide +kernel
theorem d_Waters_sinkIntoCellar_19 : decode b_Waters_sinkIntoCellar 19 = .ok (.aload_n 1, 1) := by decide +kernel
theorem d_Waters_sinkIntoCellar_20 : decode b_Waters_sinkIntoCellar 20 = .ok (.getfield 90, 3) := by decide +kernel
theorem d_Waters_sinkIntoCellar_23 : decode b_Waters_sinkIntoCellar 23 = .ok (.iload_n 2, 1) := by decide +kernel
theorem d_Waters_sinkIntoCellar_24 : decode b_Waters_sinkIntoCellar 24 = .ok (.iaload, 1) := by decide +kernel
theorem d_Waters_sinkIntoCellar_25 : decode b_Waters_sinkIntoCellar 25 = .ok (.aload_n 0, 1) := by decide +kernel
theorem d_Waters_sinkIntoCellar_26 : decode b_Waters_sinkIntoCellar 26 = .ok (.getfield 15, 3) := by decide +kernel
theorem d_Waters_sinkIntoCellar_29 : decode b_Waters_sinkIntoCellar 29 = .ok (.iload_n 2, 1) := by decide +kernel
theorem d_Waters_sinkIntoCellar_30 : decode b_Waters_sinkIntoCellar 30 = .ok (.iaload, 1) := by decide +kernel
theorem d_Waters_sinkIntoCellar_31 : decode b_Waters_sinkIntoCellar 31 = .ok (.isub, 1) := by decide +kernel
theorem d_Waters_sinkIntoCellar_32 : decode b_Waters_sinkIntoCellar 32 = .ok (.invokestatic 71, 3) := by decide +kernel
theorem d_Waters_sinkIntoCellar_35 : decode b_Waters_sinkIntoCellar 35 = .ok (.istore 4, 2) := by decide +kernel
theorem d_Waters_sinkIntoCellar_37 : decode b_Waters_sinkIntoCellar 37 = .ok (.aload_n 0, 1) := by decide +kernel
theorem d_Waters_sinkIntoCellar_38 : decode b_Waters_sinkIntoCellar 38 = .ok (.getfield 24, 3) := by decide +kernel
theorem d_Waters_sinkIntoCellar_41 : decode b_Waters_sinkIntoCellar 41 = .ok (.iload_n 2, 1) := by decide +kernel
theorem d_Waters_sinkIntoCellar_42 : decode b_Waters_sinkIntoCellar 42 = .ok (.iload 4, 2) := by decide +kernel
theorem d_Waters_sinkIntoCellar_44 : decode b_Waters_sinkIntoCellar 44 = .ok (.iastore, 1) := by decide +kernel
theorem d_Waters_sinkIntoCellar_45 : decode b_Waters_sinkIntoCellar 45 = .ok (.aload_n 0, 1) := by decide +kernel
theorem d_Waters_sinkIntoCellar_46 : decode b_Waters_sinkIntoCellar 46 = .ok (.getfield 9, 3) := by decide +kernel
theorem d_Waters_sinkIntoCellar_49 : decode b_Waters_sinkIntoCellar 49 = .ok (.iload_n 2, 1) := by decide +kernel
theorem d_Waters_sinkIntoCellar_50 : decode b_Waters_sinkIntoCellar 50 = .ok (.dup2, 1) := by decide +kernel
theorem d_Waters_sinkIntoCellar_51 : decode b_Waters_sinkIntoCellar 51 = .ok (.iaload, 1) := by decide +kernel
theorem d_Waters_sinkIntoCellar_52 : decode b_Waters_sinkIntoCellar 52 = .ok (.iload 4, 2) := by decide +kernel
theorem d_Waters_sinkIntoCellar_54 : decode b_Waters_sinkIntoCellar 54 = .ok (.isub, 1) := by decide +kernel
theorem d_Waters_sinkIntoCellar_55 : decode b_Waters_sinkIntoCellar 55 = .ok (.iastore, 1) := by decide +kernel
theorem d_Waters_sinkIntoCellar_56 : decode b_Waters_sinkIntoCellar 56 = .ok (.aload_n 0, 1) := by decide +kernel
theorem d_Waters_sinkIntoCellar_57 : decode b_Waters_sinkIntoCellar 57 = .ok (.getfield 15, 3) := by decide +kernel
theorem d_Waters_sinkIntoCellar_60 : decode b_Waters_sinkIntoCellar 60 = .ok (.iload_n 2, 1) := by decide +kernel
theorem d_Waters_sinkIntoCellar_61 : decode b_Waters_sinkIntoCellar 61 = .ok (.dup2, 1) := by decide +kernel
theorem d_Waters_sinkIntoCellar_62 : decode b_Waters_sinkIntoCellar 62 = .ok (.iaload, 1) := by decide +kernel
theorem d_Waters_sinkIntoCellar_63 : decode b_Waters_sinkIntoCellar 63 = .ok (.iload 4, 2) := by decide +kernel
theorem d_Waters_sinkIntoCellar_65 : decode b_Waters_sinkIntoCellar 65 = .ok (.iadd, 1) := by decide +kernel
theorem d_Waters_sinkIntoCellar_66 : decode b_Waters_sinkIntoCellar 66 = .ok (.iastore, 1) := by decide +kernel
theorem d_Waters_sinkIntoCellar_67 : decode b_Waters_sinkIntoCellar 67 = .ok (.return_, 1) := by decide +kernel
abbrev b_Waters_pass : ByteArray := prog_9_method_6_code
abbrev y_Waters_pass : MethodName := ⟨"RiverTuesdays$Waters", "pass", "(LRiverTuesdays$Bed;I)V"⟩
theorem ok_Waters_pass : okV y_Waters_pass b_Waters_pass 4 none 2 7 := ⟨mGW (List.mem_of_getElem? (i := 551) (by decide +kernel)) rfl, mGW (List.mem_of_getElem? (i := 552) (by decide +kernel)) rfl, mGW (List.mem_of_getElem? (i := 77) (by decide +kernel)) rfl, mGW (List.mem_of_getElem? (i := 553) (by decide +kernel)) rfl, ⟨by decide, by decide, by decide +kernel⟩, rfl⟩
theorem d_Waters_pass_0 : decode b_Waters_pass 0 = .ok (.iload_n 2, 1) := by decide +kernel
theorem d_Waters_pass_1 : decode b_Waters_pass 1 = .ok (.iconst 1, 1) := by decide +kernel
theorem d_Waters_pass_2 : decode b_Waters_pass 2 = .ok (.if_icmp .ne 29, 3) := by decide +kernel
theorem d_Waters_pass_5 : decode b_Waters_pass 5 = .ok (.aload_n 0, 1) := by decide +kernel
theorem d_Waters_pass_6 : decode b_Waters_pass 6 = .ok (.getfield 9, 3) := by decide +kernel
theorem d_Waters_pass_9 : decode b_Waters_pass 9 = .ok (.iconst 0, 1) := by decide +kernel
theorem d_Waters_pass_10 : decode b_Waters_pass 10 = .ok (.dup2, 1) := by decide +kernel
theorem d_Waters_pass_11 : decode b_Waters_pass 11 = .ok (.iaload, 1) := by decide +kernel
theorem d_Waters_pass_12 : decode b_Waters_pass 12 = .ok (.aload_n 1, 1) := by decide +kernel
theorem d_Waters_pass_13 : decode b_Waters_pass 13 = .ok (.getfield 46, 3) := by decide +kernel
theorem d_Waters_pass_16 : decode b_Waters_pass 16 = .ok (.iadd, 1) := by decide +kernel
theorem d_Waters_pass_17 : decode b_Waters_pass 17 = .ok (.iastore, 1) := by decide +kernel
theorem d_Waters_pass_18 : decode b_Waters_pass 18 = .ok (.aload_n 0, 1) := by decide +kernel
theorem d_Waters_pass_19 : decode b_Waters_pass 19 = .ok (.dup, 1) := by decide +kernel
theorem d_Waters_pass_20 : decode b_Waters_pass 20 = .ok (.getfield 33, 3) := by decide +kernel
theorem d_Waters_pass_23 : decode b_Waters_pass 23 = .ok (.aload_n 1, 1) := by decide +kernel
theorem d_Waters_pass_24 : decode b_Waters_pass 24 = .ok (.getfield 46, 3) := by decide +kernel
theorem d_Waters_pass_27 : decode b_Waters_pass 27 = .ok (.iadd, 1) := by decide +kernel
theorem d_Waters_pass_28 : decode b_Waters_pass 28 = .ok (.putfield 33, 3) := by decide +kernel
theorem d_Waters_pass_31 : decode b_Waters_pass 31 = .ok (.iconst 0, 1) := by decide +kernel
theorem d_Waters_pass_32 : decode b_Waters_pass 32 = .ok (.istore_n 3, 1) := by decide +kernel
theorem d_Waters_pass_33 : decode b_Waters_pass 33 = .ok (.iload_n 3, 1) := by decide +kernel
theorem d_Waters_pass_34 : decode b_Waters_pass 34 = .ok (.aload_n 1, 1) := by decide +kernel
theorem d_Waters_pass_35 : decode b_Waters_pass 35 = .ok (.getfield 51, 3) := by decide +kernel
theorem d_Waters_pass_38 : decode b_Waters_pass 38 = .ok (.if_icmp .ge 15, 3) := by decide +kernel
theorem d_Waters_pass_41 : decode b_Waters_pass 41 = .ok (.aload_n 0, 1) := by decide +kernel
theorem d_Waters_pass_42 : decode b_Waters_pass 42 = .ok (.aload_n 1, 1) := by decide +kernel
theorem d_Waters_pass_43 : decode b_Waters_pass 43 = .ok (.iload_n 3, 1) := by decide +kernel
theorem d_Waters_pass_44 : decode b_Waters_pass 44 = .ok (.invokevirtual 54, 3) := by decide +kernel
theorem d_Waters_pass_47 : decode b_Waters_pass 47 = .ok (.iinc 3 1, 3) := by decide +kernel
theorem d_Waters_pass_50 : decode b_Waters_pass 50 = .ok (.goto (-17), 3) := by decide +kernel
theorem d_Waters_pass_53 : decode b_Waters_pass 53 = .ok (.iconst 0, 1) := by decide +kernel
theorem d_Waters_pass_54 : decode b_Waters_pass 54 = .ok (.istore_n 3, 1) := by decide +kernel
theorem d_Waters_pass_55 : decode b_Waters_pass 55 = .ok (.iload_n 3, 1) := by decide +kernel
theorem d_Waters_pass_56 : decode b_Waters_pass 56 = .ok (.aload_n 1, 1) := by decide +kernel
theorem d_Waters_pass_57 : decode b_Waters_pass 57 = .ok (.getfield 51, 3) := by decide +kernel
theorem d_Waters_pass_60 : decode b_Waters_pass 60 = .ok (.if_icmp .ge 15, 3) := by decide +kernel
theorem d_Waters_pass_63 : decode b_Waters_pass 63 = .ok (.aload_n 0, 1) := by decide +kernel
theorem d_Waters_pass_64 : decode b_Waters_pass 64 = .ok (.aload_n 1, 1) := by decide +kernel
theorem d_Waters_pass_65 : decode b_Waters_pass 65 = .ok (.iload_n 3, 1) := by decide +kernel
theorem d_Waters_pass_66 : decode b_Waters_pass 66 = .ok (.invokevirtual 58, 3) := by decide +kernel
theorem d_Waters_pass_69 : decode b_Waters_pass 69 = .ok (.iinc 3 1, 3) := by decide +kernel
theorem d_Waters_pass_72 : decode b_Waters_pass 72 = .ok (.goto (-17), 3) := by decide +kernel
theorem d_Waters_pass_75 : decode b_Waters_pass 75 = .ok (.return_, 1) := by decide +kernel
abbrev b_Waters_pumpOut : ByteArray := prog_9_method_10_code
abbrev y_Waters_pumpOut : MethodName := ⟨"RiverTuesdays$Waters", "pumpOut", "(I)I"⟩
theorem ok_Waters_pumpOut : okV y_Waters_pumpOut b_Waters_pumpOut 3 (some .int) 1 7 := ⟨mGW (List.mem_of_getElem? (i := 600) (by decide +kernel)) rfl, mGW (List.mem_of_getElem? (i := 601) (by decide +kernel)) rfl, mGW (List.mem_of_getElem? (i := 77) (by decide +kernel)) rfl, mGW (List.mem_of_getElem? (i := 602) (by decide +kernel)) rfl, ⟨by decide, by decide, by decide +kernel⟩, rfl⟩
theorem d_Waters_pumpOut_0 : decode b_Waters_pumpOut 0 = .ok (.aload_n 0, 1) := by decide +kernel
theorem d_Waters_pumpOut_1 : decode b_Waters_pumpOut 1 = .ok (.getfield 15, 3) := by decide +kernel
theorem d_Waters_pumpOut_4 : decode b_Waters_pumpOut 4 = .ok (.iload_n 1, 1) := by decide +kernel
theorem d_Waters_pumpOut_5 : decode b_Waters_pumpOut 5 = .ok (.iaload, 1) := by decide +kernel
theorem d_Waters_pumpOut_6 : decode b_Waters_pumpOut 6 = .ok (.istore_n 2, 1) := by decide +kernel
theorem d_Waters_pumpOut_7 : decode b_Waters_pumpOut 7 = .ok (.aload_n 0, 1) := by decide +kernel
theorem d_Waters_pumpOut_8 : decode b_Waters_pumpOut 8 = .ok (.getfield 15, 3) := by decide +kernel
theorem d_Waters_pumpOut_11 : decode b_Waters_pumpOut 11 = .ok (.iload_n 1, 1) := by decide +kernel
theorem d_Waters_pumpOut_12 : decode b_Waters_pumpOut 12 = .ok (.iconst 0, 1) := by decide +kernel
theorem d_Waters_pumpOut_13 : decode b_Waters_pumpOut 13 = .ok (.iastore, 1) := by decide +kernel
theorem d_Waters_pumpOut_14 : decode b_Waters_pumpOut 14 = .ok (.aload_n 0, 1) := by decide +kernel
theorem d_Waters_pumpOut_15 : decode b_Waters_pumpOut 15 = .ok (.dup, 1) := by decide +kernel
theorem d_Waters_pumpOut_16 : decode b_Waters_pumpOut 16 = .ok (.getfield 37, 3) := by decide +kernel
theorem d_Waters_pumpOut_19 : decode b_Waters_pumpOut 19 = .ok (.iload_n 2, 1) := by decide +kernel
theorem d_Waters_pumpOut_20 : decode b_Waters_pumpOut 20 = .ok (.iadd, 1) := by decide +kernel
theorem d_Waters_pumpOut_21 : decode b_Waters_pumpOut 21 = .ok (.putfield 37, 3) := by decide +kernel
theorem d_Waters_pumpOut_24 : decode b_Waters_pumpOut 24 = .ok (.iload_n 2, 1) := by decide +kernel
theorem d_Waters_pumpOut_25 : decode b_Waters_pumpOut 25 = .ok (.ireturn, 1) := by decide +kernel
abbrev b_Waters_emptyCellars : ByteArray := prog_9_method_11_code
abbrev y_Waters_emptyCellars : MethodName := ⟨"RiverTuesdays$Waters", "emptyCellars", "()V"⟩
theorem ok_Waters_emptyCellars : okV y_Waters_emptyCellars b_Waters_emptyCellars 1 none 0 7 := ⟨mGW (List.mem_of_getElem? (i := 949) (by decide +kernel)) rfl, mGW (List.mem_of_getElem? (i := 950) (by decide +kernel)) rfl, mGW (List.mem_of_getElem? (i := 77) (by decide +kernel)) rfl, mGW (List.mem_of_getElem? (i := 951) (by decide +kernel)) rfl, ⟨by decide, by decide, by decide +kernel⟩, rfl⟩
theorem d_Waters_emptyCellars_0 : decode b_Waters_emptyCellars 0 = .ok (.aload_n 0, 1) := by decide +kernel
theorem d_Waters_emptyCellars_1 : decode b_Waters_emptyCellars 1 = .ok (.getfield 15, 3) := by decide +kernel
theorem d_Waters_emptyCellars_4 : decode b_Waters_emptyCellars 4 = .ok (.iconst 0, 1) := by decide +kernel
theorem d_Waters_emptyCellars_5 : decode b_Waters_emptyCellars 5 = .ok (.invokestatic 27, 3) := by decide +kernel
theorem d_Waters_emptyCellars_8 : decode b_Waters_emptyCellars 8 = .ok (.return_, 1) := by decide +kernel
abbrev b_Waters_harmOfHour : ByteArray := prog_9_method_12_code
abbrev y_Waters_harmOfHour : MethodName := ⟨"RiverTuesdays$Waters", "harmOfHour", "(LRiverTuesdays$Bed;)I"⟩
theorem ok_Waters_harmOfHour : okV y_Waters_harmOfHour b_Waters_harmOfHour 4 (some .int) 1 7 := ⟨mGW (List.mem_of_getElem? (i := 697) (by decide +kernel)) rfl, mGW (List.mem_of_getElem? (i := 698) (by decide +kernel)) rfl, mGW (List.mem_of_getElem? (i := 77) (by decide +kernel)) rfl, mGW (List.mem_of_getElem? (i := 699) (by decide +kernel)) rfl, ⟨by decide, by decide, by decide +kernel⟩, rfl⟩
theorem d_Waters_harmOfHour_0 : decode b_Waters_harmOfHour 0 = .ok (.iconst 0, 1) := by decide +kernel
theorem d_Waters_harmOfHour_1 : decode b_Waters_harmOfHour 1 = .ok (.istore_n 2, 1) := by decide +kernel
theorem d_Waters_harmOfHour_2 : decode b_Waters_harmOfHour 2 = .ok (.iconst 0, 1) := by decide +kernel
theorem d_Waters_harmOfHour_3 : decode b_Waters_harmOfHour 3 = .ok (.istore_n 3, 1) := by decide +kernel
theorem d_Waters_harmOfHour_4 : decode b_Waters_harmOfHour 4 = .ok (.iload_n 3, 1) := by decide +kernel
theorem d_Waters_harmOfHour_5 : decode b_Waters_harmOfHour 5 = .ok (.aload_n 1, 1) := by decide +kernel
theorem d_Waters_harmOfHour_6 : decode b_Waters_harmOfHour 6 = .ok (.getfield 51, 3) := by decide +kernel
theorem d_Waters_harmOfHour_9 : decode b_Waters_harmOfHour 9 = .ok (.if_icmp .ge 39, 3) := by decide +kernel
theorem d_Waters_harmOfHour_12 : decode b_Waters_harmOfHour 12 = .ok (.iload_n 2, 1) := by decide +kernel
theorem d_Waters_harmOfHour_13 : decode b_Waters_harmOfHour 13 = .ok (.aload_n 1, 1) := by decide +kernel
theorem d_Waters_harmOfHour_14 : decode b_Waters_harmOfHour 14 = .ok (.getfield 93, 3) := by decide +kernel
theorem d_Waters_harmOfHour_17 : decode b_Waters_harmOfHour 17 = .ok (.iload_n 3, 1) := by decide +kernel
theorem d_Waters_harmOfHour_18 : decode b_Waters_harmOfHour 18 = .ok (.iaload, 1) := by decide +kernel
theorem d_Waters_harmOfHour_19 : decode b_Waters_harmOfHour 19 = .ok (.iconst 2, 1) := by decide +kernel
theorem d_Waters_harmOfHour_20 : decode b_Waters_harmOfHour 20 = .ok (.if_icmp .ne 14, 3) := by decide +kernel
theorem d_Waters_harmOfHour_23 : decode b_Waters_harmOfHour 23 = .ok (.iconst 2, 1) := by decide +kernel
theorem d_Waters_harmOfHour_24 : decode b_Waters_harmOfHour 24 = .ok (.aload_n 0, 1) := by decide +kernel
theorem d_Waters_harmOfHour_25 : decode b_Waters_harmOfHour 25 = .ok (.getfield 24, 3) := by decide +kernel
theorem d_Waters_harmOfHour_28 : decode b_Waters_harmOfHour 28 = .ok (.iload_n 3, 1) := by decide +kernel
theorem d_Waters_harmOfHour_29 : decode b_Waters_harmOfHour 29 = .ok (.iaload, 1) := by decide +kernel
theorem d_Waters_harmOfHour_30 : decode b_Waters_harmOfHour 30 = .ok (.imul, 1) := by decide +kernel
theorem d_Waters_harmOfHour_31 : decode b_Waters_harmOfHour 31 = .ok (.goto 9, 3) := by decide +kernel
theorem d_Waters_harmOfHour_34 : decode b_Waters_harmOfHour 34 = .ok (.aload_n 0, 1) := by decide +kernel
theorem d_Waters_harmOfHour_35 : decode b_Waters_harmOfHour 35 = .ok (.getfield 24, 3) := by decide +kernel
theorem d_Waters_harmOfHour_38 : decode b_Waters_harmOfHour 38 = .ok (.iload_n 3, 1) := by decide +kernel
theorem d_Waters_harmOfHour_39 : decode b_Waters_harmOfHour 39 = .ok (.iaload, 1) := by decide +kernel
theorem d_Waters_harmOfHour_40 : decode b_Waters_harmOfHour 40 = .ok (.iadd, 1) := by decide +kernel
theorem d_Waters_harmOfHour_41 : decode b_Waters_harmOfHour 41 = .ok (.istore_n 2, 1) := by decide +kernel
theorem d_Waters_harmOfHour_42 : decode b_Waters_harmOfHour 42 = .ok (.iinc 3 1, 3) := by decide +kernel
theorem d_Waters_harmOfHour_45 : decode b_Waters_harmOfHour 45 = .ok (.goto (-41), 3) := by decide +kernel
theorem d_Waters_harmOfHour_48 : decode b_Waters_harmOfHour 48 = .ok (.iload_n 2, 1) := by decide +kernel
theorem d_Waters_harmOfHour_49 : decode b_Waters_harmOfHour 49 = .ok (.ireturn, 1) := by decide +kernel
abbrev b_Waters_sankBits : ByteArray := prog_9_method_13_code
abbrev y_Waters_sankBits : MethodName := ⟨"RiverTuesdays$Waters", "sankBits", "(I)I"⟩
theorem ok_Waters_sankBits : okV y_Waters_sankBits b_Waters_sankBits 4 (some .int) 1 7 := ⟨mGW (List.mem_of_getElem? (i := 701) (by decide +kernel)) rfl, mGW (List.mem_of_getElem? (i := 702) (by decide +kernel)) rfl, mGW (List.mem_of_getElem? (i := 77) (by decide +kernel)) rfl, mGW (List.mem_of_getElem? (i := 703) (by decide +kernel)) rfl, ⟨by decide, by decide, by decide +kernel⟩, rfl⟩
theorem d_Waters_sankBits_0 : decode b_Waters_sankBits 0 = .ok (.iconst 0, 1) := by decide +kernel
theorem d_Waters_sankBits_1 : decode b_Waters_sankBits 1 = .ok (.istore_n 2, 1) := by decide +kernel
theorem d_Waters_sankBits_2 : decode b_Waters_sankBits 2 = .ok (.iconst 0, 1) := by decide +kernel
theorem d_Waters_sankBits_3 : decode b_Waters_sankBits 3 = .ok (.istore_n 3, 1) := by decide +kernel
theorem d_Waters_sankBits_4 : decode b_Waters_sankBits 4 = .ok (.iload_n 3, 1) := by decide +kernel
theorem d_Waters_sankBits_5 : decode b_Waters_sankBits 5 = .ok (.iload_n 1, 1) := by decide +kernel
theorem d_Waters_sankBits_6 : decode b_Waters_sankBits 6 = .ok (.if_icmp .ge 28, 3) := by decide +kernel
theorem d_Waters_sankBits_9 : decode b_Waters_sankBits 9 = .ok (.iload_n 2, 1) := by decide +kernel
theorem d_Waters_sankBits_10 : decode b_Waters_sankBits 10 = .ok (.aload_n 0, 1) := by decide +kernel
theorem d_Waters_sankBits_11 : decode b_Waters_sankBits 11 = .ok (.getfield 24, 3) := by decide +kernel
theorem d_Waters_sankBits_14 : decode b_Waters_sankBits 14 = .ok (.iload_n 3, 1) := by decide +kernel
theorem d_Waters_sankBits_15 : decode b_Waters_sankBits 15 = .ok (.iaload, 1) := by decide +kernel
theorem d_Waters_sankBits_16 : decode b_Waters_sankBits 16 = .ok (.ifCond .le 9, 3) := by decide +kernel
theorem d_Waters_sankBits_19 : decode b_Waters_sankBits 19 = .ok (.iconst 1, 1) := by decide +kernel
theorem d_Waters_sankBits_20 : decode b_Waters_sankBits 20 = .ok (.iload_n 3, 1) := by decide +kernel
theorem d_Waters_sankBits_21 : decode b_Waters_sankBits 21 = .ok (.ishl, 1) := by decide +kernel
theorem d_Waters_sankBits_22 : decode b_Waters_sankBits 22 = .ok (.goto 4, 3) := by decide +kernel
theorem d_Waters_sankBits_25 : decode b_Waters_sankBits 25 = .ok (.iconst 0, 1) := by decide +kernel
theorem d_Waters_sankBits_26 : decode b_Waters_sankBits 26 = .ok (.ior, 1) := by decide +kernel
theorem d_Waters_sankBits_27 : decode b_Waters_sankBits 27 = .ok (.istore_n 2, 1) := by decide +kernel
theorem d_Waters_sankBits_28 : decode b_Waters_sankBits 28 = .ok (.iinc 3 1, 3) := by decide +kernel
theorem d_Waters_sankBits_31 : decode b_Waters_sankBits 31 = .ok (.goto (-27), 3) := by decide +kernel
theorem d_Waters_sankBits_34 : decode b_Waters_sankBits 34 = .ok (.iload_n 2, 1) := by decide +kernel
theorem d_Waters_sankBits_35 : decode b_Waters_sankBits 35 = .ok (.ireturn, 1) := by decide +kernel
abbrev b_Waters_sumOf : ByteArray := prog_9_method_17_code
abbrev y_Waters_sumOf : MethodName := ⟨"RiverTuesdays$Waters", "sumOf", "([I)I"⟩
theorem ok_Waters_sumOf : okS y_Waters_sumOf b_Waters_sumOf 3 (some .int) 1 := ⟨mGW (List.mem_of_getElem? (i := 625) (by decide +kernel)) rfl, mGW (List.mem_of_getElem? (i := 77) (by decide +kernel)) rfl, mGW (List.mem_of_getElem? (i := 626) (by decide +kernel)) rfl, ⟨by decide, by decide, by decide +kernel⟩⟩
theorem d_Waters_sumOf_0 : decode b_Waters_sumOf 0 = .ok (.iconst 0, 1) := by decide +kernel
theorem d_Waters_sumOf_1 : decode b_Waters_sumOf 1 = .ok (.istore_n 1, 1) := by decide +kernel
theorem d_Waters_sumOf_2 : decode b_Waters_sumOf 2 = .ok (.iconst 0, 1) := by decide +kernel
theorem d_Waters_sumOf_3 : decode b_Waters_sumOf 3 = .ok (.istore_n 2, 1) := by decide +kernel
theorem d_Waters_sumOf_4 : decode b_Waters_sumOf 4 = .ok (.iload_n 2, 1) := by decide +kernel
theorem d_Waters_sumOf_5 : decode b_Waters_sumOf 5 = .ok (.aload_n 0, 1) := by decide +kernel
theorem d_Waters_sumOf_6 : decode b_Waters_sumOf 6 = .ok (.arraylength, 1) := by decide +kernel
theorem d_Waters_sumOf_7 : decode b_Waters_sumOf 7 = .ok (.if_icmp .ge 15, 3) := by decide +kernel
theorem d_Waters_sumOf_10 : decode b_Waters_sumOf 10 = .ok (.iload_n 1, 1) := by decide +kernel
theorem d_Waters_sumOf_11 : decode b_Waters_sumOf 11 = .ok (.aload_n 0, 1) := by decide +kernel
theorem d_Waters_sumOf_12 : decode b_Waters_sumOf 12 = .ok (.iload_n 2, 1) := by decide +kernel
theorem d_Waters_sumOf_13 : decode b_Waters_sumOf 13 = .ok (.iaload, 1) := by decide +kernel
theorem d_Waters_sumOf_14 : decode b_Waters_sumOf 14 = .ok (.iadd, 1) := by decide +kernel
theorem d_Waters_sumOf_15 : decode b_Waters_sumOf 15 = .ok (.istore_n 1, 1) := by decide +kernel
theorem d_Waters_sumOf_16 : decode b_Waters_sumOf 16 = .ok (.iinc 2 1, 3) := by decide +kernel
theorem d_Waters_sumOf_19 : decode b_Waters_sumOf 19 = .ok (.goto (-15), 3) := by decide +kernel
theorem d_Waters_sumOf_22 : decode b_Waters_sumOf 22 = .ok (.iload_n 1, 1) := by decide +kernel
theorem d_Waters_sumOf_23 : decode b_Waters_sumOf 23 = .ok (.ireturn, 1) := by decide +kernel
abbrev b_Waters_allAhead : ByteArray := prog_9_method_14_code
abbrev y_Waters_allAhead : MethodName := ⟨"RiverTuesdays$Waters", "allAhead", "()I"⟩
theorem ok_Waters_allAhead : okV y_Waters_allAhead b_Waters_allAhead 1 (some .int) 0 7 := ⟨mGW (List.mem_of_getElem? (i := 621) (by decide +kernel)) rfl, mGW (List.mem_of_getElem? (i := 622) (by decide +kernel)) rfl, mGW (List.mem_of_getElem? (i := 77) (by decide +kernel)) rfl, mGW (List.mem_of_getElem? (i := 623) (by decide +kernel)) rfl, ⟨by decide, by decide, by decide +kernel⟩, rfl⟩
theorem d_Waters_allAhead_0 : decode b_Waters_allAhead 0 = .ok (.aload_n 0, 1) := by decide +kernel
theorem d_Waters_allAhead_1 : decode b_Waters_allAhead 1 = .ok (.getfield 9, 3) := by decide +kernel
theorem d_Waters_allAhead_4 : decode b_Waters_allAhead 4 = .ok (.invokestatic 96, 3) := by decide +kernel
theorem d_Waters_allAhead_7 : decode b_Waters_allAhead 7 = .ok (.ireturn, 1) := by decide +kernel
abbrev b_Waters_allFlour : ByteArray := prog_9_method_15_code
abbrev y_Waters_allFlour : MethodName := ⟨"RiverTuesdays$Waters", "allFlour", "()I"⟩
theorem ok_Waters_allFlour : okV y_Waters_allFlour b_Waters_allFlour 1 (some .int) 0 7 := ⟨mGW (List.mem_of_getElem? (i := 710) (by decide +kernel)) rfl, mGW (List.mem_of_getElem? (i := 711) (by decide +kernel)) rfl, mGW (List.mem_of_getElem? (i := 77) (by decide +kernel)) rfl, mGW (List.mem_of_getElem? (i := 712) (by decide +kernel)) rfl, ⟨by decide, by decide, by decide +kernel⟩, rfl⟩
theorem d_Waters_allFlour_0 : decode b_Waters_allFlour 0 = .ok (.aload_n 0, 1) := by decide +kernel
theorem d_Waters_allFlour_1 : decode b_Waters_allFlour 1 = .ok (.getfield 18, 3) := by decide +kernel
theorem d_Waters_allFlour_4 : decode b_Waters_allFlour 4 = .ok (.invokestatic 96, 3) := by decide +kernel
theorem d_Waters_allFlour_7 : decode b_Waters_allFlour 7 = .ok (.ireturn, 1) := by decide +kernel
abbrev b_Waters_standing : ByteArray := prog_9_method_16_code
abbrev y_Waters_standing : MethodName := ⟨"RiverTuesdays$Waters", "standing", "()I"⟩
theorem ok_Waters_standing : okV y_Waters_standing b_Waters_standing 1 (some .int) 0 7 := ⟨mGW (List.mem_of_getElem? (i := 969) (by decide +kernel)) rfl, mGW (List.mem_of_getElem? (i := 970) (by decide +kernel)) rfl, mGW (List.mem_of_getElem? (i := 77) (by decide +kernel)) rfl, mGW (List.mem_of_getElem? (i := 971) (by decide +kernel)) rfl, ⟨by decide, by decide, by decide +kernel⟩, rfl⟩
theorem d_Waters_standing_0 : decode b_Waters_standing 0 = .ok (.aload_n 0, 1) := by decide +kernel
theorem d_Waters_standing_1 : decode b_Waters_standing 1 = .ok (.getfield 9, 3) := by decide +kernel
theorem d_Waters_standing_4 : decode b_Waters_standing 4 = .ok (.invokestatic 96, 3) := by decide +kernel
theorem d_Waters_standing_7 : decode b_Waters_standing 7 = .ok (.aload_n 0, 1) := by decide +kernel
theorem d_Waters_standing_8 : decode b_Waters_standing 8 = .ok (.getfield 15, 3) := by decide +kernel
theorem d_Waters_standing_11 : decode b_Waters_standing 11 = .ok (.invokestatic 96, 3) := by decide +kernel
theorem d_Waters_standing_14 : decode b_Waters_standing 14 = .ok (.iadd, 1) := by decide +kernel
theorem d_Waters_standing_15 : decode b_Waters_standing 15 = .ok (.ireturn, 1) := by decide +kernel
abbrev b_Street_begin : ByteArray := prog_6_method_2_code
abbrev y_Street_begin : MethodName := ⟨"RiverTuesdays$Street", "begin", "(LRiverTuesdays$Bed;)V"⟩
theorem ok_Street_begin : okV y_Street_begin b_Street_begin 2 none 1 4 := ⟨mGW (List.mem_of_getElem? (i := 504) (by decide +kernel)) rfl, mGW (List.mem_of_getElem? (i := 505) (by decide +kernel)) rfl, mGW (List.mem_of_getElem? (i := 75) (by decide +kernel)) rfl, mGW (List.mem_of_getElem? (i := 506) (by decide +kernel)) rfl, ⟨by decide, by decide, by decide +kernel⟩, rfl⟩
theorem d_Street_begin_0 : decode b_Street_begin 0 = .ok (.aload_n 0, 1) := by decide +kernel
theorem d_Street_begin_1 : decode b_Street_begin 1 = .ok (.getfield 12, 3) := by decide +kernel
theorem d_Street_begin_4 : decode b_Street_begin 4 = .ok (.aload_n 1, 1) := by decide +kernel
theorem d_Street_begin_5 : decode b_Street_begin 5 = .ok (.invokevirtual 32, 3) := by decide +kernel
theorem d_Street_begin_8 : decode b_Street_begin 8 = .ok (.aload_n 0, 1) := by decide +kernel
theorem d_Street_begin_9 : decode b_Street_begin 9 = .ok (.getfield 21, 3) := by decide +kernel
theorem d_Street_begin_12 : decode b_Street_begin 12 = .ok (.invokevirtual 36, 3) := by decide +kernel
theorem d_Street_begin_15 : decode b_Street_begin 15 = .ok (.aload_n 0, 1) := by decide +kernel
theorem d_Street_begin_16 : decode b_Street_begin 16 = .ok (.iconst 0, 1) := by decide +kernel
theorem d_Street_begin_17 : decode b_Street_begin 17 = .ok (.putfield 39, 3) := by decide +kernel
theorem d_Street_begin_20 : decode b_Street_begin 20 = .ok (.return_, 1) := by decide +kernel
abbrev b_Street_takeFrom : ByteArray := prog_6_method_3_code
abbrev y_Street_takeFrom : MethodName := ⟨"RiverTuesdays$Street", "takeFrom", "(LRiverTuesdays$Street;)V"⟩
theorem ok_Street_takeFrom : okV y_Street_takeFrom b_Street_takeFrom 2 none 1 4 := ⟨mGW (List.mem_of_getElem? (i := 648) (by decide +kernel)) rfl, mGW (List.mem_of_getElem? (i := 649) (by decide +kernel)) rfl, mGW (List.mem_of_getElem? (i := 75) (by decide +kernel)) rfl, mGW (List.mem_of_getElem? (i := 650) (by decide +kernel)) rfl, ⟨by decide, by decide, by decide +kernel⟩, rfl⟩
theorem d_Street_takeFrom_0 : decode b_Street_takeFrom 0 = .ok (.aload_n 0, 1) := by decide +kernel
theorem d_Street_takeFrom_1 : decode b_Street_takeFrom 1 = .ok (.getfield 12, 3) := by decide +kernel
theorem d_Street_takeFrom_4 : decode b_Street_takeFrom 4 = .ok (.aload_n 1, 1) := by decide +kernel
theorem d_Street_takeFrom_5 : decode b_Street_takeFrom 5 = .ok (.getfield 12, 3) := by decide +kernel
theorem d_Street_takeFrom_8 : decode b_Street_takeFrom 8 = .ok (.invokevirtual 32, 3) := by decide +kernel
theorem d_Street_takeFrom_11 : decode b_Street_takeFrom 11 = .ok (.aload_n 0, 1) := by decide +kernel
theorem d_Street_takeFrom_12 : decode b_Street_takeFrom 12 = .ok (.getfield 21, 3) := by decide +kernel
theorem d_Street_takeFrom_15 : decode b_Street_takeFrom 15 = .ok (.aload_n 1, 1) := by decide +kernel
theorem d_Street_takeFrom_16 : decode b_Street_takeFrom 16 = .ok (.getfield 21, 3) := by decide +kernel
theorem d_Street_takeFrom_19 : decode b_Street_takeFrom 19 = .ok (.invokevirtual 43, 3) := by decide +kernel
theorem d_Street_takeFrom_22 : decode b_Street_takeFrom 22 = .ok (.aload_n 1, 1) := by decide +kernel
theorem d_Street_takeFrom_23 : decode b_Street_takeFrom 23 = .ok (.getfield 25, 3) := by decide +kernel
theorem d_Street_takeFrom_26 : decode b_Street_takeFrom 26 = .ok (.iconst 0, 1) := by decide +kernel
theorem d_Street_takeFrom_27 : decode b_Street_takeFrom 27 = .ok (.aload_n 0, 1) := by decide +kernel
theorem d_Street_takeFrom_28 : decode b_Street_takeFrom 28 = .ok (.getfield 25, 3) := by decide +kernel
theorem d_Street_takeFrom_31 : decode b_Street_takeFrom 31 = .ok (.iconst 0, 1) := by decide +kernel
theorem d_Street_takeFrom_32 : decode b_Street_takeFrom 32 = .ok (.aload_n 1, 1) := by decide +kernel
theorem d_Street_takeFrom_33 : decode b_Street_takeFrom 33 = .ok (.getfield 39, 3) := by decide +kernel
theorem d_Street_takeFrom_36 : decode b_Street_takeFrom 36 = .ok (.bipush 26, 2) := by decide +kernel
theorem d_Street_takeFrom_38 : decode b_Street_takeFrom 38 = .ok (.imul, 1) := by decide +kernel
theorem d_Street_takeFrom_39 : decode b_Street_takeFrom 39 = .ok (.invokestatic 46, 3) := by decide +kernel
theorem d_Street_takeFrom_42 : decode b_Street_takeFrom 42 = .ok (.aload_n 1, 1) := by decide +kernel
theorem d_Street_takeFrom_43 : decode b_Street_takeFrom 43 = .ok (.getfield 29, 3) := by decide +kernel
theorem d_Street_takeFrom_46 : decode b_Street_takeFrom 46 = .ok (.iconst 0, 1) := by decide +kernel
theorem d_Street_takeFrom_47 : decode b_Street_takeFrom 47 = .ok (.aload_n 0, 1) := by decide +kernel
theorem d_Street_takeFrom_48 : decode b_Street_takeFrom 48 = .ok (.getfield 29, 3) := by decide +kernel
theorem d_Street_takeFrom_51 : decode b_Street_takeFrom 51 = .ok (.iconst 0, 1) := by decide +kernel
theorem d_Street_takeFrom_52 : decode b_Street_takeFrom 52 = .ok (.aload_n 1, 1) := by decide +kernel
theorem d_Street_takeFrom_53 : decode b_Street_takeFrom 53 = .ok (.getfield 39, 3) := by decide +kernel
theorem d_Street_takeFrom_56 : decode b_Street_takeFrom 56 = .ok (.invokestatic 46, 3) := by decide +kernel
theorem d_Street_takeFrom_59 : decode b_Street_takeFrom 59 = .ok (.aload_n 0, 1) := by decide +kernel
theorem d_Street_takeFrom_60 : decode b_Street_takeFrom 60 = .ok (.aload_n 1, 1) := by decide +kernel
theorem d_Street_takeFrom_61 : decode b_Street_takeFrom 61 = .ok (.getfield 39, 3) := by decide +kernel
theorem d_Street_takeFrom_64 : decode b_Street_takeFrom 64 = .ok (.putfield 39, 3) := by decide +kernel
theorem d_Street_takeFrom_67 : decode b_Street_takeFrom 67 = .ok (.return_, 1) := by decide +kernel
abbrev b_Street_hasRoomFor : ByteArray := prog_6_method_4_code
abbrev y_Street_hasRoomFor : MethodName := ⟨"RiverTuesdays$Street", "hasRoomFor", "(I)Z"⟩
theorem ok_Street_hasRoomFor : okV y_Street_hasRoomFor b_Street_hasRoomFor 2 (some .boolean) 1 4 := ⟨mGW (List.mem_of_getElem? (i := 608) (by decide +kernel)) rfl, mGW (List.mem_of_getElem? (i := 609) (by decide +kernel)) rfl, mGW (List.mem_of_getElem? (i := 75) (by decide +kernel)) rfl, mGW (List.mem_of_getElem? (i := 610) (by decide +kernel)) rfl, ⟨by decide, by decide, by decide +kernel⟩, rfl⟩
theorem d_Street_hasRoomFor_0 : decode b_Street_hasRoomFor 0 = .ok (.aload_n 0, 1) := by decide +kernel
theorem d_Street_hasRoomFor_1 : decode b_Street_hasRoomFor 1 = .ok (.getfield 39, 3) := by decide +kernel
theorem d_Street_hasRoomFor_4 : decode b_Street_hasRoomFor 4 = .ok (.iload_n 1, 1) := by decide +kernel
theorem d_Street_hasRoomFor_5 : decode b_Street_hasRoomFor 5 = .ok (.iadd, 1) := by decide +kernel
theorem d_Street_hasRoomFor_6 : decode b_Street_hasRoomFor 6 = .ok (.bipush 60, 2) := by decide +kernel
theorem d_Street_hasRoomFor_8 : decode b_Street_hasRoomFor 8 = .ok (.if_icmp .gt 7, 3) := by decide +kernel
theorem d_Street_hasRoomFor_11 : decode b_Street_hasRoomFor 11 = .ok (.iconst 1, 1) := by decide +kernel
theorem d_Street_hasRoomFor_12 : decode b_Street_hasRoomFor 12 = .ok (.goto 4, 3) := by decide +kernel
theorem d_Street_hasRoomFor_15 : decode b_Street_hasRoomFor 15 = .ok (.iconst 0, 1) := by decide +kernel
theorem d_Street_hasRoomFor_16 : decode b_Street_hasRoomFor 16 = .ok (.ireturn, 1) := by decide +kernel
abbrev b_Street_pass : ByteArray := prog_6_method_5_code
abbrev y_Street_pass : MethodName := ⟨"RiverTuesdays$Street", "pass", "(I)V"⟩
theorem ok_Street_pass : okV y_Street_pass b_Street_pass 2 none 1 4 := ⟨mGW (List.mem_of_getElem? (i := 612) (by decide +kernel)) rfl, mGW (List.mem_of_getElem? (i := 613) (by decide +kernel)) rfl, mGW (List.mem_of_getElem? (i := 75) (by decide +kernel)) rfl, mGW (List.mem_of_getElem? (i := 614) (by decide +kernel)) rfl, ⟨by decide, by decide, by decide +kernel⟩, rfl⟩
theorem d_Street_pass_0 : decode b_Street_pass 0 = .ok (.aload_n 0, 1) := by decide +kernel
theorem d_Street_pass_1 : decode b_Street_pass 1 = .ok (.getfield 21, 3) := by decide +kernel
theorem d_Street_pass_4 : decode b_Street_pass 4 = .ok (.aload_n 0, 1) := by decide +kernel
theorem d_Street_pass_5 : decode b_Street_pass 5 = .ok (.getfield 25, 3) := by decide +kernel
theorem d_Street_pass_8 : decode b_Street_pass 8 = .ok (.aload_n 0, 1) := by decide +kernel
theorem d_Street_pass_9 : decode b_Street_pass 9 = .ok (.getfield 39, 3) := by decide +kernel
theorem d_Street_pass_12 : decode b_Street_pass 12 = .ok (.bipush 26, 2) := by decide +kernel
theorem d_Street_pass_14 : decode b_Street_pass 14 = .ok (.imul, 1) := by decide +kernel
theorem d_Street_pass_15 : decode b_Street_pass 15 = .ok (.invokevirtual 52, 3) := by decide +kernel
theorem d_Street_pass_18 : decode b_Street_pass 18 = .ok (.aload_n 0, 1) := by decide +kernel
theorem d_Street_pass_19 : decode b_Street_pass 19 = .ok (.getfield 29, 3) := by decide +kernel
theorem d_Street_pass_22 : decode b_Street_pass 22 = .ok (.aload_n 0, 1) := by decide +kernel
theorem d_Street_pass_23 : decode b_Street_pass 23 = .ok (.getfield 39, 3) := by decide +kernel
theorem d_Street_pass_26 : decode b_Street_pass 26 = .ok (.iload_n 1, 1) := by decide +kernel
theorem d_Street_pass_27 : decode b_Street_pass 27 = .ok (.iastore, 1) := by decide +kernel
theorem d_Street_pass_28 : decode b_Street_pass 28 = .ok (.aload_n 0, 1) := by decide +kernel
theorem d_Street_pass_29 : decode b_Street_pass 29 = .ok (.dup, 1) := by decide +kernel
theorem d_Street_pass_30 : decode b_Street_pass 30 = .ok (.getfield 39, 3) := by decide +kernel
theorem d_Street_pass_33 : decode b_Street_pass 33 = .ok (.iconst 1, 1) := by decide +kernel
theorem d_Street_pass_34 : decode b_Street_pass 34 = .ok (.iadd, 1) := by decide +kernel
theorem d_Street_pass_35 : decode b_Street_pass 35 = .ok (.putfield 39, 3) := by decide +kernel
theorem d_Street_pass_38 : decode b_Street_pass 38 = .ok (.aload_n 0, 1) := by decide +kernel
theorem d_Street_pass_39 : decode b_Street_pass 39 = .ok (.getfield 21, 3) := by decide +kernel
theorem d_Street_pass_42 : decode b_Street_pass 42 = .ok (.aload_n 0, 1) := by decide +kernel
theorem d_Street_pass_43 : decode b_Street_pass 43 = .ok (.getfield 12, 3) := by decide +kernel
theorem d_Street_pass_46 : decode b_Street_pass 46 = .ok (.iload_n 1, 1) := by decide +kernel
theorem d_Street_pass_47 : decode b_Street_pass 47 = .ok (.invokevirtual 56, 3) := by decide +kernel
theorem d_Street_pass_50 : decode b_Street_pass 50 = .ok (.return_, 1) := by decide +kernel
abbrev b_Street_goBack : ByteArray := prog_6_method_6_code
abbrev y_Street_goBack : MethodName := ⟨"RiverTuesdays$Street", "goBack", "(I)I"⟩
theorem ok_Street_goBack : okV y_Street_goBack b_Street_goBack 3 (some .int) 1 4 := ⟨mGW (List.mem_of_getElem? (i := 632) (by decide +kernel)) rfl, mGW (List.mem_of_getElem? (i := 633) (by decide +kernel)) rfl, mGW (List.mem_of_getElem? (i := 75) (by decide +kernel)) rfl, mGW (List.mem_of_getElem? (i := 634) (by decide +kernel)) rfl, ⟨by decide, by decide, by decide +kernel⟩, rfl⟩
theorem d_Street_goBack_0 : decode b_Street_goBack 0 = .ok (.aload_n 0, 1) := by decide +kernel
theorem d_Street_goBack_1 : decode b_Street_goBack 1 = .ok (.getfield 39, 3) := by decide +kernel
theorem d_Street_goBack_4 : decode b_Street_goBack 4 = .ok (.iload_n 1, 1) := by decide +kernel
theorem d_Street_goBack_5 : decode b_Street_goBack 5 = .ok (.isub, 1) := by decide +kernel
theorem d_Street_goBack_6 : decode b_Street_goBack 6 = .ok (.istore_n 2, 1) := by decide +kernel
theorem d_Street_goBack_7 : decode b_Street_goBack 7 = .ok (.iload_n 2, 1) := by decide +kernel
theorem d_Street_goBack_8 : decode b_Street_goBack 8 = .ok (.ifCond .le 23, 3) := by decide +kernel
theorem d_Street_goBack_11 : decode b_Street_goBack 11 = .ok (.aload_n 0, 1) := by decide +kernel
theorem d_Street_goBack_12 : decode b_Street_goBack 12 = .ok (.getfield 21, 3) := by decide +kernel
theorem d_Street_goBack_15 : decode b_Street_goBack 15 = .ok (.aload_n 0, 1) := by decide +kernel
theorem d_Street_goBack_16 : decode b_Street_goBack 16 = .ok (.getfield 25, 3) := by decide +kernel
theorem d_Street_goBack_19 : decode b_Street_goBack 19 = .ok (.iload_n 1, 1) := by decide +kernel
theorem d_Street_goBack_20 : decode b_Street_goBack 20 = .ok (.bipush 26, 2) := by decide +kernel
theorem d_Street_goBack_22 : decode b_Street_goBack 22 = .ok (.imul, 1) := by decide +kernel
theorem d_Street_goBack_23 : decode b_Street_goBack 23 = .ok (.invokevirtual 60, 3) := by decide +kernel
theorem d_Street_goBack_26 : decode b_Street_goBack 26 = .ok (.aload_n 0, 1) := by decide +kernel
theorem d_Street_goBack_27 : decode b_Street_goBack 27 = .ok (.iload_n 1, 1) := by decide +kernel
theorem d_Street_goBack_28 : decode b_Street_goBack 28 = .ok (.putfield 39, 3) := by decide +kernel
theorem d_Street_goBack_31 : decode b_Street_goBack 31 = .ok (.iload_n 2, 1) := by decide +kernel
theorem d_Street_goBack_32 : decode b_Street_goBack 32 = .ok (.ireturn, 1) := by decide +kernel
abbrev b_Street_ofHouse : ByteArray := prog_6_method_7_code
abbrev y_Street_ofHouse : MethodName := ⟨"RiverTuesdays$Street", "ofHouse", "(II)I"⟩
theorem ok_Street_ofHouse : okV y_Street_ofHouse b_Street_ofHouse 3 (some .int) 2 4 := ⟨mGW (List.mem_of_getElem? (i := 526) (by decide +kernel)) rfl, mGW (List.mem_of_getElem? (i := 527) (by decide +kernel)) rfl, mGW (List.mem_of_getElem? (i := 75) (by decide +kernel)) rfl, mGW (List.mem_of_getElem? (i := 528) (by decide +kernel)) rfl, ⟨by decide, by decide, by decide +kernel⟩, rfl⟩
theorem d_Street_ofHouse_0 : decode b_Street_ofHouse 0 = .ok (.iload_n 2, 1) := by decide +kernel
theorem d_Street_ofHouse_1 : decode b_Street_ofHouse 1 = .ok (.tableswitch 99 0 5 #[39, 49, 59, 69, 79, 89], 39) := by decide +kernel
theorem d_Street_ofHouse_40 : decode b_Street_ofHouse 40 = .ok (.aload_n 0, 1) := by decide +kernel
theorem d_Street_ofHouse_41 : decode b_Street_ofHouse 41 = .ok (.getfield 12, 3) := by decide +kernel
theorem d_Street_ofHouse_44 : decode b_Street_ofHouse 44 = .ok (.getfield 63, 3) := by decide +kernel
theorem d_Street_ofHouse_47 : decode b_Street_ofHouse 47 = .ok (.iload_n 1, 1) := by decide +kernel
theorem d_Street_ofHouse_48 : decode b_Street_ofHouse 48 = .ok (.iaload, 1) := by decide +kernel
theorem d_Street_ofHouse_49 : decode b_Street_ofHouse 49 = .ok (.ireturn, 1) := by decide +kernel
theorem d_Street_ofHouse_50 : decode b_Street_ofHouse 50 = .ok (.aload_n 0, 1) := by decide +kernel
theorem d_Street_ofHouse_51 : decode b_Street_ofHouse 51 = .ok (.getfield 12, 3) := by decide +kernel
theorem d_Street_ofHouse_54 : decode b_Street_ofHouse 54 = .ok (.getfield 66, 3) := by decide +kernel
theorem d_Street_ofHouse_57 : decode b_Street_ofHouse 57 = .ok (.iload_n 1, 1) := by decide +kernel
theorem d_Street_ofHouse_58 : decode b_Street_ofHouse 58 = .ok (.iaload, 1) := by decide +kernel
theorem d_Street_ofHouse_59 : decode b_Street_ofHouse 59 = .ok (.ireturn, 1) := by decide +kernel
theorem d_Street_ofHouse_60 : decode b_Street_ofHouse 60 = .ok (.aload_n 0, 1) := by decide +kernel
theorem d_Street_ofHouse_61 : decode b_Street_ofHouse 61 = .ok (.getfield 12, 3) := by decide +kernel
theorem d_Street_ofHouse_64 : decode b_Street_ofHouse 64 = .ok (.getfield 69, 3) := by decide +kernel
theorem d_Street_ofHouse_67 : decode b_Street_ofHouse 67 = .ok (.iload_n 1, 1) := by decide +kernel
theorem d_Street_ofHouse_68 : decode b_Street_ofHouse 68 = .ok (.iaload, 1) := by decide +kernel
theorem d_Street_ofHouse_69 : decode b_Street_ofHouse 69 = .ok (.ireturn, 1) := by decide +kernel
theorem d_Street_ofHouse_70 : decode b_Street_ofHouse 70 = .ok (.aload_n 0, 1) := by decide +kernel
theorem d_Street_ofHouse_71 : decode b_Street_ofHouse 71 = .ok (.getfield 12, 3) := by decide +kernel
theorem d_Street_ofHouse_74 : decode b_Street_ofHouse 74 = .ok (.getfield 72, 3) := by decide +kernel
theorem d_Street_ofHouse_77 : decode b_Street_ofHouse 77 = .ok (.iload_n 1, 1) := by decide +kernel
theorem d_Street_ofHouse_78 : decode b_Street_ofHouse 78 = .ok (.iaload, 1) := by decide +kernel
theorem d_Street_ofHouse_79 : decode b_Street_ofHouse 79 = .ok (.ireturn, 1) := by decide +kernel
theorem d_Street_ofHouse_80 : decode b_Street_ofHouse 80 = .ok (.aload_n 0, 1) := by decide +kernel
theorem d_Street_ofHouse_81 : decode b_Street_ofHouse 81 = .ok (.getfield 21, 3) := by decide +kernel
theorem d_Street_ofHouse_84 : decode b_Street_ofHouse 84 = .ok (.getfield 75, 3) := by decide +kernel
theorem d_Street_ofHouse_87 : decode b_Street_ofHouse 87 = .ok (.iload_n 1, 1) := by decide +kernel
theorem d_Street_ofHouse_88 : decode b_Street_ofHouse 88 = .ok (.iaload, 1) := by decide +kernel
theorem d_Street_ofHouse_89 : decode b_Street_ofHouse 89 = .ok (.ireturn, 1) := by decide +kernel
theorem d_Street_ofHouse_90 : decode b_Street_ofHouse 90 = .ok (.aload_n 0, 1) := by decide +kernel
theorem d_Street_ofHouse_91 : decode b_Street_ofHouse 91 = .ok (.getfield 21, 3) := by decide +kernel
theorem d_Street_ofHouse_94 : decode b_Street_ofHouse 94 = .ok (.getfield 78, 3) := by decide +kernel
theorem d_Street_ofHouse_97 : decode b_Street_ofHouse 97 = .ok (.iload_n 1, 1) := by decide +kernel
theorem d_Street_ofHouse_98 : decode b_Street_ofHouse 98 = .ok (.iaload, 1) := by decide +kernel
theorem d_Street_ofHouse_99 : decode b_Street_ofHouse 99 = .ok (.ireturn, 1) := by decide +kernel
theorem d_Street_ofHouse_100 : decode b_Street_ofHouse 100 = .ok (.aload_n 0, 1) := by decide +kernel
theorem d_Street_ofHouse_101 : decode b_Street_ofHouse 101 = .ok (.getfield 21, 3) := by decide +kernel
theorem d_Street_ofHouse_104 : decode b_Street_ofHouse 104 = .ok (.getfield 81, 3) := by decide +kernel
theorem d_Street_ofHouse_107 : decode b_Street_ofHouse 107 = .ok (.iload_n 1, 1) := by decide +kernel
theorem d_Street_ofHouse_108 : decode b_Street_ofHouse 108 = .ok (.iaload, 1) := by decide +kernel
theorem d_Street_ofHouse_109 : decode b_Street_ofHouse 109 = .ok (.ireturn, 1) := by decide +kernel
abbrev b_Street_foldedInto : ByteArray := prog_6_method_8_code
abbrev y_Street_foldedInto : MethodName := ⟨"RiverTuesdays$Street", "foldedInto", "(J)J"⟩
theorem ok_Street_foldedInto : okV y_Street_foldedInto b_Street_foldedInto 6 (some .long) 1 4 := ⟨mGW (List.mem_of_getElem? (i := 1021) (by decide +kernel)) rfl, mGW (List.mem_of_getElem? (i := 1022) (by decide +kernel)) rfl, mGW (List.mem_of_getElem? (i := 75) (by decide +kernel)) rfl, mGW (List.mem_of_getElem? (i := 1023) (by decide +kernel)) rfl, ⟨by decide, by decide, by decide +kernel⟩, rfl⟩
theorem d_Street_foldedInto_0 : decode b_Street_foldedInto 0 = .ok (.aload_n 0, 1) := by decide +kernel
theorem d_Street_foldedInto_1 : decode b_Street_foldedInto 1 = .ok (.getfield 12, 3) := by decide +kernel
theorem d_Street_foldedInto_4 : decode b_Street_foldedInto 4 = .ok (.getfield 84, 3) := by decide +kernel
theorem d_Street_foldedInto_7 : decode b_Street_foldedInto 7 = .ok (.ifCond .le 7, 3) := by decide +kernel
theorem d_Street_foldedInto_10 : decode b_Street_foldedInto 10 = .ok (.iconst 1, 1) := by decide +kernel
theorem d_Street_foldedInto_11 : decode b_Street_foldedInto 11 = .ok (.goto 4, 3) := by decide +kernel
theorem d_Street_foldedInto_14 : decode b_Street_foldedInto 14 = .ok (.iconst 0, 1) := by decide +kernel
theorem d_Street_foldedInto_15 : decode b_Street_foldedInto 15 = .ok (.istore_n 3, 1) := by decide +kernel
theorem d_Street_foldedInto_16 : decode b_Street_foldedInto 16 = .ok (.ldc2_w 87, 3) := by decide +kernel
theorem d_Street_foldedInto_19 : decode b_Street_foldedInto 19 = .ok (.lload_n 1, 1) := by decide +kernel
theorem d_Street_foldedInto_20 : decode b_Street_foldedInto 20 = .ok (.lmul, 1) := by decide +kernel
theorem d_Street_foldedInto_21 : decode b_Street_foldedInto 21 = .ok (.iload_n 3, 1) := by decide +kernel
theorem d_Street_foldedInto_22 : decode b_Street_foldedInto 22 = .ok (.ifCond .eq 13, 3) := by decide +kernel
theorem d_Street_foldedInto_25 : decode b_Street_foldedInto 25 = .ok (.aload_n 0, 1) := by decide +kernel
theorem d_Street_foldedInto_26 : decode b_Street_foldedInto 26 = .ok (.getfield 12, 3) := by decide +kernel
theorem d_Street_foldedInto_29 : decode b_Street_foldedInto 29 = .ok (.getfield 89, 3) := by decide +kernel
theorem d_Street_foldedInto_32 : decode b_Street_foldedInto 32 = .ok (.goto 4, 3) := by decide +kernel
theorem d_Street_foldedInto_35 : decode b_Street_foldedInto 35 = .ok (.iconst 0, 1) := by decide +kernel
theorem d_Street_foldedInto_36 : decode b_Street_foldedInto 36 = .ok (.i2l, 1) := by decide +kernel
theorem d_Street_foldedInto_37 : decode b_Street_foldedInto 37 = .ok (.ladd, 1) := by decide +kernel
theorem d_Street_foldedInto_38 : decode b_Street_foldedInto 38 = .ok (.lstore_n 1, 1) := by decide +kernel
theorem d_Street_foldedInto_39 : decode b_Street_foldedInto 39 = .ok (.ldc2_w 87, 3) := by decide +kernel
theorem d_Street_foldedInto_42 : decode b_Street_foldedInto 42 = .ok (.lload_n 1, 1) := by decide +kernel
theorem d_Street_foldedInto_43 : decode b_Street_foldedInto 43 = .ok (.lmul, 1) := by decide +kernel
theorem d_Street_foldedInto_44 : decode b_Street_foldedInto 44 = .ok (.iload_n 3, 1) := by decide +kernel
theorem d_Street_foldedInto_45 : decode b_Street_foldedInto 45 = .ok (.ifCond .eq 13, 3) := by decide +kernel
theorem d_Street_foldedInto_48 : decode b_Street_foldedInto 48 = .ok (.aload_n 0, 1) := by decide +kernel
theorem d_Street_foldedInto_49 : decode b_Street_foldedInto 49 = .ok (.getfield 12, 3) := by decide +kernel
theorem d_Street_foldedInto_52 : decode b_Street_foldedInto 52 = .ok (.getfield 92, 3) := by decide +kernel
theorem d_Street_foldedInto_55 : decode b_Street_foldedInto 55 = .ok (.goto 4, 3) := by decide +kernel
theorem d_Street_foldedInto_58 : decode b_Street_foldedInto 58 = .ok (.iconst 0, 1) := by decide +kernel
theorem d_Street_foldedInto_59 : decode b_Street_foldedInto 59 = .ok (.i2l, 1) := by decide +kernel
theorem d_Street_foldedInto_60 : decode b_Street_foldedInto 60 = .ok (.ladd, 1) := by decide +kernel
theorem d_Street_foldedInto_61 : decode b_Street_foldedInto 61 = .ok (.lstore_n 1, 1) := by decide +kernel
theorem d_Street_foldedInto_62 : decode b_Street_foldedInto 62 = .ok (.ldc2_w 87, 3) := by decide +kernel
theorem d_Street_foldedInto_65 : decode b_Street_foldedInto 65 = .ok (.lload_n 1, 1) := by decide +kernel
theorem d_Street_foldedInto_66 : decode b_Street_foldedInto 66 = .ok (.lmul, 1) := by decide +kernel
theorem d_Street_foldedInto_67 : decode b_Street_foldedInto 67 = .ok (.aload_n 0, 1) := by decide +kernel
theorem d_Street_foldedInto_68 : decode b_Street_foldedInto 68 = .ok (.getfield 21, 3) := by decide +kernel
theorem d_Street_foldedInto_71 : decode b_Street_foldedInto 71 = .ok (.getfield 95, 3) := by decide +kernel
theorem d_Street_foldedInto_74 : decode b_Street_foldedInto 74 = .ok (.i2l, 1) := by decide +kernel
theorem d_Street_foldedInto_75 : decode b_Street_foldedInto 75 = .ok (.ladd, 1) := by decide +kernel
theorem d_Street_foldedInto_76 : decode b_Street_foldedInto 76 = .ok (.lstore_n 1, 1) := by decide +kernel
theorem d_Street_foldedInto_77 : decode b_Street_foldedInto 77 = .ok (.ldc2_w 87, 3) := by decide +kernel
theorem d_Street_foldedInto_80 : decode b_Street_foldedInto 80 = .ok (.lload_n 1, 1) := by decide +kernel
theorem d_Street_foldedInto_81 : decode b_Street_foldedInto 81 = .ok (.lmul, 1) := by decide +kernel
theorem d_Street_foldedInto_82 : decode b_Street_foldedInto 82 = .ok (.aload_n 0, 1) := by decide +kernel
theorem d_Street_foldedInto_83 : decode b_Street_foldedInto 83 = .ok (.getfield 21, 3) := by decide +kernel
theorem d_Street_foldedInto_86 : decode b_Street_foldedInto 86 = .ok (.getfield 98, 3) := by decide +kernel
theorem d_Street_foldedInto_89 : decode b_Street_foldedInto 89 = .ok (.i2l, 1) := by decide +kernel
theorem d_Street_foldedInto_90 : decode b_Street_foldedInto 90 = .ok (.ladd, 1) := by decide +kernel
theorem d_Street_foldedInto_91 : decode b_Street_foldedInto 91 = .ok (.lstore_n 1, 1) := by decide +kernel
theorem d_Street_foldedInto_92 : decode b_Street_foldedInto 92 = .ok (.iconst 0, 1) := by decide +kernel
theorem d_Street_foldedInto_93 : decode b_Street_foldedInto 93 = .ok (.istore 4, 2) := by decide +kernel
theorem d_Street_foldedInto_95 : decode b_Street_foldedInto 95 = .ok (.iload 4, 2) := by decide +kernel
theorem d_Street_foldedInto_97 : decode b_Street_foldedInto 97 = .ok (.aload_n 0, 1) := by decide +kernel
theorem d_Street_foldedInto_98 : decode b_Street_foldedInto 98 = .ok (.getfield 12, 3) := by decide +kernel
theorem d_Street_foldedInto_101 : decode b_Street_foldedInto 101 = .ok (.getfield 84, 3) := by decide +kernel
theorem d_Street_foldedInto_104 : decode b_Street_foldedInto 104 = .ok (.if_icmp .ge 59, 3) := by decide +kernel
theorem d_Street_foldedInto_107 : decode b_Street_foldedInto 107 = .ok (.iconst 0, 1) := by decide +kernel
theorem d_Street_foldedInto_108 : decode b_Street_foldedInto 108 = .ok (.istore 5, 2) := by decide +kernel
theorem d_Street_foldedInto_110 : decode b_Street_foldedInto 110 = .ok (.iload 5, 2) := by decide +kernel
theorem d_Street_foldedInto_112 : decode b_Street_foldedInto 112 = .ok (.bipush 6, 2) := by decide +kernel
theorem d_Street_foldedInto_114 : decode b_Street_foldedInto 114 = .ok (.if_icmp .gt 25, 3) := by decide +kernel
theorem d_Street_foldedInto_117 : decode b_Street_foldedInto 117 = .ok (.ldc2_w 87, 3) := by decide +kernel
theorem d_Street_foldedInto_120 : decode b_Street_foldedInto 120 = .ok (.lload_n 1, 1) := by decide +kernel
theorem d_Street_foldedInto_121 : decode b_Street_foldedInto 121 = .ok (.lmul, 1) := by decide +kernel
theorem d_Street_foldedInto_122 : decode b_Street_foldedInto 122 = .ok (.aload_n 0, 1) := by decide +kernel
theorem d_Street_foldedInto_123 : decode b_Street_foldedInto 123 = .ok (.iload 4, 2) := by decide +kernel
theorem d_Street_foldedInto_125 : decode b_Street_foldedInto 125 = .ok (.iload 5, 2) := by decide +kernel
theorem d_Street_foldedInto_127 : decode b_Street_foldedInto 127 = .ok (.invokevirtual 101, 3) := by decide +kernel
theorem d_Street_foldedInto_130 : decode b_Street_foldedInto 130 = .ok (.i2l, 1) := by decide +kernel
theorem d_Street_foldedInto_131 : decode b_Street_foldedInto 131 = .ok (.ladd, 1) := by decide +kernel
theorem d_Street_foldedInto_132 : decode b_Street_foldedInto 132 = .ok (.lstore_n 1, 1) := by decide +kernel
theorem d_Street_foldedInto_133 : decode b_Street_foldedInto 133 = .ok (.iinc 5 1, 3) := by decide +kernel
theorem d_Street_foldedInto_136 : decode b_Street_foldedInto 136 = .ok (.goto (-26), 3) := by decide +kernel
theorem d_Street_foldedInto_139 : decode b_Street_foldedInto 139 = .ok (.ldc2_w 87, 3) := by decide +kernel
theorem d_Street_foldedInto_142 : decode b_Street_foldedInto 142 = .ok (.lload_n 1, 1) := by decide +kernel
theorem d_Street_foldedInto_143 : decode b_Street_foldedInto 143 = .ok (.lmul, 1) := by decide +kernel
theorem d_Street_foldedInto_144 : decode b_Street_foldedInto 144 = .ok (.aload_n 0, 1) := by decide +kernel
theorem d_Street_foldedInto_145 : decode b_Street_foldedInto 145 = .ok (.getfield 12, 3) := by decide +kernel
theorem d_Street_foldedInto_148 : decode b_Street_foldedInto 148 = .ok (.getfield 105, 3) := by decide +kernel
theorem d_Street_foldedInto_151 : decode b_Street_foldedInto 151 = .ok (.iload 4, 2) := by decide +kernel
theorem d_Street_foldedInto_153 : decode b_Street_foldedInto 153 = .ok (.iaload, 1) := by decide +kernel
theorem d_Street_foldedInto_154 : decode b_Street_foldedInto 154 = .ok (.i2l, 1) := by decide +kernel
theorem d_Street_foldedInto_155 : decode b_Street_foldedInto 155 = .ok (.ladd, 1) := by decide +kernel
theorem d_Street_foldedInto_156 : decode b_Street_foldedInto 156 = .ok (.lstore_n 1, 1) := by decide +kernel
theorem d_Street_foldedInto_157 : decode b_Street_foldedInto 157 = .ok (.iinc 4 1, 3) := by decide +kernel
theorem d_Street_foldedInto_160 : decode b_Street_foldedInto 160 = .ok (.goto (-65), 3) := by decide +kernel
theorem d_Street_foldedInto_163 : decode b_Street_foldedInto 163 = .ok (.iconst 0, 1) := by decide +kernel
theorem d_Street_foldedInto_164 : decode b_Street_foldedInto 164 = .ok (.istore 4, 2) := by decide +kernel
theorem d_Street_foldedInto_166 : decode b_Street_foldedInto 166 = .ok (.iload 4, 2) := by decide +kernel
theorem d_Street_foldedInto_168 : decode b_Street_foldedInto 168 = .ok (.aload_n 0, 1) := by decide +kernel
theorem d_Street_foldedInto_169 : decode b_Street_foldedInto 169 = .ok (.getfield 39, 3) := by decide +kernel
theorem d_Street_foldedInto_172 : decode b_Street_foldedInto 172 = .ok (.if_icmp .ge 24, 3) := by decide +kernel
theorem d_Street_foldedInto_175 : decode b_Street_foldedInto 175 = .ok (.ldc2_w 87, 3) := by decide +kernel
theorem d_Street_foldedInto_178 : decode b_Street_foldedInto 178 = .ok (.lload_n 1, 1) := by decide +kernel
theorem d_Street_foldedInto_179 : decode b_Street_foldedInto 179 = .ok (.lmul, 1) := by decide +kernel
theorem d_Street_foldedInto_180 : decode b_Street_foldedInto 180 = .ok (.aload_n 0, 1) := by decide +kernel
theorem d_Street_foldedInto_181 : decode b_Street_foldedInto 181 = .ok (.getfield 29, 3) := by decide +kernel
theorem d_Street_foldedInto_184 : decode b_Street_foldedInto 184 = .ok (.iload 4, 2) := by decide +kernel
theorem d_Street_foldedInto_186 : decode b_Street_foldedInto 186 = .ok (.iaload, 1) := by decide +kernel
theorem d_Street_foldedInto_187 : decode b_Street_foldedInto 187 = .ok (.i2l, 1) := by decide +kernel
theorem d_Street_foldedInto_188 : decode b_Street_foldedInto 188 = .ok (.ladd, 1) := by decide +kernel
theorem d_Street_foldedInto_189 : decode b_Street_foldedInto 189 = .ok (.lstore_n 1, 1) := by decide +kernel
theorem d_Street_foldedInto_190 : decode b_Street_foldedInto 190 = .ok (.iinc 4 1, 3) := by decide +kernel
theorem d_Street_foldedInto_193 : decode b_Street_foldedInto 193 = .ok (.goto (-27), 3) := by decide +kernel
theorem d_Street_foldedInto_196 : decode b_Street_foldedInto 196 = .ok (.lload_n 1, 1) := by decide +kernel
theorem d_Street_foldedInto_197 : decode b_Street_foldedInto 197 = .ok (.lreturn, 1) := by decide +kernel
def f_Waters_begin (a0 : Nat) (D : Dt) : Option (Unit × Dt) :=
  bnd (f_J_fillI (a0 + 1) 0 D) (fun x1 D2 => bnd (f_J_fillI (a0 + 2) 0 D2) (fun x3 D4 => bnd (f_J_fillI (a0 + 3) 0 D4) (fun x5 D6 => nm (wr D6 a0 5 0) (fun D7 => nm (wr D7 a0 6 0) (fun D8 => some ((), D8))))))
set_option maxHeartbeats 4000000 in
theorem te_Waters_begin {Γ : GmT} {G : Dt → Nat → List (Nat × Value) → List Value → Prop} {rr : Unit} {DD : Dt} {a0 : Nat} (C : Cx Γ "RiverTuesdays$Waters" b_Waters_begin 1 2 none none DD G) (h0 : kd a0 = 7) {D : Dt} (hf : f_Waters_begin a0 D = some (rr, DD)) : G D 0 [(0, .ref (Γ.2.1 a0))] [] := by
  unfold f_Waters_begin at hf
  refine r_aload_n (pc := 0) C 0 d_Waters_begin_0 rfl rfl ?_
  refine g_Waters_ahead (pc := 1) C h0 Lf_Waters_9 d_Waters_begin_1 ?_
  refine r_iconst (pc := 4) C (v := 0) d_Waters_begin_4 (by decide) ?_
  refine r_callSv (pc := 5) (As := [.ref (Γ.2.1 (a0 + 1)), .int 0]) (rest := []) C ok_J_fillI Lm_Waters_27 ⟨by decide, by decide⟩ rfl rfl (Nat.le_of_ble_eq_true rfl) d_Waters_begin_5 hf (fun x D1 hc => c_J_fillI Γ ((kq_Waters_ahead h0)).1 hc) (fun x1 D2 hf => ?_)
  refine r_aload_n (pc := 8) C 0 d_Waters_begin_8 rfl rfl ?_
  refine g_Waters_below (pc := 9) C h0 Lf_Waters_15 d_Waters_begin_9 ?_
  refine r_iconst (pc := 12) C (v := 0) d_Waters_begin_12 (by decide) ?_
  refine r_callSv (pc := 13) (As := [.ref (Γ.2.1 (a0 + 2)), .int 0]) (rest := []) C ok_J_fillI Lm_Waters_27 ⟨by decide, by decide⟩ rfl rfl (Nat.le_of_ble_eq_true rfl) d_Waters_begin_13 hf (fun x D1 hc => c_J_fillI Γ ((kq_Waters_below h0)).1 hc) (fun x3 D4 hf => ?_)
  refine r_aload_n (pc := 16) C 0 d_Waters_begin_16 rfl rfl ?_
  refine g_Waters_flour (pc := 17) C h0 Lf_Waters_18 d_Waters_begin_17 ?_
  refine r_iconst (pc := 20) C (v := 0) d_Waters_begin_20 (by decide) ?_
  refine r_callSv (pc := 21) (As := [.ref (Γ.2.1 (a0 + 3)), .int 0]) (rest := []) C ok_J_fillI Lm_Waters_27 ⟨by decide, by decide⟩ rfl rfl (Nat.le_of_ble_eq_true rfl) d_Waters_begin_21 hf (fun x D1 hc => c_J_fillI Γ ((kq_Waters_flour h0)).1 hc) (fun x5 D6 hf => ?_)
  refine r_aload_n (pc := 24) C 0 d_Waters_begin_24 rfl rfl ?_
  refine r_iconst (pc := 25) C (v := 0) d_Waters_begin_25 (by decide) ?_
  refine p_Waters_in (pc := 26) C h0 Lf_Waters_33 d_Waters_begin_26 ?_
  refine r_nmD hf (fun D7 hf => ?_)
  refine r_aload_n (pc := 29) C 0 d_Waters_begin_29 rfl rfl ?_
  refine r_iconst (pc := 30) C (v := 0) d_Waters_begin_30 (by decide) ?_
  refine p_Waters_out (pc := 31) C h0 Lf_Waters_37 d_Waters_begin_31 ?_
  refine r_nmD hf (fun D8 hf => ?_)
  exact r_vret (pc := 34) C d_Waters_begin_34 hf
theorem c_Waters_begin (Γ : GmT) {a0 : Nat} (h0 : kd a0 = 7) {D : Dt} {rr : Unit} {DD : Dt} (hf : f_Waters_begin a0 D = some (rr, DD)) : Mt Γ y_Waters_begin b_Waters_begin 1 none 2 [.ref (Γ.2.1 a0)] D none DD := Mt_of (by decide) (Nat.le_of_ble_eq_true rfl) (fun G C => te_Waters_begin C h0 hf)
def f_Waters_takeFrom (a0 : Nat) (a1 : Nat) (D : Dt) : Option (Unit × Dt) :=
  (if ¬ (0 : Int32) < 0 ∧ ¬ (0 : Int32) < 0 ∧ ¬ (8 : Int32) < 0 ∧ (0 : Int32).toNatClampNeg + (8 : Int32).toNatClampNeg ≤ 8 ∧ (0 : Int32).toNatClampNeg + (8 : Int32).toNatClampNeg ≤ 8 then nm (st D (a0 + 1) (va_cpy (D (a1 + 1)) (D (a0 + 1)) (0 : Int32).toNatClampNeg (0 : Int32).toNatClampNeg (8 : Int32).toNatClampNeg)) (fun D1 => (if ¬ (0 : Int32) < 0 ∧ ¬ (0 : Int32) < 0 ∧ ¬ (8 : Int32) < 0 ∧ (0 : Int32).toNatClampNeg + (8 : Int32).toNatClampNeg ≤ 8 ∧ (0 : Int32).toNatClampNeg + (8 : Int32).toNatClampNeg ≤ 8 then nm (st D1 (a0 + 2) (va_cpy (D1 (a1 + 2)) (D1 (a0 + 2)) (0 : Int32).toNatClampNeg (0 : Int32).toNatClampNeg (8 : Int32).toNatClampNeg)) (fun D2 => (if ¬ (0 : Int32) < 0 ∧ ¬ (0 : Int32) < 0 ∧ ¬ (8 : Int32) < 0 ∧ (0 : Int32).toNatClampNeg + (8 : Int32).toNatClampNeg ≤ 8 ∧ (0 : Int32).toNatClampNeg + (8 : Int32).toNatClampNeg ≤ 8 then nm (st D2 (a0 + 3) (va_cpy (D2 (a1 + 3)) (D2 (a0 + 3)) (0 : Int32).toNatClampNeg (0 : Int32).toNatClampNeg (8 : Int32).toNatClampNeg)) (fun D3 => nm (wr D3 a0 5 (D3 a1 5)) (fun D4 => nm (wr D4 a0 6 (D4 a1 6)) (fun D5 => some ((), D5)))) else none)) else none)) else none)
set_option maxHeartbeats 4000000 in
theorem te_Waters_takeFrom {Γ : GmT} {G : Dt → Nat → List (Nat × Value) → List Value → Prop} {rr : Unit} {DD : Dt} {a0 : Nat} {a1 : Nat} (C : Cx Γ "RiverTuesdays$Waters" b_Waters_takeFrom 2 2 none none DD G) (h0 : kd a0 = 7) (h1 : kd a1 = 7) {D : Dt} (hf : f_Waters_takeFrom a0 a1 D = some (rr, DD)) : G D 0 [(0, .ref (Γ.2.1 a0)), (1, .ref (Γ.2.1 a1))] [] := by
  unfold f_Waters_takeFrom at hf
  refine r_aload_n (pc := 0) C 1 d_Waters_takeFrom_0 rfl rfl ?_
  refine g_Waters_ahead (pc := 1) C h1 Lf_Waters_9 d_Waters_takeFrom_1 ?_
  refine r_iconst (pc := 4) C (v := 0) d_Waters_takeFrom_4 (by decide) ?_
  refine r_aload_n (pc := 5) C 0 d_Waters_takeFrom_5 rfl rfl ?_
  refine g_Waters_ahead (pc := 6) C h0 Lf_Waters_9 d_Waters_takeFrom_6 ?_
  refine r_iconst (pc := 9) C (v := 0) d_Waters_takeFrom_9 (by decide) ?_
  refine r_bipush (pc := 10) C (v := 8) d_Waters_takeFrom_10 (by decide) ?_
  refine r_acopy (pc := 12) C (kq_Waters_ahead h1) (kq_Waters_ahead h0) Lm_Waters_40 acw1 acw2 acw3 (by decide) (Nat.le_of_ble_eq_true rfl) d_Waters_takeFrom_12 hf (fun hf => ?_)
  refine r_nmD hf (fun D1 hf => ?_)
  refine r_aload_n (pc := 15) C 1 d_Waters_takeFrom_15 rfl rfl ?_
  refine g_Waters_below (pc := 16) C h1 Lf_Waters_15 d_Waters_takeFrom_16 ?_
  refine r_iconst (pc := 19) C (v := 0) d_Waters_takeFrom_19 (by decide) ?_
  refine r_aload_n (pc := 20) C 0 d_Waters_takeFrom_20 rfl rfl ?_
  refine g_Waters_below (pc := 21) C h0 Lf_Waters_15 d_Waters_takeFrom_21 ?_
  refine r_iconst (pc := 24) C (v := 0) d_Waters_takeFrom_24 (by decide) ?_
  refine r_bipush (pc := 25) C (v := 8) d_Waters_takeFrom_25 (by decide) ?_
  refine r_acopy (pc := 27) C (kq_Waters_below h1) (kq_Waters_below h0) Lm_Waters_40 acw1 acw2 acw3 (by decide) (Nat.le_of_ble_eq_true rfl) d_Waters_takeFrom_27 hf (fun hf => ?_)
  refine r_nmD hf (fun D2 hf => ?_)
  refine r_aload_n (pc := 30) C 1 d_Waters_takeFrom_30 rfl rfl ?_
  refine g_Waters_flour (pc := 31) C h1 Lf_Waters_18 d_Waters_takeFrom_31 ?_
  refine r_iconst (pc := 34) C (v := 0) d_Waters_takeFrom_34 (by decide) ?_
  refine r_aload_n (pc := 35) C 0 d_Waters_takeFrom_35 rfl rfl ?_
  refine g_Waters_flour (pc := 36) C h0 Lf_Waters_18 d_Waters_takeFrom_36 ?_
  refine r_iconst (pc := 39) C (v := 0) d_Waters_takeFrom_39 (by decide) ?_
  refine r_bipush (pc := 40) C (v := 8) d_Waters_takeFrom_40 (by decide) ?_
  refine r_acopy (pc := 42) C (kq_Waters_flour h1) (kq_Waters_flour h0) Lm_Waters_40 acw1 acw2 acw3 (by decide) (Nat.le_of_ble_eq_true rfl) d_Waters_takeFrom_42 hf (fun hf => ?_)
  refine r_nmD hf (fun D3 hf => ?_)
  refine r_aload_n (pc := 45) C 0 d_Waters_takeFrom_45 rfl rfl ?_
  refine r_aload_n (pc := 46) C 1 d_Waters_takeFrom_46 rfl rfl ?_
  refine g_Waters_in (pc := 47) C h1 Lf_Waters_33 d_Waters_takeFrom_47 ?_
  refine p_Waters_in (pc := 50) C h0 Lf_Waters_33 d_Waters_takeFrom_50 ?_
  refine r_nmD hf (fun D4 hf => ?_)
  refine r_aload_n (pc := 53) C 0 d_Waters_takeFrom_53 rfl rfl ?_
  refine r_aload_n (pc := 54) C 1 d_Waters_takeFrom_54 rfl rfl ?_
  refine g_Waters_out (pc := 55) C h1 Lf_Waters_37 d_Waters_takeFrom_55 ?_
  refine p_Waters_out (pc := 58) C h0 Lf_Waters_37 d_Waters_takeFrom_58 ?_
  refine r_nmD hf (fun D5 hf => ?_)
  exact r_vret (pc := 61) C d_Waters_takeFrom_61 hf
theorem c_Waters_takeFrom (Γ : GmT) {a0 : Nat} {a1 : Nat} (h0 : kd a0 = 7) (h1 : kd a1 = 7) {D : Dt} {rr : Unit} {DD : Dt} (hf : f_Waters_takeFrom a0 a1 D = some (rr, DD)) : Mt Γ y_Waters_takeFrom b_Waters_takeFrom 2 none 2 [.ref (Γ.2.1 a0), .ref (Γ.2.1 a1)] D none DD := Mt_of (by decide) (Nat.le_of_ble_eq_true rfl) (fun G C => te_Waters_takeFrom C h0 h1 hf)
def f_Waters_saveTo (a0 : Nat) (a1 : Nat) (v2 : Int32) (D : Dt) : Option (Unit × Dt) :=
  (if ¬ (0 : Int32) < 0 ∧ ¬ v2 < 0 ∧ ¬ (8 : Int32) < 0 ∧ (0 : Int32).toNatClampNeg + (8 : Int32).toNatClampNeg ≤ 8 ∧ v2.toNatClampNeg + (8 : Int32).toNatClampNeg ≤ (ln a1) then nm (st D a1 (va_cpy (D (a0 + 1)) (D a1) (0 : Int32).toNatClampNeg v2.toNatClampNeg (8 : Int32).toNatClampNeg)) (fun D1 => (if ¬ (0 : Int32) < 0 ∧ ¬ (v2 + 8) < 0 ∧ ¬ (8 : Int32) < 0 ∧ (0 : Int32).toNatClampNeg + (8 : Int32).toNatClampNeg ≤ 8 ∧ (v2 + 8).toNatClampNeg + (8 : Int32).toNatClampNeg ≤ (ln a1) then nm (st D1 a1 (va_cpy (D1 (a0 + 2)) (D1 a1) (0 : Int32).toNatClampNeg (v2 + 8).toNatClampNeg (8 : Int32).toNatClampNeg)) (fun D2 => (if ¬ (0 : Int32) < 0 ∧ ¬ (v2 + 16) < 0 ∧ ¬ (8 : Int32) < 0 ∧ (0 : Int32).toNatClampNeg + (8 : Int32).toNatClampNeg ≤ 8 ∧ (v2 + 16).toNatClampNeg + (8 : Int32).toNatClampNeg ≤ (ln a1) then nm (st D2 a1 (va_cpy (D2 (a0 + 3)) (D2 a1) (0 : Int32).toNatClampNeg (v2 + 16).toNatClampNeg (8 : Int32).toNatClampNeg)) (fun D3 => (if inb (v2 + 24) (ln a1) = true then nm (wr D3 a1 (v2 + 24).toNatClampNeg (D3 a0 5)) (fun D4 => (if inb ((v2 + 24) + 1) (ln a1) = true then nm (wr D4 a1 ((v2 + 24) + 1).toNatClampNeg (D4 a0 6)) (fun D5 => some ((), D5)) else none)) else none)) else none)) else none)) else none)
set_option maxHeartbeats 4000000 in
theorem te_Waters_saveTo {Γ : GmT} {G : Dt → Nat → List (Nat × Value) → List Value → Prop} {rr : Unit} {DD : Dt} {a0 : Nat} {a1 : Nat} (C : Cx Γ "RiverTuesdays$Waters" b_Waters_saveTo 3 2 none none DD G) (h0 : kd a0 = 7) (h1 : kd a1 = 11) {v2 : Int32} {D : Dt} (hf : f_Waters_saveTo a0 a1 v2 D = some (rr, DD)) : G D 0 [(0, .ref (Γ.2.1 a0)), (1, .ref (Γ.2.1 a1)), (2, .int v2)] [] := by
  unfold f_Waters_saveTo at hf
  refine r_aload_n (pc := 0) C 0 d_Waters_saveTo_0 rfl rfl ?_
  refine g_Waters_ahead (pc := 1) C h0 Lf_Waters_9 d_Waters_saveTo_1 ?_
  refine r_iconst (pc := 4) C (v := 0) d_Waters_saveTo_4 (by decide) ?_
  refine r_aload_n (pc := 5) C 1 d_Waters_saveTo_5 rfl rfl ?_
  refine r_iload_n (pc := 6) C 2 d_Waters_saveTo_6 rfl rfl ?_
  refine r_bipush (pc := 7) C (v := 8) d_Waters_saveTo_7 (by decide) ?_
  refine r_acopy (pc := 9) C (kq_Waters_ahead h0) ⟨h1, rfl⟩ Lm_Waters_40 acw1 acw2 acw3 (by decide) (Nat.le_of_ble_eq_true rfl) d_Waters_saveTo_9 hf (fun hf => ?_)
  refine r_nmD hf (fun D1 hf => ?_)
  refine r_aload_n (pc := 12) C 0 d_Waters_saveTo_12 rfl rfl ?_
  refine g_Waters_below (pc := 13) C h0 Lf_Waters_15 d_Waters_saveTo_13 ?_
  refine r_iconst (pc := 16) C (v := 0) d_Waters_saveTo_16 (by decide) ?_
  refine r_aload_n (pc := 17) C 1 d_Waters_saveTo_17 rfl rfl ?_
  refine r_iload_n (pc := 18) C 2 d_Waters_saveTo_18 rfl rfl ?_
  refine r_bipush (pc := 19) C (v := 8) d_Waters_saveTo_19 (by decide) ?_
  refine r_iadd (pc := 21) C d_Waters_saveTo_21 ?_
  refine r_bipush (pc := 22) C (v := 8) d_Waters_saveTo_22 (by decide) ?_
  refine r_acopy (pc := 24) C (kq_Waters_below h0) ⟨h1, rfl⟩ Lm_Waters_40 acw1 acw2 acw3 (by decide) (Nat.le_of_ble_eq_true rfl) d_Waters_saveTo_24 hf (fun hf => ?_)
  refine r_nmD hf (fun D2 hf => ?_)
  refine r_aload_n (pc := 27) C 0 d_Waters_saveTo_27 rfl rfl ?_
  refine g_Waters_flour (pc := 28) C h0 Lf_Waters_18 d_Waters_saveTo_28 ?_
  refine r_iconst (pc := 31) C (v := 0) d_Waters_saveTo_31 (by decide) ?_
  refine r_aload_n (pc := 32) C 1 d_Waters_saveTo_32 rfl rfl ?_
  refine r_iload_n (pc := 33) C 2 d_Waters_saveTo_33 rfl rfl ?_
  refine r_bipush (pc := 34) C (v := 16) d_Waters_saveTo_34 (by decide) ?_
  refine r_iadd (pc := 36) C d_Waters_saveTo_36 ?_
  refine r_bipush (pc := 37) C (v := 8) d_Waters_saveTo_37 (by decide) ?_
  refine r_acopy (pc := 39) C (kq_Waters_flour h0) ⟨h1, rfl⟩ Lm_Waters_40 acw1 acw2 acw3 (by decide) (Nat.le_of_ble_eq_true rfl) d_Waters_saveTo_39 hf (fun hf => ?_)
  refine r_nmD hf (fun D3 hf => ?_)
  refine r_aload_n (pc := 42) C 1 d_Waters_saveTo_42 rfl rfl ?_
  refine r_iload_n (pc := 43) C 2 d_Waters_saveTo_43 rfl rfl ?_
  refine r_bipush (pc := 44) C (v := 24) d_Waters_saveTo_44 (by decide) ?_
  refine r_iadd (pc := 46) C d_Waters_saveTo_46 ?_
  refine r_aload_n (pc := 47) C 0 d_Waters_saveTo_47 rfl rfl ?_
  refine g_Waters_in (pc := 48) C h0 Lf_Waters_33 d_Waters_saveTo_48 ?_
  refine r_iast (pc := 51) C ⟨h1, rfl⟩ d_Waters_saveTo_51 hf (fun hf => ?_)
  refine r_nmD hf (fun D4 hf => ?_)
  refine r_aload_n (pc := 52) C 1 d_Waters_saveTo_52 rfl rfl ?_
  refine r_iload_n (pc := 53) C 2 d_Waters_saveTo_53 rfl rfl ?_
  refine r_bipush (pc := 54) C (v := 24) d_Waters_saveTo_54 (by decide) ?_
  refine r_iadd (pc := 56) C d_Waters_saveTo_56 ?_
  refine r_iconst (pc := 57) C (v := 1) d_Waters_saveTo_57 (by decide) ?_
  refine r_iadd (pc := 58) C d_Waters_saveTo_58 ?_
  refine r_aload_n (pc := 59) C 0 d_Waters_saveTo_59 rfl rfl ?_
  refine g_Waters_out (pc := 60) C h0 Lf_Waters_37 d_Waters_saveTo_60 ?_
  refine r_iast (pc := 63) C ⟨h1, rfl⟩ d_Waters_saveTo_63 hf (fun hf => ?_)
  refine r_nmD hf (fun D5 hf => ?_)
  exact r_vret (pc := 64) C d_Waters_saveTo_64 hf
theorem c_Waters_saveTo (Γ : GmT) {a0 : Nat} {a1 : Nat} {v2 : Int32} (h0 : kd a0 = 7) (h1 : kd a1 = 11) {D : Dt} {rr : Unit} {DD : Dt} (hf : f_Waters_saveTo a0 a1 v2 D = some (rr, DD)) : Mt Γ y_Waters_saveTo b_Waters_saveTo 3 none 2 [.ref (Γ.2.1 a0), .ref (Γ.2.1 a1), .int v2] D none DD := Mt_of (by decide) (Nat.le_of_ble_eq_true rfl) (fun G C => te_Waters_saveTo C h0 h1 hf)
def f_Waters_loadFrom (a0 : Nat) (a1 : Nat) (v2 : Int32) (D : Dt) : Option (Unit × Dt) :=
  (if ¬ v2 < 0 ∧ ¬ (0 : Int32) < 0 ∧ ¬ (8 : Int32) < 0 ∧ v2.toNatClampNeg + (8 : Int32).toNatClampNeg ≤ (ln a1) ∧ (0 : Int32).toNatClampNeg + (8 : Int32).toNatClampNeg ≤ 8 then nm (st D (a0 + 1) (va_cpy (D a1) (D (a0 + 1)) v2.toNatClampNeg (0 : Int32).toNatClampNeg (8 : Int32).toNatClampNeg)) (fun D1 => (if ¬ (v2 + 8) < 0 ∧ ¬ (0 : Int32) < 0 ∧ ¬ (8 : Int32) < 0 ∧ (v2 + 8).toNatClampNeg + (8 : Int32).toNatClampNeg ≤ (ln a1) ∧ (0 : Int32).toNatClampNeg + (8 : Int32).toNatClampNeg ≤ 8 then nm (st D1 (a0 + 2) (va_cpy (D1 a1) (D1 (a0 + 2)) (v2 + 8).toNatClampNeg (0 : Int32).toNatClampNeg (8 : Int32).toNatClampNeg)) (fun D2 => (if ¬ (v2 + 16) < 0 ∧ ¬ (0 : Int32) < 0 ∧ ¬ (8 : Int32) < 0 ∧ (v2 + 16).toNatClampNeg + (8 : Int32).toNatClampNeg ≤ (ln a1) ∧ (0 : Int32).toNatClampNeg + (8 : Int32).toNatClampNeg ≤ 8 then nm (st D2 (a0 + 3) (va_cpy (D2 a1) (D2 (a0 + 3)) (v2 + 16).toNatClampNeg (0 : Int32).toNatClampNeg (8 : Int32).toNatClampNeg)) (fun D3 => (if inb (v2 + 24) (ln a1) = true then nm (wr D3 a0 5 (D3 a1 (v2 + 24).toNatClampNeg)) (fun D4 => (if inb ((v2 + 24) + 1) (ln a1) = true then nm (wr D4 a0 6 (D4 a1 ((v2 + 24) + 1).toNatClampNeg)) (fun D5 => some ((), D5)) else none)) else none)) else none)) else none)) else none)
set_option maxHeartbeats 4000000 in
theorem te_Waters_loadFrom {Γ : GmT} {G : Dt → Nat → List (Nat × Value) → List Value → Prop} {rr : Unit} {DD : Dt} {a0 : Nat} {a1 : Nat} (C : Cx Γ "RiverTuesdays$Waters" b_Waters_loadFrom 3 2 none none DD G) (h0 : kd a0 = 7) (h1 : kd a1 = 11) {v2 : Int32} {D : Dt} (hf : f_Waters_loadFrom a0 a1 v2 D = some (rr, DD)) : G D 0 [(0, .ref (Γ.2.1 a0)), (1, .ref (Γ.2.1 a1)), (2, .int v2)] [] := by
  unfold f_Waters_loadFrom at hf
  refine r_aload_n (pc := 0) C 1 d_Waters_loadFrom_0 rfl rfl ?_
  refine r_iload_n (pc := 1) C 2 d_Waters_loadFrom_1 rfl rfl ?_
  refine r_aload_n (pc := 2) C 0 d_Waters_loadFrom_2 rfl rfl ?_
  refine g_Waters_ahead (pc := 3) C h0 Lf_Waters_9 d_Waters_loadFrom_3 ?_
  refine r_iconst (pc := 6) C (v := 0) d_Waters_loadFrom_6 (by decide) ?_
  refine r_bipush (pc := 7) C (v := 8) d_Waters_loadFrom_7 (by decide) ?_
  refine r_acopy (pc := 9) C ⟨h1, rfl⟩ (kq_Waters_ahead h0) Lm_Waters_40 acw1 acw2 acw3 (by decide) (Nat.le_of_ble_eq_true rfl) d_Waters_loadFrom_9 hf (fun hf => ?_)
  refine r_nmD hf (fun D1 hf => ?_)
  refine r_aload_n (pc := 12) C 1 d_Waters_loadFrom_12 rfl rfl ?_
  refine r_iload_n (pc := 13) C 2 d_Waters_loadFrom_13 rfl rfl ?_
  refine r_bipush (pc := 14) C (v := 8) d_Waters_loadFrom_14 (by decide) ?_
  refine r_iadd (pc := 16) C d_Waters_loadFrom_16 ?_
  refine r_aload_n (pc := 17) C 0 d_Waters_loadFrom_17 rfl rfl ?_
  refine g_Waters_below (pc := 18) C h0 Lf_Waters_15 d_Waters_loadFrom_18 ?_
  refine r_iconst (pc := 21) C (v := 0) d_Waters_loadFrom_21 (by decide) ?_
  refine r_bipush (pc := 22) C (v := 8) d_Waters_loadFrom_22 (by decide) ?_
  refine r_acopy (pc := 24) C ⟨h1, rfl⟩ (kq_Waters_below h0) Lm_Waters_40 acw1 acw2 acw3 (by decide) (Nat.le_of_ble_eq_true rfl) d_Waters_loadFrom_24 hf (fun hf => ?_)
  refine r_nmD hf (fun D2 hf => ?_)
  refine r_aload_n (pc := 27) C 1 d_Waters_loadFrom_27 rfl rfl ?_
  refine r_iload_n (pc := 28) C 2 d_Waters_loadFrom_28 rfl rfl ?_
  refine r_bipush (pc := 29) C (v := 16) d_Waters_loadFrom_29 (by decide) ?_
  refine r_iadd (pc := 31) C d_Waters_loadFrom_31 ?_
  refine r_aload_n (pc := 32) C 0 d_Waters_loadFrom_32 rfl rfl ?_
  refine g_Waters_flour (pc := 33) C h0 Lf_Waters_18 d_Waters_loadFrom_33 ?_
  refine r_iconst (pc := 36) C (v := 0) d_Waters_loadFrom_36 (by decide) ?_
  refine r_bipush (pc := 37) C (v := 8) d_Waters_loadFrom_37 (by decide) ?_
  refine r_acopy (pc := 39) C ⟨h1, rfl⟩ (kq_Waters_flour h0) Lm_Waters_40 acw1 acw2 acw3 (by decide) (Nat.le_of_ble_eq_true rfl) d_Waters_loadFrom_39 hf (fun hf => ?_)
  refine r_nmD hf (fun D3 hf => ?_)
  refine r_aload_n (pc := 42) C 0 d_Waters_loadFrom_42 rfl rfl ?_
  refine r_aload_n (pc := 43) C 1 d_Waters_loadFrom_43 rfl rfl ?_
  refine r_iload_n (pc := 44) C 2 d_Waters_loadFrom_44 rfl rfl ?_
  refine r_bipush (pc := 45) C (v := 24) d_Waters_loadFrom_45 (by decide) ?_
  refine r_iadd (pc := 47) C d_Waters_loadFrom_47 ?_
  refine r_iald (pc := 48) C ⟨h1, rfl⟩ d_Waters_loadFrom_48 hf (fun hf => ?_)
  refine p_Waters_in (pc := 49) C h0 Lf_Waters_33 d_Waters_loadFrom_49 ?_
  refine r_nmD hf (fun D4 hf => ?_)
  refine r_aload_n (pc := 52) C 0 d_Waters_loadFrom_52 rfl rfl ?_
  refine r_aload_n (pc := 53) C 1 d_Waters_loadFrom_53 rfl rfl ?_
  refine r_iload_n (pc := 54) C 2 d_Waters_loadFrom_54 rfl rfl ?_
  refine r_bipush (pc := 55) C (v := 24) d_Waters_loadFrom_55 (by decide) ?_
  refine r_iadd (pc := 57) C d_Waters_loadFrom_57 ?_
  refine r_iconst (pc := 58) C (v := 1) d_Waters_loadFrom_58 (by decide) ?_
  refine r_iadd (pc := 59) C d_Waters_loadFrom_59 ?_
  refine r_iald (pc := 60) C ⟨h1, rfl⟩ d_Waters_loadFrom_60 hf (fun hf => ?_)
  refine p_Waters_out (pc := 61) C h0 Lf_Waters_37 d_Waters_loadFrom_61 ?_
  refine r_nmD hf (fun D5 hf => ?_)
  exact r_vret (pc := 64) C d_Waters_loadFrom_64 hf
theorem c_Waters_loadFrom (Γ : GmT) {a0 : Nat} {a1 : Nat} {v2 : Int32} (h0 : kd a0 = 7) (h1 : kd a1 = 11) {D : Dt} {rr : Unit} {DD : Dt} (hf : f_Waters_loadFrom a0 a1 v2 D = some (rr, DD)) : Mt Γ y_Waters_loadFrom b_Waters_loadFrom 3 none 2 [.ref (Γ.2.1 a0), .ref (Γ.2.1 a1), .int v2] D none DD := Mt_of (by decide) (Nat.le_of_ble_eq_true rfl) (fun G C => te_Waters_loadFrom C h0 h1 hf)
def b_Waters_drop_34 (a0 : Nat) (a1 : Nat) (v2 : Int32) (s0 : Int32) (D : Dt) : Option (Int32 × Dt) :=
  (if inb v2 8 = true then (if inb v2 8 = true then some (((D (a1 + 2) v2.toNatClampNeg) + (D (a0 + 1) v2.toNatClampNeg)) - s0, D) else none) else none)
set_option maxHeartbeats 4000000 in
theorem tb_Waters_drop_34 {Γ : GmT} {G : Dt → Nat → List (Nat × Value) → List Value → Prop} {rr : Int32} {DD : Dt} {a0 : Nat} {a1 : Nat} (C : Cx Γ "RiverTuesdays$Waters" b_Waters_drop 4 1 (some .int) (some (.int rr)) DD G) (h0 : kd a0 = 7) (h1 : kd a1 = 0) {v2 : Int32} {s0 : Int32} {D : Dt} (hf : b_Waters_drop_34 a0 a1 v2 s0 D = some (rr, DD)) : G D 34 [(0, .ref (Γ.2.1 a0)), (1, .ref (Γ.2.1 a1)), (2, .int v2)] [.int s0] := by
  unfold b_Waters_drop_34 at hf
  refine r_istore_n (pc := 34) (lv' := [(3, .int s0), (0, .ref (Γ.2.1 a0)), (1, .ref (Γ.2.1 a1)), (2, .int v2)]) C d_Waters_drop_34 rfl (Nat.le_of_ble_eq_true rfl) rfl ?_
  refine r_aload_n (pc := 35) C 2 d_Waters_drop_35 rfl rfl ?_
  refine g_Bed_ground (pc := 36) C h1 Lf_Waters_81 d_Waters_drop_36 ?_
  refine r_iload_n (pc := 39) C 3 d_Waters_drop_39 rfl rfl ?_
  refine r_iald (pc := 40) C (kq_Bed_ground h1) d_Waters_drop_40 hf (fun hf => ?_)
  refine r_aload_n (pc := 41) C 1 d_Waters_drop_41 rfl rfl ?_
  refine g_Waters_ahead (pc := 42) C h0 Lf_Waters_9 d_Waters_drop_42 ?_
  refine r_iload_n (pc := 45) C 3 d_Waters_drop_45 rfl rfl ?_
  refine r_iald (pc := 46) C (kq_Waters_ahead h0) d_Waters_drop_46 hf (fun hf => ?_)
  refine r_iadd (pc := 47) C d_Waters_drop_47 ?_
  refine r_iload_n (pc := 48) C 0 d_Waters_drop_48 rfl rfl ?_
  refine r_isub (pc := 49) C d_Waters_drop_49 ?_
  exact r_iret (pc := 50) C d_Waters_drop_50 hf
def f_Waters_drop (a0 : Nat) (a1 : Nat) (v2 : Int32) (D : Dt) : Option (Int32 × Dt) :=
  (if (D a1 5) ≤ (v2 + 1) then b_Waters_drop_34 a0 a1 v2 (D a1 7) D else (if inb (v2 + 1) 8 = true then (if inb (v2 + 1) 8 = true then b_Waters_drop_34 a0 a1 v2 ((D (a1 + 2) (v2 + 1).toNatClampNeg) + (D (a0 + 1) (v2 + 1).toNatClampNeg)) D else none) else none))
set_option maxHeartbeats 4000000 in
theorem te_Waters_drop {Γ : GmT} {G : Dt → Nat → List (Nat × Value) → List Value → Prop} {rr : Int32} {DD : Dt} {a0 : Nat} {a1 : Nat} (C : Cx Γ "RiverTuesdays$Waters" b_Waters_drop 4 1 (some .int) (some (.int rr)) DD G) (h0 : kd a0 = 7) (h1 : kd a1 = 0) {v2 : Int32} {D : Dt} (hf : f_Waters_drop a0 a1 v2 D = some (rr, DD)) : G D 0 [(0, .ref (Γ.2.1 a0)), (1, .ref (Γ.2.1 a1)), (2, .int v2)] [] := by
  unfold f_Waters_drop at hf
  refine r_iload_n (pc := 0) C 2 d_Waters_drop_0 rfl rfl ?_
  refine r_iconst (pc := 1) C (v := 1) d_Waters_drop_1 (by decide) ?_
  refine r_iadd (pc := 2) C d_Waters_drop_2 ?_
  refine r_aload_n (pc := 3) C 1 d_Waters_drop_3 rfl rfl ?_
  refine g_Bed_houses (pc := 4) C h1 Lf_Waters_51 d_Waters_drop_4 ?_
  refine r_icmp_ge (pc := 7) C (tgt := 30) d_Waters_drop_7 (by decide) hf (fun c7 hf => ?_) (fun c7 hf => ?_)
  · refine r_aload_n (pc := 30) C 1 d_Waters_drop_30 rfl rfl ?_
    refine g_Bed_sea (pc := 31) C h1 Lf_Waters_84 d_Waters_drop_31 ?_
    exact r_lv (pc := 34) C [0, 1, 2] rfl (tb_Waters_drop_34 C h0 h1 hf)
  · refine r_aload_n (pc := 10) C 1 d_Waters_drop_10 rfl rfl ?_
    refine g_Bed_ground (pc := 11) C h1 Lf_Waters_81 d_Waters_drop_11 ?_
    refine r_iload_n (pc := 14) C 2 d_Waters_drop_14 rfl rfl ?_
    refine r_iconst (pc := 15) C (v := 1) d_Waters_drop_15 (by decide) ?_
    refine r_iadd (pc := 16) C d_Waters_drop_16 ?_
    refine r_iald (pc := 17) C (kq_Bed_ground h1) d_Waters_drop_17 hf (fun hf => ?_)
    refine r_aload_n (pc := 18) C 0 d_Waters_drop_18 rfl rfl ?_
    refine g_Waters_ahead (pc := 19) C h0 Lf_Waters_9 d_Waters_drop_19 ?_
    refine r_iload_n (pc := 22) C 2 d_Waters_drop_22 rfl rfl ?_
    refine r_iconst (pc := 23) C (v := 1) d_Waters_drop_23 (by decide) ?_
    refine r_iadd (pc := 24) C d_Waters_drop_24 ?_
    refine r_iald (pc := 25) C (kq_Waters_ahead h0) d_Waters_drop_25 hf (fun hf => ?_)
    refine r_iadd (pc := 26) C d_Waters_drop_26 ?_
    refine r_goto (pc := 27) C (tgt := 34) d_Waters_drop_27 (by decide) ?_
    exact r_lv (pc := 34) C [0, 1, 2] rfl (tb_Waters_drop_34 C h0 h1 hf)
theorem c_Waters_drop (Γ : GmT) {a0 : Nat} {a1 : Nat} {v2 : Int32} (h0 : kd a0 = 7) (h1 : kd a1 = 0) {D : Dt} {rr : Int32} {DD : Dt} (hf : f_Waters_drop a0 a1 v2 D = some (rr, DD)) : Mt Γ y_Waters_drop b_Waters_drop 4 (some .int) 1 [.ref (Γ.2.1 a0), .ref (Γ.2.1 a1), .int v2] D (some (.int rr)) DD := Mt_of (by decide) (Nat.le_of_ble_eq_true rfl) (fun G C => te_Waters_drop C h0 h1 hf)
def f_Waters_runDown (a0 : Nat) (a1 : Nat) (v2 : Int32) (D : Dt) : Option (Unit × Dt) :=
  bnd (f_Waters_drop a0 a1 v2 D) (fun x1 D2 => (if (2 : Int32) = 0 then none else (if inb v2 8 = true then bnd (f_Bed_letsOn a1 v2 D2) (fun x3 D4 => nm (imin (imin ((imax (x1 + 1) 0) / 2) (D2 (a0 + 1) v2.toNatClampNeg)) x3) (fun x5 => (if inb v2 8 = true then nm (wr D4 (a0 + 4) v2.toNatClampNeg x5) (fun D6 => (if inb v2 8 = true then bnd (f_Bed_grinds a1 v2 x5 D6) (fun x7 D8 => (if inb v2 8 = true then nm (wr D8 (a0 + 3) v2.toNatClampNeg ((D6 (a0 + 3) v2.toNatClampNeg) + x7)) (fun D9 => (if inb v2 8 = true then (if inb v2 8 = true then nm (wr D9 (a0 + 1) v2.toNatClampNeg ((D9 (a0 + 1) v2.toNatClampNeg) - x5)) (fun D10 => (if (D10 a1 5) ≤ (v2 + 1) then nm (wr D10 a0 6 ((D10 a0 6) + x5)) (fun D11 => some ((), D11)) else (if inb (v2 + 1) 8 = true then (if inb (v2 + 1) 8 = true then nm (wr D10 (a0 + 1) (v2 + 1).toNatClampNeg ((D10 (a0 + 1) (v2 + 1).toNatClampNeg) + x5)) (fun D12 => some ((), D12)) else none) else none))) else none) else none)) else none)) else none)) else none))) else none)))
set_option maxHeartbeats 4000000 in
theorem te_Waters_runDown {Γ : GmT} {G : Dt → Nat → List (Nat × Value) → List Value → Prop} {rr : Unit} {DD : Dt} {a0 : Nat} {a1 : Nat} (C : Cx Γ "RiverTuesdays$Waters" b_Waters_runDown 5 2 none none DD G) (h0 : kd a0 = 7) (h1 : kd a1 = 0) {v2 : Int32} {D : Dt} (hf : f_Waters_runDown a0 a1 v2 D = some (rr, DD)) : G D 0 [(0, .ref (Γ.2.1 a0)), (1, .ref (Γ.2.1 a1)), (2, .int v2)] [] := by
  unfold f_Waters_runDown at hf
  refine r_aload_n (pc := 0) C 0 d_Waters_runDown_0 rfl rfl ?_
  refine r_aload_n (pc := 1) C 1 d_Waters_runDown_1 rfl rfl ?_
  refine r_iload_n (pc := 2) C 2 d_Waters_runDown_2 rfl rfl ?_
  refine r_callVi (pc := 3) (As := [.ref (Γ.2.1 a1), .int v2]) (rest := []) C ok_Waters_drop Lm_Waters_61 h0 (by decide) ⟨by decide, by decide⟩ rfl rfl (Nat.le_of_ble_eq_true rfl) d_Waters_runDown_3 hf (fun x D1 hc => c_Waters_drop Γ h0 h1 hc) (fun x1 D2 hf => ?_)
  refine r_iconst (pc := 6) C (v := 1) d_Waters_runDown_6 (by decide) ?_
  refine r_iadd (pc := 7) C d_Waters_runDown_7 ?_
  refine r_iconst (pc := 8) C (v := 0) d_Waters_runDown_8 (by decide) ?_
  refine r_mmax (pc := 9) C Lm_Waters_65 (by decide) (Nat.le_of_ble_eq_true rfl) d_Waters_runDown_9 ?_
  refine r_iconst (pc := 12) C (v := 2) d_Waters_runDown_12 (by decide) ?_
  refine r_idiv (pc := 13) C d_Waters_runDown_13 hf (fun hf => ?_)
  refine r_istore_n (pc := 14) (lv' := [(3, .int ((imax (x1 + 1) 0) / 2)), (0, .ref (Γ.2.1 a0)), (1, .ref (Γ.2.1 a1)), (2, .int v2)]) C d_Waters_runDown_14 rfl (Nat.le_of_ble_eq_true rfl) rfl ?_
  refine r_iload_n (pc := 15) C 0 d_Waters_runDown_15 rfl rfl ?_
  refine r_aload_n (pc := 16) C 1 d_Waters_runDown_16 rfl rfl ?_
  refine g_Waters_ahead (pc := 17) C h0 Lf_Waters_9 d_Waters_runDown_17 ?_
  refine r_iload_n (pc := 20) C 3 d_Waters_runDown_20 rfl rfl ?_
  refine r_iald (pc := 21) C (kq_Waters_ahead h0) d_Waters_runDown_21 hf (fun hf => ?_)
  refine r_mmin (pc := 22) C Lm_Waters_71 (by decide) (Nat.le_of_ble_eq_true rfl) d_Waters_runDown_22 ?_
  refine r_aload_n (pc := 25) C 2 d_Waters_runDown_25 rfl rfl ?_
  refine r_iload_n (pc := 26) C 3 d_Waters_runDown_26 rfl rfl ?_
  refine r_callVi (pc := 27) (As := [.int v2]) (rest := [.int (imin ((imax (x1 + 1) 0) / 2) (D2 (a0 + 1) v2.toNatClampNeg))]) C ok_Bed_letsOn Lm_Waters_74 h1 (by decide) ⟨by decide, by decide⟩ rfl rfl (Nat.le_of_ble_eq_true rfl) d_Waters_runDown_27 hf (fun x D1 hc => c_Bed_letsOn Γ h1 hc) (fun x3 D4 hf => ?_)
  refine r_mmin (pc := 30) C Lm_Waters_71 (by decide) (Nat.le_of_ble_eq_true rfl) d_Waters_runDown_30 ?_
  refine r_nmi (pc := 33) hf (fun x5 hf => ?_)
  refine r_istore (pc := 33) (lv' := [(4, .int x5), (3, .int ((imax (x1 + 1) 0) / 2)), (0, .ref (Γ.2.1 a0)), (1, .ref (Γ.2.1 a1)), (2, .int v2)]) C d_Waters_runDown_33 (Nat.le_of_ble_eq_true rfl) rfl ?_
  refine r_aload_n (pc := 35) C 2 d_Waters_runDown_35 rfl rfl ?_
  refine g_Waters_ran (pc := 36) C h0 Lf_Waters_21 d_Waters_runDown_36 ?_
  refine r_iload_n (pc := 39) C 4 d_Waters_runDown_39 rfl rfl ?_
  refine r_iload (pc := 40) C 0 d_Waters_runDown_40 rfl ?_
  refine r_iast (pc := 42) C (kq_Waters_ran h0) d_Waters_runDown_42 hf (fun hf => ?_)
  refine r_nmD hf (fun D6 hf => ?_)
  refine r_aload_n (pc := 43) C 2 d_Waters_runDown_43 rfl rfl ?_
  refine g_Waters_flour (pc := 44) C h0 Lf_Waters_18 d_Waters_runDown_44 ?_
  refine r_iload_n (pc := 47) C 4 d_Waters_runDown_47 rfl rfl ?_
  refine r_dup2 (pc := 48) C d_Waters_runDown_48 rfl rfl ?_
  refine r_iald (pc := 49) C (kq_Waters_flour h0) d_Waters_runDown_49 hf (fun hf => ?_)
  refine r_aload_n (pc := 50) C 3 d_Waters_runDown_50 rfl rfl ?_
  refine r_iload_n (pc := 51) C 4 d_Waters_runDown_51 rfl rfl ?_
  refine r_iload (pc := 52) C 0 d_Waters_runDown_52 rfl ?_
  refine r_callVi (pc := 54) (As := [.int v2, .int x5]) (rest := [.int (D6 (a0 + 3) v2.toNatClampNeg), .int v2, .ref (Γ.2.1 (a0 + 3))]) C ok_Bed_grinds Lm_Waters_78 h1 (by decide) ⟨by decide, by decide⟩ rfl rfl (Nat.le_of_ble_eq_true rfl) d_Waters_runDown_54 hf (fun x D1 hc => c_Bed_grinds Γ h1 hc) (fun x7 D8 hf => ?_)
  refine r_iadd (pc := 57) C d_Waters_runDown_57 ?_
  refine r_iast (pc := 58) C (kq_Waters_flour h0) d_Waters_runDown_58 hf (fun hf => ?_)
  refine r_nmD hf (fun D9 hf => ?_)
  refine r_aload_n (pc := 59) C 2 d_Waters_runDown_59 rfl rfl ?_
  refine g_Waters_ahead (pc := 60) C h0 Lf_Waters_9 d_Waters_runDown_60 ?_
  refine r_iload_n (pc := 63) C 4 d_Waters_runDown_63 rfl rfl ?_
  refine r_dup2 (pc := 64) C d_Waters_runDown_64 rfl rfl ?_
  refine r_iald (pc := 65) C (kq_Waters_ahead h0) d_Waters_runDown_65 hf (fun hf => ?_)
  refine r_iload (pc := 66) C 0 d_Waters_runDown_66 rfl ?_
  refine r_isub (pc := 68) C d_Waters_runDown_68 ?_
  refine r_iast (pc := 69) C (kq_Waters_ahead h0) d_Waters_runDown_69 hf (fun hf => ?_)
  refine r_nmD hf (fun D10 hf => ?_)
  refine r_iload_n (pc := 70) C 4 d_Waters_runDown_70 rfl rfl ?_
  refine r_iconst (pc := 71) C (v := 1) d_Waters_runDown_71 (by decide) ?_
  refine r_iadd (pc := 72) C d_Waters_runDown_72 ?_
  refine r_aload_n (pc := 73) C 3 d_Waters_runDown_73 rfl rfl ?_
  refine g_Bed_houses (pc := 74) C h1 Lf_Waters_51 d_Waters_runDown_74 ?_
  refine r_icmp_ge (pc := 77) C (tgt := 96) d_Waters_runDown_77 (by decide) hf (fun c77 hf => ?_) (fun c77 hf => ?_)
  · refine r_aload_n (pc := 96) C 2 d_Waters_runDown_96 rfl rfl ?_
    refine r_dup (pc := 97) C d_Waters_runDown_97 rfl ?_
    refine g_Waters_out (pc := 98) C h0 Lf_Waters_37 d_Waters_runDown_98 ?_
    refine r_iload (pc := 101) C 0 d_Waters_runDown_101 rfl ?_
    refine r_iadd (pc := 103) C d_Waters_runDown_103 ?_
    refine p_Waters_out (pc := 104) C h0 Lf_Waters_37 d_Waters_runDown_104 ?_
    refine r_nmD hf (fun D11 hf => ?_)
    exact r_vret (pc := 107) C d_Waters_runDown_107 hf
  · refine r_aload_n (pc := 80) C 2 d_Waters_runDown_80 rfl rfl ?_
    refine g_Waters_ahead (pc := 81) C h0 Lf_Waters_9 d_Waters_runDown_81 ?_
    refine r_iload_n (pc := 84) C 4 d_Waters_runDown_84 rfl rfl ?_
    refine r_iconst (pc := 85) C (v := 1) d_Waters_runDown_85 (by decide) ?_
    refine r_iadd (pc := 86) C d_Waters_runDown_86 ?_
    refine r_dup2 (pc := 87) C d_Waters_runDown_87 rfl rfl ?_
    refine r_iald (pc := 88) C (kq_Waters_ahead h0) d_Waters_runDown_88 hf (fun hf => ?_)
    refine r_iload (pc := 89) C 0 d_Waters_runDown_89 rfl ?_
    refine r_iadd (pc := 91) C d_Waters_runDown_91 ?_
    refine r_iast (pc := 92) C (kq_Waters_ahead h0) d_Waters_runDown_92 hf (fun hf => ?_)
    refine r_nmD hf (fun D12 hf => ?_)
    refine r_goto (pc := 93) C (tgt := 107) d_Waters_runDown_93 (by decide) ?_
    exact r_vret (pc := 107) C d_Waters_runDown_107 hf
theorem c_Waters_runDown (Γ : GmT) {a0 : Nat} {a1 : Nat} {v2 : Int32} (h0 : kd a0 = 7) (h1 : kd a1 = 0) {D : Dt} {rr : Unit} {DD : Dt} (hf : f_Waters_runDown a0 a1 v2 D = some (rr, DD)) : Mt Γ y_Waters_runDown b_Waters_runDown 5 none 2 [.ref (Γ.2.1 a0), .ref (Γ.2.1 a1), .int v2] D none DD := Mt_of (by decide) (Nat.le_of_ble_eq_true rfl) (fun G C => te_Waters_runDown C h0 h1 hf)
def f_Waters_sinkIntoCellar (a0 : Nat) (a1 : Nat) (v2 : Int32) (D : Dt) : Option (Unit × Dt) :=
  (if inb v2 8 = true then (if inb v2 8 = true then nm (imax ((D (a0 + 1) v2.toNatClampNeg) - (D (a1 + 3) v2.toNatClampNeg)) 0) (fun x1 => (if inb v2 8 = true then (if inb v2 8 = true then nm (imin x1 ((D (a1 + 4) v2.toNatClampNeg) - (D (a0 + 2) v2.toNatClampNeg))) (fun x2 => (if inb v2 8 = true then nm (wr D (a0 + 5) v2.toNatClampNeg x2) (fun D3 => (if inb v2 8 = true then (if inb v2 8 = true then nm (wr D3 (a0 + 1) v2.toNatClampNeg ((D3 (a0 + 1) v2.toNatClampNeg) - x2)) (fun D4 => (if inb v2 8 = true then (if inb v2 8 = true then nm (wr D4 (a0 + 2) v2.toNatClampNeg ((D4 (a0 + 2) v2.toNatClampNeg) + x2)) (fun D5 => some ((), D5)) else none) else none)) else none) else none)) else none)) else none) else none)) else none) else none)
set_option maxHeartbeats 4000000 in
theorem te_Waters_sinkIntoCellar {Γ : GmT} {G : Dt → Nat → List (Nat × Value) → List Value → Prop} {rr : Unit} {DD : Dt} {a0 : Nat} {a1 : Nat} (C : Cx Γ "RiverTuesdays$Waters" b_Waters_sinkIntoCellar 5 2 none none DD G) (h0 : kd a0 = 7) (h1 : kd a1 = 0) {v2 : Int32} {D : Dt} (hf : f_Waters_sinkIntoCellar a0 a1 v2 D = some (rr, DD)) : G D 0 [(0, .ref (Γ.2.1 a0)), (1, .ref (Γ.2.1 a1)), (2, .int v2)] [] := by
  unfold f_Waters_sinkIntoCellar at hf
  refine r_aload_n (pc := 0) C 0 d_Waters_sinkIntoCellar_0 rfl rfl ?_
  refine g_Waters_ahead (pc := 1) C h0 Lf_Waters_9 d_Waters_sinkIntoCellar_1 ?_
  refine r_iload_n (pc := 4) C 2 d_Waters_sinkIntoCellar_4 rfl rfl ?_
  refine r_iald (pc := 5) C (kq_Waters_ahead h0) d_Waters_sinkIntoCellar_5 hf (fun hf => ?_)
  refine r_aload_n (pc := 6) C 1 d_Waters_sinkIntoCellar_6 rfl rfl ?_
  refine g_Bed_height (pc := 7) C h1 Lf_Waters_87 d_Waters_sinkIntoCellar_7 ?_
  refine r_iload_n (pc := 10) C 2 d_Waters_sinkIntoCellar_10 rfl rfl ?_
  refine r_iald (pc := 11) C (kq_Bed_height h1) d_Waters_sinkIntoCellar_11 hf (fun hf => ?_)
  refine r_isub (pc := 12) C d_Waters_sinkIntoCellar_12 ?_
  refine r_iconst (pc := 13) C (v := 0) d_Waters_sinkIntoCellar_13 (by decide) ?_
  refine r_mmax (pc := 14) C Lm_Waters_65 (by decide) (Nat.le_of_ble_eq_true rfl) d_Waters_sinkIntoCellar_14 ?_
  refine r_nmi (pc := 17) hf (fun x1 hf => ?_)
  refine r_istore_n (pc := 17) (lv' := [(3, .int x1), (0, .ref (Γ.2.1 a0)), (1, .ref (Γ.2.1 a1)), (2, .int v2)]) C d_Waters_sinkIntoCellar_17 rfl (Nat.le_of_ble_eq_true rfl) rfl ?_
  refine r_iload_n (pc := 18) C 0 d_Waters_sinkIntoCellar_18 rfl rfl ?_
  refine r_aload_n (pc := 19) C 2 d_Waters_sinkIntoCellar_19 rfl rfl ?_
  refine g_Bed_cellar (pc := 20) C h1 Lf_Waters_90 d_Waters_sinkIntoCellar_20 ?_
  refine r_iload_n (pc := 23) C 3 d_Waters_sinkIntoCellar_23 rfl rfl ?_
  refine r_iald (pc := 24) C (kq_Bed_cellar h1) d_Waters_sinkIntoCellar_24 hf (fun hf => ?_)
  refine r_aload_n (pc := 25) C 1 d_Waters_sinkIntoCellar_25 rfl rfl ?_
  refine g_Waters_below (pc := 26) C h0 Lf_Waters_15 d_Waters_sinkIntoCellar_26 ?_
  refine r_iload_n (pc := 29) C 3 d_Waters_sinkIntoCellar_29 rfl rfl ?_
  refine r_iald (pc := 30) C (kq_Waters_below h0) d_Waters_sinkIntoCellar_30 hf (fun hf => ?_)
  refine r_isub (pc := 31) C d_Waters_sinkIntoCellar_31 ?_
  refine r_mmin (pc := 32) C Lm_Waters_71 (by decide) (Nat.le_of_ble_eq_true rfl) d_Waters_sinkIntoCellar_32 ?_
  refine r_nmi (pc := 35) hf (fun x2 hf => ?_)
  refine r_istore (pc := 35) (lv' := [(4, .int x2), (3, .int x1), (0, .ref (Γ.2.1 a0)), (1, .ref (Γ.2.1 a1)), (2, .int v2)]) C d_Waters_sinkIntoCellar_35 (Nat.le_of_ble_eq_true rfl) rfl ?_
  refine r_aload_n (pc := 37) C 2 d_Waters_sinkIntoCellar_37 rfl rfl ?_
  refine g_Waters_sank (pc := 38) C h0 Lf_Waters_24 d_Waters_sinkIntoCellar_38 ?_
  refine r_iload_n (pc := 41) C 4 d_Waters_sinkIntoCellar_41 rfl rfl ?_
  refine r_iload (pc := 42) C 0 d_Waters_sinkIntoCellar_42 rfl ?_
  refine r_iast (pc := 44) C (kq_Waters_sank h0) d_Waters_sinkIntoCellar_44 hf (fun hf => ?_)
  refine r_nmD hf (fun D3 hf => ?_)
  refine r_aload_n (pc := 45) C 2 d_Waters_sinkIntoCellar_45 rfl rfl ?_
  refine g_Waters_ahead (pc := 46) C h0 Lf_Waters_9 d_Waters_sinkIntoCellar_46 ?_
  refine r_iload_n (pc := 49) C 4 d_Waters_sinkIntoCellar_49 rfl rfl ?_
  refine r_dup2 (pc := 50) C d_Waters_sinkIntoCellar_50 rfl rfl ?_
  refine r_iald (pc := 51) C (kq_Waters_ahead h0) d_Waters_sinkIntoCellar_51 hf (fun hf => ?_)
  refine r_iload (pc := 52) C 0 d_Waters_sinkIntoCellar_52 rfl ?_
  refine r_isub (pc := 54) C d_Waters_sinkIntoCellar_54 ?_
  refine r_iast (pc := 55) C (kq_Waters_ahead h0) d_Waters_sinkIntoCellar_55 hf (fun hf => ?_)
  refine r_nmD hf (fun D4 hf => ?_)
  refine r_aload_n (pc := 56) C 2 d_Waters_sinkIntoCellar_56 rfl rfl ?_
  refine g_Waters_below (pc := 57) C h0 Lf_Waters_15 d_Waters_sinkIntoCellar_57 ?_
  refine r_iload_n (pc := 60) C 4 d_Waters_sinkIntoCellar_60 rfl rfl ?_
  refine r_dup2 (pc := 61) C d_Waters_sinkIntoCellar_61 rfl rfl ?_
  refine r_iald (pc := 62) C (kq_Waters_below h0) d_Waters_sinkIntoCellar_62 hf (fun hf => ?_)
  refine r_iload (pc := 63) C 0 d_Waters_sinkIntoCellar_63 rfl ?_
  refine r_iadd (pc := 65) C d_Waters_sinkIntoCellar_65 ?_
  refine r_iast (pc := 66) C (kq_Waters_below h0) d_Waters_sinkIntoCellar_66 hf (fun hf => ?_)
  refine r_nmD hf (fun D5 hf => ?_)
  exact r_vret (pc := 67) C d_Waters_sinkIntoCellar_67 hf
theorem c_Waters_sinkIntoCellar (Γ : GmT) {a0 : Nat} {a1 : Nat} {v2 : Int32} (h0 : kd a0 = 7) (h1 : kd a1 = 0) {D : Dt} {rr : Unit} {DD : Dt} (hf : f_Waters_sinkIntoCellar a0 a1 v2 D = some (rr, DD)) : Mt Γ y_Waters_sinkIntoCellar b_Waters_sinkIntoCellar 5 none 2 [.ref (Γ.2.1 a0), .ref (Γ.2.1 a1), .int v2] D none DD := Mt_of (by decide) (Nat.le_of_ble_eq_true rfl) (fun G C => te_Waters_sinkIntoCellar C h0 h1 hf)
def s_Waters_pass_55 (a0 : Nat) (a1 : Nat) (k55 : Int32 → Dt → Option (Unit × Dt)) (v3 : Int32) (D : Dt) : Option (Unit × Dt) :=
  (if (D a1 5) ≤ v3 then some ((), D) else bnd (f_Waters_sinkIntoCellar a0 a1 v3 D) (fun x1 D2 => k55 (v3 + 1) D2))
def lp_Waters_pass_55 (a0 : Nat) (a1 : Nat) (n : Nat) : Int32 → Dt → Option (Unit × Dt) := itr (fun _ _ => none) (s_Waters_pass_55 a0 a1) n
set_option maxHeartbeats 4000000 in
theorem ts_Waters_pass_55 {Γ : GmT} {G : Dt → Nat → List (Nat × Value) → List Value → Prop} {rr : Unit} {DD : Dt} {a0 : Nat} {a1 : Nat} (C : Cx Γ "RiverTuesdays$Waters" b_Waters_pass 4 3 none none DD G) (h0 : kd a0 = 7) (h1 : kd a1 = 0) {k55 : Int32 → Dt → Option (Unit × Dt)} (hk55 : ∀ (v3 : Int32) (D : Dt), k55 v3 D = some (rr, DD) → G D 55 [(0, .ref (Γ.2.1 a0)), (1, .ref (Γ.2.1 a1)), (3, .int v3)] []) {v3 : Int32} {D : Dt} (hf : s_Waters_pass_55 a0 a1 k55 v3 D = some (rr, DD)) : G D 55 [(0, .ref (Γ.2.1 a0)), (1, .ref (Γ.2.1 a1)), (3, .int v3)] [] := by
  unfold s_Waters_pass_55 at hf
  refine r_iload_n (pc := 55) C 2 d_Waters_pass_55 rfl rfl ?_
  refine r_aload_n (pc := 56) C 1 d_Waters_pass_56 rfl rfl ?_
  refine g_Bed_houses (pc := 57) C h1 Lf_Waters_51 d_Waters_pass_57 ?_
  refine r_icmp_ge (pc := 60) C (tgt := 75) d_Waters_pass_60 (by decide) hf (fun c60 hf => ?_) (fun c60 hf => ?_)
  · exact r_vret (pc := 75) C d_Waters_pass_75 hf
  · refine r_aload_n (pc := 63) C 0 d_Waters_pass_63 rfl rfl ?_
    refine r_aload_n (pc := 64) C 1 d_Waters_pass_64 rfl rfl ?_
    refine r_iload_n (pc := 65) C 2 d_Waters_pass_65 rfl rfl ?_
    refine r_callVv (pc := 66) (As := [.ref (Γ.2.1 a1), .int v3]) (rest := []) C ok_Waters_sinkIntoCellar Lm_Waters_58 h0 (by decide) ⟨by decide, by decide⟩ rfl rfl (Nat.le_of_ble_eq_true rfl) d_Waters_pass_66 hf (fun x D1 hc => c_Waters_sinkIntoCellar Γ h0 h1 hc) (fun x1 D2 hf => ?_)
    refine r_iinc (pc := 69) C (v := v3 + 1) (lv' := [(3, .int (v3 + 1)), (0, .ref (Γ.2.1 a0)), (1, .ref (Γ.2.1 a1))]) 2 d_Waters_pass_69 rfl rfl (Nat.le_of_ble_eq_true rfl) rfl ?_
    refine r_goto (pc := 72) C (tgt := 55) d_Waters_pass_72 (by decide) ?_
    exact r_lv (pc := 55) C [1, 2, 0] rfl (hk55 (v3 + 1) D2 hf)
theorem tl_Waters_pass_55 {Γ : GmT} {G : Dt → Nat → List (Nat × Value) → List Value → Prop} {rr : Unit} {DD : Dt} {a0 : Nat} {a1 : Nat} (C : Cx Γ "RiverTuesdays$Waters" b_Waters_pass 4 3 none none DD G) (h0 : kd a0 = 7) (h1 : kd a1 = 0) : ∀ (n : Nat) (v3 : Int32) (D : Dt), lp_Waters_pass_55 a0 a1 n v3 D = some (rr, DD) → G D 55 [(0, .ref (Γ.2.1 a0)), (1, .ref (Γ.2.1 a1)), (3, .int v3)] [] := by
  intro n
  induction n with
  | zero =>
    intro v3 D hf
    exact absurd (show (none : Option (Unit × Dt)) = some (rr, DD) from hf) (by simp)
  | succ n ih =>
    intro v3 D hf
    exact ts_Waters_pass_55 C h0 h1 (k55 := lp_Waters_pass_55 a0 a1 n) ih hf
def s_Waters_pass_33 (a0 : Nat) (a1 : Nat) (k33 : Int32 → Dt → Option (Unit × Dt)) (v3 : Int32) (D : Dt) : Option (Unit × Dt) :=
  (if (D a1 5) ≤ v3 then lp_Waters_pass_55 a0 a1 FU 0 D else bnd (f_Waters_runDown a0 a1 v3 D) (fun x3 D4 => k33 (v3 + 1) D4))
def lp_Waters_pass_33 (a0 : Nat) (a1 : Nat) (n : Nat) : Int32 → Dt → Option (Unit × Dt) := itr (fun _ _ => none) (s_Waters_pass_33 a0 a1) n
set_option maxHeartbeats 4000000 in
theorem ts_Waters_pass_33 {Γ : GmT} {G : Dt → Nat → List (Nat × Value) → List Value → Prop} {rr : Unit} {DD : Dt} {a0 : Nat} {a1 : Nat} (C : Cx Γ "RiverTuesdays$Waters" b_Waters_pass 4 3 none none DD G) (h0 : kd a0 = 7) (h1 : kd a1 = 0) {k33 : Int32 → Dt → Option (Unit × Dt)} (hk33 : ∀ (v3 : Int32) (D : Dt), k33 v3 D = some (rr, DD) → G D 33 [(0, .ref (Γ.2.1 a0)), (1, .ref (Γ.2.1 a1)), (3, .int v3)] []) {v3 : Int32} {D : Dt} (hf : s_Waters_pass_33 a0 a1 k33 v3 D = some (rr, DD)) : G D 33 [(0, .ref (Γ.2.1 a0)), (1, .ref (Γ.2.1 a1)), (3, .int v3)] [] := by
  unfold s_Waters_pass_33 at hf
  refine r_iload_n (pc := 33) C 2 d_Waters_pass_33 rfl rfl ?_
  refine r_aload_n (pc := 34) C 1 d_Waters_pass_34 rfl rfl ?_
  refine g_Bed_houses (pc := 35) C h1 Lf_Waters_51 d_Waters_pass_35 ?_
  refine r_icmp_ge (pc := 38) C (tgt := 53) d_Waters_pass_38 (by decide) hf (fun c38 hf => ?_) (fun c38 hf => ?_)
  · refine r_iconst (pc := 53) C (v := 0) d_Waters_pass_53 (by decide) ?_
    refine r_istore_n (pc := 54) (lv' := [(3, .int 0), (0, .ref (Γ.2.1 a0)), (1, .ref (Γ.2.1 a1))]) C d_Waters_pass_54 rfl (Nat.le_of_ble_eq_true rfl) rfl ?_
    exact r_lv (pc := 55) C [1, 2, 0] rfl (tl_Waters_pass_55 C h0 h1 FU 0 D hf)
  · refine r_aload_n (pc := 41) C 0 d_Waters_pass_41 rfl rfl ?_
    refine r_aload_n (pc := 42) C 1 d_Waters_pass_42 rfl rfl ?_
    refine r_iload_n (pc := 43) C 2 d_Waters_pass_43 rfl rfl ?_
    refine r_callVv (pc := 44) (As := [.ref (Γ.2.1 a1), .int v3]) (rest := []) C ok_Waters_runDown Lm_Waters_54 h0 (by decide) ⟨by decide, by decide⟩ rfl rfl (Nat.le_of_ble_eq_true rfl) d_Waters_pass_44 hf (fun x D1 hc => c_Waters_runDown Γ h0 h1 hc) (fun x3 D4 hf => ?_)
    refine r_iinc (pc := 47) C (v := v3 + 1) (lv' := [(3, .int (v3 + 1)), (0, .ref (Γ.2.1 a0)), (1, .ref (Γ.2.1 a1))]) 2 d_Waters_pass_47 rfl rfl (Nat.le_of_ble_eq_true rfl) rfl ?_
    refine r_goto (pc := 50) C (tgt := 33) d_Waters_pass_50 (by decide) ?_
    exact r_lv (pc := 33) C [1, 2, 0] rfl (hk33 (v3 + 1) D4 hf)
theorem tl_Waters_pass_33 {Γ : GmT} {G : Dt → Nat → List (Nat × Value) → List Value → Prop} {rr : Unit} {DD : Dt} {a0 : Nat} {a1 : Nat} (C : Cx Γ "RiverTuesdays$Waters" b_Waters_pass 4 3 none none DD G) (h0 : kd a0 = 7) (h1 : kd a1 = 0) : ∀ (n : Nat) (v3 : Int32) (D : Dt), lp_Waters_pass_33 a0 a1 n v3 D = some (rr, DD) → G D 33 [(0, .ref (Γ.2.1 a0)), (1, .ref (Γ.2.1 a1)), (3, .int v3)] [] := by
  intro n
  induction n with
  | zero =>
    intro v3 D hf
    exact absurd (show (none : Option (Unit × Dt)) = some (rr, DD) from hf) (by simp)
  | succ n ih =>
    intro v3 D hf
    exact ts_Waters_pass_33 C h0 h1 (k33 := lp_Waters_pass_33 a0 a1 n) ih hf
def b_Waters_pass_31 (a0 : Nat) (a1 : Nat) (D : Dt) : Option (Unit × Dt) :=
  lp_Waters_pass_33 a0 a1 FU 0 D
set_option maxHeartbeats 4000000 in
theorem tb_Waters_pass_31 {Γ : GmT} {G : Dt → Nat → List (Nat × Value) → List Value → Prop} {rr : Unit} {DD : Dt} {a0 : Nat} {a1 : Nat} (C : Cx Γ "RiverTuesdays$Waters" b_Waters_pass 4 3 none none DD G) (h0 : kd a0 = 7) (h1 : kd a1 = 0) {D : Dt} (hf : b_Waters_pass_31 a0 a1 D = some (rr, DD)) : G D 31 [(0, .ref (Γ.2.1 a0)), (1, .ref (Γ.2.1 a1))] [] := by
  unfold b_Waters_pass_31 at hf
  refine r_iconst (pc := 31) C (v := 0) d_Waters_pass_31 (by decide) ?_
  refine r_istore_n (pc := 32) (lv' := [(3, .int 0), (0, .ref (Γ.2.1 a0)), (1, .ref (Γ.2.1 a1))]) C d_Waters_pass_32 rfl (Nat.le_of_ble_eq_true rfl) rfl ?_
  exact r_lv (pc := 33) C [1, 2, 0] rfl (tl_Waters_pass_33 C h0 h1 FU 0 D hf)
def f_Waters_pass (a0 : Nat) (a1 : Nat) (v2 : Int32) (D : Dt) : Option (Unit × Dt) :=
  (if v2 = 1 then (if inb 0 8 = true then (if inb 0 8 = true then nm (wr D (a0 + 1) (0 : Int32).toNatClampNeg ((D (a0 + 1) (0 : Int32).toNatClampNeg) + (D a1 6))) (fun D5 => nm (wr D5 a0 5 ((D5 a0 5) + (D5 a1 6))) (fun D6 => b_Waters_pass_31 a0 a1 D6)) else none) else none) else b_Waters_pass_31 a0 a1 D)
set_option maxHeartbeats 4000000 in
theorem te_Waters_pass {Γ : GmT} {G : Dt → Nat → List (Nat × Value) → List Value → Prop} {rr : Unit} {DD : Dt} {a0 : Nat} {a1 : Nat} (C : Cx Γ "RiverTuesdays$Waters" b_Waters_pass 4 3 none none DD G) (h0 : kd a0 = 7) (h1 : kd a1 = 0) {v2 : Int32} {D : Dt} (hf : f_Waters_pass a0 a1 v2 D = some (rr, DD)) : G D 0 [(0, .ref (Γ.2.1 a0)), (1, .ref (Γ.2.1 a1)), (2, .int v2)] [] := by
  unfold f_Waters_pass at hf
  refine r_iload_n (pc := 0) C 2 d_Waters_pass_0 rfl rfl ?_
  refine r_iconst (pc := 1) C (v := 1) d_Waters_pass_1 (by decide) ?_
  refine r_icmp_ne (pc := 2) C (tgt := 31) d_Waters_pass_2 (by decide) hf (fun c2 hf => ?_) (fun c2 hf => ?_)
  · exact r_lv (pc := 31) C [0, 1] rfl (tb_Waters_pass_31 C h0 h1 hf)
  · refine r_aload_n (pc := 5) C 0 d_Waters_pass_5 rfl rfl ?_
    refine g_Waters_ahead (pc := 6) C h0 Lf_Waters_9 d_Waters_pass_6 ?_
    refine r_iconst (pc := 9) C (v := 0) d_Waters_pass_9 (by decide) ?_
    refine r_dup2 (pc := 10) C d_Waters_pass_10 rfl rfl ?_
    refine r_iald (pc := 11) C (kq_Waters_ahead h0) d_Waters_pass_11 hf (fun hf => ?_)
    refine r_aload_n (pc := 12) C 1 d_Waters_pass_12 rfl rfl ?_
    refine g_Bed_inflow (pc := 13) C h1 Lf_Waters_46 d_Waters_pass_13 ?_
    refine r_iadd (pc := 16) C d_Waters_pass_16 ?_
    refine r_iast (pc := 17) C (kq_Waters_ahead h0) d_Waters_pass_17 hf (fun hf => ?_)
    refine r_nmD hf (fun D5 hf => ?_)
    refine r_aload_n (pc := 18) C 0 d_Waters_pass_18 rfl rfl ?_
    refine r_dup (pc := 19) C d_Waters_pass_19 rfl ?_
    refine g_Waters_in (pc := 20) C h0 Lf_Waters_33 d_Waters_pass_20 ?_
    refine r_aload_n (pc := 23) C 1 d_Waters_pass_23 rfl rfl ?_
    refine g_Bed_inflow (pc := 24) C h1 Lf_Waters_46 d_Waters_pass_24 ?_
    refine r_iadd (pc := 27) C d_Waters_pass_27 ?_
    refine p_Waters_in (pc := 28) C h0 Lf_Waters_33 d_Waters_pass_28 ?_
    refine r_nmD hf (fun D6 hf => ?_)
    exact r_lv (pc := 31) C [0, 1] rfl (tb_Waters_pass_31 C h0 h1 hf)
theorem c_Waters_pass (Γ : GmT) {a0 : Nat} {a1 : Nat} {v2 : Int32} (h0 : kd a0 = 7) (h1 : kd a1 = 0) {D : Dt} {rr : Unit} {DD : Dt} (hf : f_Waters_pass a0 a1 v2 D = some (rr, DD)) : Mt Γ y_Waters_pass b_Waters_pass 4 none 3 [.ref (Γ.2.1 a0), .ref (Γ.2.1 a1), .int v2] D none DD := Mt_of (by decide) (Nat.le_of_ble_eq_true rfl) (fun G C => te_Waters_pass C h0 h1 hf)
def f_Waters_pumpOut (a0 : Nat) (v1 : Int32) (D : Dt) : Option (Int32 × Dt) :=
  (if inb v1 8 = true then (if inb v1 8 = true then nm (wr D (a0 + 2) v1.toNatClampNeg 0) (fun D1 => nm (wr D1 a0 6 ((D1 a0 6) + (D (a0 + 2) v1.toNatClampNeg))) (fun D2 => some (D (a0 + 2) v1.toNatClampNeg, D2))) else none) else none)
set_option maxHeartbeats 4000000 in
theorem te_Waters_pumpOut {Γ : GmT} {G : Dt → Nat → List (Nat × Value) → List Value → Prop} {rr : Int32} {DD : Dt} {a0 : Nat} (C : Cx Γ "RiverTuesdays$Waters" b_Waters_pumpOut 3 1 (some .int) (some (.int rr)) DD G) (h0 : kd a0 = 7) {v1 : Int32} {D : Dt} (hf : f_Waters_pumpOut a0 v1 D = some (rr, DD)) : G D 0 [(0, .ref (Γ.2.1 a0)), (1, .int v1)] [] := by
  unfold f_Waters_pumpOut at hf
  refine r_aload_n (pc := 0) C 0 d_Waters_pumpOut_0 rfl rfl ?_
  refine g_Waters_below (pc := 1) C h0 Lf_Waters_15 d_Waters_pumpOut_1 ?_
  refine r_iload_n (pc := 4) C 1 d_Waters_pumpOut_4 rfl rfl ?_
  refine r_iald (pc := 5) C (kq_Waters_below h0) d_Waters_pumpOut_5 hf (fun hf => ?_)
  refine r_istore_n (pc := 6) (lv' := [(2, .int (D (a0 + 2) v1.toNatClampNeg)), (0, .ref (Γ.2.1 a0)), (1, .int v1)]) C d_Waters_pumpOut_6 rfl (Nat.le_of_ble_eq_true rfl) rfl ?_
  refine r_aload_n (pc := 7) C 1 d_Waters_pumpOut_7 rfl rfl ?_
  refine g_Waters_below (pc := 8) C h0 Lf_Waters_15 d_Waters_pumpOut_8 ?_
  refine r_iload_n (pc := 11) C 2 d_Waters_pumpOut_11 rfl rfl ?_
  refine r_iconst (pc := 12) C (v := 0) d_Waters_pumpOut_12 (by decide) ?_
  refine r_iast (pc := 13) C (kq_Waters_below h0) d_Waters_pumpOut_13 hf (fun hf => ?_)
  refine r_nmD hf (fun D1 hf => ?_)
  refine r_aload_n (pc := 14) C 1 d_Waters_pumpOut_14 rfl rfl ?_
  refine r_dup (pc := 15) C d_Waters_pumpOut_15 rfl ?_
  refine g_Waters_out (pc := 16) C h0 Lf_Waters_37 d_Waters_pumpOut_16 ?_
  refine r_iload_n (pc := 19) C 0 d_Waters_pumpOut_19 rfl rfl ?_
  refine r_iadd (pc := 20) C d_Waters_pumpOut_20 ?_
  refine p_Waters_out (pc := 21) C h0 Lf_Waters_37 d_Waters_pumpOut_21 ?_
  refine r_nmD hf (fun D2 hf => ?_)
  refine r_iload_n (pc := 24) C 0 d_Waters_pumpOut_24 rfl rfl ?_
  exact r_iret (pc := 25) C d_Waters_pumpOut_25 hf
theorem c_Waters_pumpOut (Γ : GmT) {a0 : Nat} {v1 : Int32} (h0 : kd a0 = 7) {D : Dt} {rr : Int32} {DD : Dt} (hf : f_Waters_pumpOut a0 v1 D = some (rr, DD)) : Mt Γ y_Waters_pumpOut b_Waters_pumpOut 3 (some .int) 1 [.ref (Γ.2.1 a0), .int v1] D (some (.int rr)) DD := Mt_of (by decide) (Nat.le_of_ble_eq_true rfl) (fun G C => te_Waters_pumpOut C h0 hf)
def f_Waters_emptyCellars (a0 : Nat) (D : Dt) : Option (Unit × Dt) :=
  bnd (f_J_fillI (a0 + 2) 0 D) (fun x1 D2 => some ((), D2))
set_option maxHeartbeats 4000000 in
theorem te_Waters_emptyCellars {Γ : GmT} {G : Dt → Nat → List (Nat × Value) → List Value → Prop} {rr : Unit} {DD : Dt} {a0 : Nat} (C : Cx Γ "RiverTuesdays$Waters" b_Waters_emptyCellars 1 2 none none DD G) (h0 : kd a0 = 7) {D : Dt} (hf : f_Waters_emptyCellars a0 D = some (rr, DD)) : G D 0 [(0, .ref (Γ.2.1 a0))] [] := by
  unfold f_Waters_emptyCellars at hf
  refine r_aload_n (pc := 0) C 0 d_Waters_emptyCellars_0 rfl rfl ?_
  refine g_Waters_below (pc := 1) C h0 Lf_Waters_15 d_Waters_emptyCellars_1 ?_
  refine r_iconst (pc := 4) C (v := 0) d_Waters_emptyCellars_4 (by decide) ?_
  refine r_callSv (pc := 5) (As := [.ref (Γ.2.1 (a0 + 2)), .int 0]) (rest := []) C ok_J_fillI Lm_Waters_27 ⟨by decide, by decide⟩ rfl rfl (Nat.le_of_ble_eq_true rfl) d_Waters_emptyCellars_5 hf (fun x D1 hc => c_J_fillI Γ ((kq_Waters_below h0)).1 hc) (fun x1 D2 hf => ?_)
  exact r_vret (pc := 8) C d_Waters_emptyCellars_8 hf
theorem c_Waters_emptyCellars (Γ : GmT) {a0 : Nat} (h0 : kd a0 = 7) {D : Dt} {rr : Unit} {DD : Dt} (hf : f_Waters_emptyCellars a0 D = some (rr, DD)) : Mt Γ y_Waters_emptyCellars b_Waters_emptyCellars 1 none 2 [.ref (Γ.2.1 a0)] D none DD := Mt_of (by decide) (Nat.le_of_ble_eq_true rfl) (fun G C => te_Waters_emptyCellars C h0 hf)
def b_Waters_harmOfHour_40 (a0 : Nat) (a1 : Nat) (k4 : Int32 → Int32 → Dt → Option (Int32 × Dt)) (v3 : Int32) (s0 : Int32) (s1 : Int32) (D : Dt) : Option (Int32 × Dt) :=
  k4 (s1 + s0) (v3 + 1) D
set_option maxHeartbeats 4000000 in
theorem tb_Waters_harmOfHour_40 {Γ : GmT} {G : Dt → Nat → List (Nat × Value) → List Value → Prop} {rr : Int32} {DD : Dt} {a0 : Nat} {a1 : Nat} (C : Cx Γ "RiverTuesdays$Waters" b_Waters_harmOfHour 4 1 (some .int) (some (.int rr)) DD G) (h0 : kd a0 = 7) (h1 : kd a1 = 0) {k4 : Int32 → Int32 → Dt → Option (Int32 × Dt)} (hk4 : ∀ (v2 : Int32) (v3 : Int32) (D : Dt), k4 v2 v3 D = some (rr, DD) → G D 4 [(0, .ref (Γ.2.1 a0)), (1, .ref (Γ.2.1 a1)), (2, .int v2), (3, .int v3)] []) {v3 : Int32} {s0 : Int32} {s1 : Int32} {D : Dt} (hf : b_Waters_harmOfHour_40 a0 a1 k4 v3 s0 s1 D = some (rr, DD)) : G D 40 [(0, .ref (Γ.2.1 a0)), (1, .ref (Γ.2.1 a1)), (3, .int v3)] [.int s0, .int s1] := by
  unfold b_Waters_harmOfHour_40 at hf
  refine r_iadd (pc := 40) C d_Waters_harmOfHour_40 ?_
  refine r_istore_n (pc := 41) (lv' := [(2, .int (s1 + s0)), (0, .ref (Γ.2.1 a0)), (1, .ref (Γ.2.1 a1)), (3, .int v3)]) C d_Waters_harmOfHour_41 rfl (Nat.le_of_ble_eq_true rfl) rfl ?_
  refine r_iinc (pc := 42) C (v := v3 + 1) (lv' := [(3, .int (v3 + 1)), (2, .int (s1 + s0)), (0, .ref (Γ.2.1 a0)), (1, .ref (Γ.2.1 a1))]) 3 d_Waters_harmOfHour_42 rfl rfl (Nat.le_of_ble_eq_true rfl) rfl ?_
  refine r_goto (pc := 45) C (tgt := 4) d_Waters_harmOfHour_45 (by decide) ?_
  exact r_lv (pc := 4) C [2, 3, 1, 0] rfl (hk4 (s1 + s0) (v3 + 1) D hf)
def s_Waters_harmOfHour_4 (a0 : Nat) (a1 : Nat) (k4 : Int32 → Int32 → Dt → Option (Int32 × Dt)) (v2 : Int32) (v3 : Int32) (D : Dt) : Option (Int32 × Dt) :=
  (if (D a1 5) ≤ v3 then some (v2, D) else (if inb v3 8 = true then (if (D (a1 + 1) v3.toNatClampNeg) = 2 then (if inb v3 8 = true then b_Waters_harmOfHour_40 a0 a1 k4 v3 (2 * (D (a0 + 5) v3.toNatClampNeg)) v2 D else none) else (if inb v3 8 = true then b_Waters_harmOfHour_40 a0 a1 k4 v3 (D (a0 + 5) v3.toNatClampNeg) v2 D else none)) else none))
def lp_Waters_harmOfHour_4 (a0 : Nat) (a1 : Nat) (n : Nat) : Int32 → Int32 → Dt → Option (Int32 × Dt) := itr (fun _ _ _ => none) (s_Waters_harmOfHour_4 a0 a1) n
set_option maxHeartbeats 4000000 in
theorem ts_Waters_harmOfHour_4 {Γ : GmT} {G : Dt → Nat → List (Nat × Value) → List Value → Prop} {rr : Int32} {DD : Dt} {a0 : Nat} {a1 : Nat} (C : Cx Γ "RiverTuesdays$Waters" b_Waters_harmOfHour 4 1 (some .int) (some (.int rr)) DD G) (h0 : kd a0 = 7) (h1 : kd a1 = 0) {k4 : Int32 → Int32 → Dt → Option (Int32 × Dt)} (hk4 : ∀ (v2 : Int32) (v3 : Int32) (D : Dt), k4 v2 v3 D = some (rr, DD) → G D 4 [(0, .ref (Γ.2.1 a0)), (1, .ref (Γ.2.1 a1)), (2, .int v2), (3, .int v3)] []) {v2 : Int32} {v3 : Int32} {D : Dt} (hf : s_Waters_harmOfHour_4 a0 a1 k4 v2 v3 D = some (rr, DD)) : G D 4 [(0, .ref (Γ.2.1 a0)), (1, .ref (Γ.2.1 a1)), (2, .int v2), (3, .int v3)] [] := by
  unfold s_Waters_harmOfHour_4 at hf
  refine r_iload_n (pc := 4) C 3 d_Waters_harmOfHour_4 rfl rfl ?_
  refine r_aload_n (pc := 5) C 1 d_Waters_harmOfHour_5 rfl rfl ?_
  refine g_Bed_houses (pc := 6) C h1 Lf_Waters_51 d_Waters_harmOfHour_6 ?_
  refine r_icmp_ge (pc := 9) C (tgt := 48) d_Waters_harmOfHour_9 (by decide) hf (fun c9 hf => ?_) (fun c9 hf => ?_)
  · refine r_iload_n (pc := 48) C 2 d_Waters_harmOfHour_48 rfl rfl ?_
    exact r_iret (pc := 49) C d_Waters_harmOfHour_49 hf
  · refine r_iload_n (pc := 12) C 2 d_Waters_harmOfHour_12 rfl rfl ?_
    refine r_aload_n (pc := 13) C 1 d_Waters_harmOfHour_13 rfl rfl ?_
    refine g_Bed_kinds (pc := 14) C h1 Lf_Waters_93 d_Waters_harmOfHour_14 ?_
    refine r_iload_n (pc := 17) C 3 d_Waters_harmOfHour_17 rfl rfl ?_
    refine r_iald (pc := 18) C (kq_Bed_kinds h1) d_Waters_harmOfHour_18 hf (fun hf => ?_)
    refine r_iconst (pc := 19) C (v := 2) d_Waters_harmOfHour_19 (by decide) ?_
    refine r_icmp_ne (pc := 20) C (tgt := 34) d_Waters_harmOfHour_20 (by decide) hf (fun c20 hf => ?_) (fun c20 hf => ?_)
    · refine r_aload_n (pc := 34) C 0 d_Waters_harmOfHour_34 rfl rfl ?_
      refine g_Waters_sank (pc := 35) C h0 Lf_Waters_24 d_Waters_harmOfHour_35 ?_
      refine r_iload_n (pc := 38) C 3 d_Waters_harmOfHour_38 rfl rfl ?_
      refine r_iald (pc := 39) C (kq_Waters_sank h0) d_Waters_harmOfHour_39 hf (fun hf => ?_)
      exact r_lv (pc := 40) C [0, 1, 3] rfl (tb_Waters_harmOfHour_40 C h0 h1 hk4 hf)
    · refine r_iconst (pc := 23) C (v := 2) d_Waters_harmOfHour_23 (by decide) ?_
      refine r_aload_n (pc := 24) C 0 d_Waters_harmOfHour_24 rfl rfl ?_
      refine g_Waters_sank (pc := 25) C h0 Lf_Waters_24 d_Waters_harmOfHour_25 ?_
      refine r_iload_n (pc := 28) C 3 d_Waters_harmOfHour_28 rfl rfl ?_
      refine r_iald (pc := 29) C (kq_Waters_sank h0) d_Waters_harmOfHour_29 hf (fun hf => ?_)
      refine r_imul (pc := 30) C d_Waters_harmOfHour_30 ?_
      refine r_goto (pc := 31) C (tgt := 40) d_Waters_harmOfHour_31 (by decide) ?_
      exact r_lv (pc := 40) C [0, 1, 3] rfl (tb_Waters_harmOfHour_40 C h0 h1 hk4 hf)
theorem tl_Waters_harmOfHour_4 {Γ : GmT} {G : Dt → Nat → List (Nat × Value) → List Value → Prop} {rr : Int32} {DD : Dt} {a0 : Nat} {a1 : Nat} (C : Cx Γ "RiverTuesdays$Waters" b_Waters_harmOfHour 4 1 (some .int) (some (.int rr)) DD G) (h0 : kd a0 = 7) (h1 : kd a1 = 0) : ∀ (n : Nat) (v2 : Int32) (v3 : Int32) (D : Dt), lp_Waters_harmOfHour_4 a0 a1 n v2 v3 D = some (rr, DD) → G D 4 [(0, .ref (Γ.2.1 a0)), (1, .ref (Γ.2.1 a1)), (2, .int v2), (3, .int v3)] [] := by
  intro n
  induction n with
  | zero =>
    intro v2 v3 D hf
    exact absurd (show (none : Option (Int32 × Dt)) = some (rr, DD) from hf) (by simp)
  | succ n ih =>
    intro v2 v3 D hf
    exact ts_Waters_harmOfHour_4 C h0 h1 (k4 := lp_Waters_harmOfHour_4 a0 a1 n) ih hf
def f_Waters_harmOfHour (a0 : Nat) (a1 : Nat) (D : Dt) : Option (Int32 × Dt) :=
  lp_Waters_harmOfHour_4 a0 a1 FU 0 0 D
set_option maxHeartbeats 4000000 in
theorem te_Waters_harmOfHour {Γ : GmT} {G : Dt → Nat → List (Nat × Value) → List Value → Prop} {rr : Int32} {DD : Dt} {a0 : Nat} {a1 : Nat} (C : Cx Γ "RiverTuesdays$Waters" b_Waters_harmOfHour 4 1 (some .int) (some (.int rr)) DD G) (h0 : kd a0 = 7) (h1 : kd a1 = 0) {D : Dt} (hf : f_Waters_harmOfHour a0 a1 D = some (rr, DD)) : G D 0 [(0, .ref (Γ.2.1 a0)), (1, .ref (Γ.2.1 a1))] [] := by
  unfold f_Waters_harmOfHour at hf
  refine r_iconst (pc := 0) C (v := 0) d_Waters_harmOfHour_0 (by decide) ?_
  refine r_istore_n (pc := 1) (lv' := [(2, .int 0), (0, .ref (Γ.2.1 a0)), (1, .ref (Γ.2.1 a1))]) C d_Waters_harmOfHour_1 rfl (Nat.le_of_ble_eq_true rfl) rfl ?_
  refine r_iconst (pc := 2) C (v := 0) d_Waters_harmOfHour_2 (by decide) ?_
  refine r_istore_n (pc := 3) (lv' := [(3, .int 0), (2, .int 0), (0, .ref (Γ.2.1 a0)), (1, .ref (Γ.2.1 a1))]) C d_Waters_harmOfHour_3 rfl (Nat.le_of_ble_eq_true rfl) rfl ?_
  exact r_lv (pc := 4) C [2, 3, 1, 0] rfl (tl_Waters_harmOfHour_4 C h0 h1 FU 0 0 D hf)
theorem c_Waters_harmOfHour (Γ : GmT) {a0 : Nat} {a1 : Nat} (h0 : kd a0 = 7) (h1 : kd a1 = 0) {D : Dt} {rr : Int32} {DD : Dt} (hf : f_Waters_harmOfHour a0 a1 D = some (rr, DD)) : Mt Γ y_Waters_harmOfHour b_Waters_harmOfHour 4 (some .int) 1 [.ref (Γ.2.1 a0), .ref (Γ.2.1 a1)] D (some (.int rr)) DD := Mt_of (by decide) (Nat.le_of_ble_eq_true rfl) (fun G C => te_Waters_harmOfHour C h0 h1 hf)
def b_Waters_sankBits_26 (a0 : Nat) (k4 : Int32 → Int32 → Int32 → Dt → Option (Int32 × Dt)) (v1 : Int32) (v3 : Int32) (s0 : Int32) (s1 : Int32) (D : Dt) : Option (Int32 × Dt) :=
  k4 v1 (s1 ||| s0) (v3 + 1) D
set_option maxHeartbeats 4000000 in
theorem tb_Waters_sankBits_26 {Γ : GmT} {G : Dt → Nat → List (Nat × Value) → List Value → Prop} {rr : Int32} {DD : Dt} {a0 : Nat} (C : Cx Γ "RiverTuesdays$Waters" b_Waters_sankBits 4 1 (some .int) (some (.int rr)) DD G) (h0 : kd a0 = 7) {k4 : Int32 → Int32 → Int32 → Dt → Option (Int32 × Dt)} (hk4 : ∀ (v1 : Int32) (v2 : Int32) (v3 : Int32) (D : Dt), k4 v1 v2 v3 D = some (rr, DD) → G D 4 [(0, .ref (Γ.2.1 a0)), (1, .int v1), (2, .int v2), (3, .int v3)] []) {v1 : Int32} {v3 : Int32} {s0 : Int32} {s1 : Int32} {D : Dt} (hf : b_Waters_sankBits_26 a0 k4 v1 v3 s0 s1 D = some (rr, DD)) : G D 26 [(0, .ref (Γ.2.1 a0)), (1, .int v1), (3, .int v3)] [.int s0, .int s1] := by
  unfold b_Waters_sankBits_26 at hf
  refine r_ior (pc := 26) C d_Waters_sankBits_26 ?_
  refine r_istore_n (pc := 27) (lv' := [(2, .int (s1 ||| s0)), (0, .ref (Γ.2.1 a0)), (1, .int v1), (3, .int v3)]) C d_Waters_sankBits_27 rfl (Nat.le_of_ble_eq_true rfl) rfl ?_
  refine r_iinc (pc := 28) C (v := v3 + 1) (lv' := [(3, .int (v3 + 1)), (2, .int (s1 ||| s0)), (0, .ref (Γ.2.1 a0)), (1, .int v1)]) 3 d_Waters_sankBits_28 rfl rfl (Nat.le_of_ble_eq_true rfl) rfl ?_
  refine r_goto (pc := 31) C (tgt := 4) d_Waters_sankBits_31 (by decide) ?_
  exact r_lv (pc := 4) C [2, 3, 1, 0] rfl (hk4 v1 (s1 ||| s0) (v3 + 1) D hf)
def s_Waters_sankBits_4 (a0 : Nat) (k4 : Int32 → Int32 → Int32 → Dt → Option (Int32 × Dt)) (v1 : Int32) (v2 : Int32) (v3 : Int32) (D : Dt) : Option (Int32 × Dt) :=
  (if v1 ≤ v3 then some (v2, D) else (if inb v3 8 = true then (if (D (a0 + 5) v3.toNatClampNeg) ≤ 0 then b_Waters_sankBits_26 a0 k4 v1 v3 0 v2 D else b_Waters_sankBits_26 a0 k4 v1 v3 (1 <<< (v3 &&& 31)) v2 D) else none))
def lp_Waters_sankBits_4 (a0 : Nat) (n : Nat) : Int32 → Int32 → Int32 → Dt → Option (Int32 × Dt) := itr (fun _ _ _ _ => none) (s_Waters_sankBits_4 a0) n
set_option maxHeartbeats 4000000 in
theorem ts_Waters_sankBits_4 {Γ : GmT} {G : Dt → Nat → List (Nat × Value) → List Value → Prop} {rr : Int32} {DD : Dt} {a0 : Nat} (C : Cx Γ "RiverTuesdays$Waters" b_Waters_sankBits 4 1 (some .int) (some (.int rr)) DD G) (h0 : kd a0 = 7) {k4 : Int32 → Int32 → Int32 → Dt → Option (Int32 × Dt)} (hk4 : ∀ (v1 : Int32) (v2 : Int32) (v3 : Int32) (D : Dt), k4 v1 v2 v3 D = some (rr, DD) → G D 4 [(0, .ref (Γ.2.1 a0)), (1, .int v1), (2, .int v2), (3, .int v3)] []) {v1 : Int32} {v2 : Int32} {v3 : Int32} {D : Dt} (hf : s_Waters_sankBits_4 a0 k4 v1 v2 v3 D = some (rr, DD)) : G D 4 [(0, .ref (Γ.2.1 a0)), (1, .int v1), (2, .int v2), (3, .int v3)] [] := by
  unfold s_Waters_sankBits_4 at hf
  refine r_iload_n (pc := 4) C 3 d_Waters_sankBits_4 rfl rfl ?_
  refine r_iload_n (pc := 5) C 1 d_Waters_sankBits_5 rfl rfl ?_
  refine r_icmp_ge (pc := 6) C (tgt := 34) d_Waters_sankBits_6 (by decide) hf (fun c6 hf => ?_) (fun c6 hf => ?_)
  · refine r_iload_n (pc := 34) C 2 d_Waters_sankBits_34 rfl rfl ?_
    exact r_iret (pc := 35) C d_Waters_sankBits_35 hf
  · refine r_iload_n (pc := 9) C 2 d_Waters_sankBits_9 rfl rfl ?_
    refine r_aload_n (pc := 10) C 0 d_Waters_sankBits_10 rfl rfl ?_
    refine g_Waters_sank (pc := 11) C h0 Lf_Waters_24 d_Waters_sankBits_11 ?_
    refine r_iload_n (pc := 14) C 3 d_Waters_sankBits_14 rfl rfl ?_
    refine r_iald (pc := 15) C (kq_Waters_sank h0) d_Waters_sankBits_15 hf (fun hf => ?_)
    refine r_if_le (pc := 16) C (tgt := 25) d_Waters_sankBits_16 (by decide) hf (fun c16 hf => ?_) (fun c16 hf => ?_)
    · refine r_iconst (pc := 25) C (v := 0) d_Waters_sankBits_25 (by decide) ?_
      exact r_lv (pc := 26) C [0, 1, 3] rfl (tb_Waters_sankBits_26 C h0 hk4 hf)
    · refine r_iconst (pc := 19) C (v := 1) d_Waters_sankBits_19 (by decide) ?_
      refine r_iload_n (pc := 20) C 3 d_Waters_sankBits_20 rfl rfl ?_
      refine r_ishl (pc := 21) C d_Waters_sankBits_21 ?_
      refine r_goto (pc := 22) C (tgt := 26) d_Waters_sankBits_22 (by decide) ?_
      exact r_lv (pc := 26) C [0, 1, 3] rfl (tb_Waters_sankBits_26 C h0 hk4 hf)
theorem tl_Waters_sankBits_4 {Γ : GmT} {G : Dt → Nat → List (Nat × Value) → List Value → Prop} {rr : Int32} {DD : Dt} {a0 : Nat} (C : Cx Γ "RiverTuesdays$Waters" b_Waters_sankBits 4 1 (some .int) (some (.int rr)) DD G) (h0 : kd a0 = 7) : ∀ (n : Nat) (v1 : Int32) (v2 : Int32) (v3 : Int32) (D : Dt), lp_Waters_sankBits_4 a0 n v1 v2 v3 D = some (rr, DD) → G D 4 [(0, .ref (Γ.2.1 a0)), (1, .int v1), (2, .int v2), (3, .int v3)] [] := by
  intro n
  induction n with
  | zero =>
    intro v1 v2 v3 D hf
    exact absurd (show (none : Option (Int32 × Dt)) = some (rr, DD) from hf) (by simp)
  | succ n ih =>
    intro v1 v2 v3 D hf
    exact ts_Waters_sankBits_4 C h0 (k4 := lp_Waters_sankBits_4 a0 n) ih hf
def f_Waters_sankBits (a0 : Nat) (v1 : Int32) (D : Dt) : Option (Int32 × Dt) :=
  lp_Waters_sankBits_4 a0 FU v1 0 0 D
set_option maxHeartbeats 4000000 in
theorem te_Waters_sankBits {Γ : GmT} {G : Dt → Nat → List (Nat × Value) → List Value → Prop} {rr : Int32} {DD : Dt} {a0 : Nat} (C : Cx Γ "RiverTuesdays$Waters" b_Waters_sankBits 4 1 (some .int) (some (.int rr)) DD G) (h0 : kd a0 = 7) {v1 : Int32} {D : Dt} (hf : f_Waters_sankBits a0 v1 D = some (rr, DD)) : G D 0 [(0, .ref (Γ.2.1 a0)), (1, .int v1)] [] := by
  unfold f_Waters_sankBits at hf
  refine r_iconst (pc := 0) C (v := 0) d_Waters_sankBits_0 (by decide) ?_
  refine r_istore_n (pc := 1) (lv' := [(2, .int 0), (0, .ref (Γ.2.1 a0)), (1, .int v1)]) C d_Waters_sankBits_1 rfl (Nat.le_of_ble_eq_true rfl) rfl ?_
  refine r_iconst (pc := 2) C (v := 0) d_Waters_sankBits_2 (by decide) ?_
  refine r_istore_n (pc := 3) (lv' := [(3, .int 0), (2, .int 0), (0, .ref (Γ.2.1 a0)), (1, .int v1)]) C d_Waters_sankBits_3 rfl (Nat.le_of_ble_eq_true rfl) rfl ?_
  exact r_lv (pc := 4) C [2, 3, 1, 0] rfl (tl_Waters_sankBits_4 C h0 FU v1 0 0 D hf)
theorem c_Waters_sankBits (Γ : GmT) {a0 : Nat} {v1 : Int32} (h0 : kd a0 = 7) {D : Dt} {rr : Int32} {DD : Dt} (hf : f_Waters_sankBits a0 v1 D = some (rr, DD)) : Mt Γ y_Waters_sankBits b_Waters_sankBits 4 (some .int) 1 [.ref (Γ.2.1 a0), .int v1] D (some (.int rr)) DD := Mt_of (by decide) (Nat.le_of_ble_eq_true rfl) (fun G C => te_Waters_sankBits C h0 hf)
def s_Waters_sumOf_4 (a0 : Nat) (k4 : Int32 → Int32 → Dt → Option (Int32 × Dt)) (v1 : Int32) (v2 : Int32) (D : Dt) : Option (Int32 × Dt) :=
  (if (Int32.ofNat (ln a0)) ≤ v2 then some (v1, D) else (if inb v2 (ln a0) = true then k4 (v1 + (D a0 v2.toNatClampNeg)) (v2 + 1) D else none))
def lp_Waters_sumOf_4 (a0 : Nat) (n : Nat) : Int32 → Int32 → Dt → Option (Int32 × Dt) := itr (fun _ _ _ => none) (s_Waters_sumOf_4 a0) n
set_option maxHeartbeats 4000000 in
theorem ts_Waters_sumOf_4 {Γ : GmT} {G : Dt → Nat → List (Nat × Value) → List Value → Prop} {rr : Int32} {DD : Dt} {a0 : Nat} (C : Cx Γ "RiverTuesdays$Waters" b_Waters_sumOf 3 1 (some .int) (some (.int rr)) DD G) (h0 : kd a0 = 11) {k4 : Int32 → Int32 → Dt → Option (Int32 × Dt)} (hk4 : ∀ (v1 : Int32) (v2 : Int32) (D : Dt), k4 v1 v2 D = some (rr, DD) → G D 4 [(0, .ref (Γ.2.1 a0)), (1, .int v1), (2, .int v2)] []) {v1 : Int32} {v2 : Int32} {D : Dt} (hf : s_Waters_sumOf_4 a0 k4 v1 v2 D = some (rr, DD)) : G D 4 [(0, .ref (Γ.2.1 a0)), (1, .int v1), (2, .int v2)] [] := by
  unfold s_Waters_sumOf_4 at hf
  refine r_iload_n (pc := 4) C 2 d_Waters_sumOf_4 rfl rfl ?_
  refine r_aload_n (pc := 5) C 0 d_Waters_sumOf_5 rfl rfl ?_
  refine r_alen (pc := 6) C ⟨h0, rfl⟩ (by decide) d_Waters_sumOf_6 ?_
  refine r_icmp_ge (pc := 7) C (tgt := 22) d_Waters_sumOf_7 (by decide) hf (fun c7 hf => ?_) (fun c7 hf => ?_)
  · refine r_iload_n (pc := 22) C 1 d_Waters_sumOf_22 rfl rfl ?_
    exact r_iret (pc := 23) C d_Waters_sumOf_23 hf
  · refine r_iload_n (pc := 10) C 1 d_Waters_sumOf_10 rfl rfl ?_
    refine r_aload_n (pc := 11) C 0 d_Waters_sumOf_11 rfl rfl ?_
    refine r_iload_n (pc := 12) C 2 d_Waters_sumOf_12 rfl rfl ?_
    refine r_iald (pc := 13) C ⟨h0, rfl⟩ d_Waters_sumOf_13 hf (fun hf => ?_)
    refine r_iadd (pc := 14) C d_Waters_sumOf_14 ?_
    refine r_istore_n (pc := 15) (lv' := [(1, .int (v1 + (D a0 v2.toNatClampNeg))), (0, .ref (Γ.2.1 a0)), (2, .int v2)]) C d_Waters_sumOf_15 rfl (Nat.le_of_ble_eq_true rfl) rfl ?_
    refine r_iinc (pc := 16) C (v := v2 + 1) (lv' := [(2, .int (v2 + 1)), (1, .int (v1 + (D a0 v2.toNatClampNeg))), (0, .ref (Γ.2.1 a0))]) 2 d_Waters_sumOf_16 rfl rfl (Nat.le_of_ble_eq_true rfl) rfl ?_
    refine r_goto (pc := 19) C (tgt := 4) d_Waters_sumOf_19 (by decide) ?_
    exact r_lv (pc := 4) C [2, 1, 0] rfl (hk4 (v1 + (D a0 v2.toNatClampNeg)) (v2 + 1) D hf)
theorem tl_Waters_sumOf_4 {Γ : GmT} {G : Dt → Nat → List (Nat × Value) → List Value → Prop} {rr : Int32} {DD : Dt} {a0 : Nat} (C : Cx Γ "RiverTuesdays$Waters" b_Waters_sumOf 3 1 (some .int) (some (.int rr)) DD G) (h0 : kd a0 = 11) : ∀ (n : Nat) (v1 : Int32) (v2 : Int32) (D : Dt), lp_Waters_sumOf_4 a0 n v1 v2 D = some (rr, DD) → G D 4 [(0, .ref (Γ.2.1 a0)), (1, .int v1), (2, .int v2)] [] := by
  intro n
  induction n with
  | zero =>
    intro v1 v2 D hf
    exact absurd (show (none : Option (Int32 × Dt)) = some (rr, DD) from hf) (by simp)
  | succ n ih =>
    intro v1 v2 D hf
    exact ts_Waters_sumOf_4 C h0 (k4 := lp_Waters_sumOf_4 a0 n) ih hf
def f_Waters_sumOf (a0 : Nat) (D : Dt) : Option (Int32 × Dt) :=
  lp_Waters_sumOf_4 a0 FU 0 0 D
set_option maxHeartbeats 4000000 in
theorem te_Waters_sumOf {Γ : GmT} {G : Dt → Nat → List (Nat × Value) → List Value → Prop} {rr : Int32} {DD : Dt} {a0 : Nat} (C : Cx Γ "RiverTuesdays$Waters" b_Waters_sumOf 3 1 (some .int) (some (.int rr)) DD G) (h0 : kd a0 = 11) {D : Dt} (hf : f_Waters_sumOf a0 D = some (rr, DD)) : G D 0 [(0, .ref (Γ.2.1 a0))] [] := by
  unfold f_Waters_sumOf at hf
  refine r_iconst (pc := 0) C (v := 0) d_Waters_sumOf_0 (by decide) ?_
  refine r_istore_n (pc := 1) (lv' := [(1, .int 0), (0, .ref (Γ.2.1 a0))]) C d_Waters_sumOf_1 rfl (Nat.le_of_ble_eq_true rfl) rfl ?_
  refine r_iconst (pc := 2) C (v := 0) d_Waters_sumOf_2 (by decide) ?_
  refine r_istore_n (pc := 3) (lv' := [(2, .int 0), (1, .int 0), (0, .ref (Γ.2.1 a0))]) C d_Waters_sumOf_3 rfl (Nat.le_of_ble_eq_true rfl) rfl ?_
  exact r_lv (pc := 4) C [2, 1, 0] rfl (tl_Waters_sumOf_4 C h0 FU 0 0 D hf)
theorem c_Waters_sumOf (Γ : GmT) {a0 : Nat} (h0 : kd a0 = 11) {D : Dt} {rr : Int32} {DD : Dt} (hf : f_Waters_sumOf a0 D = some (rr, DD)) : Mt Γ y_Waters_sumOf b_Waters_sumOf 3 (some .int) 1 [.ref (Γ.2.1 a0)] D (some (.int rr)) DD := Mt_of (by decide) (Nat.le_of_ble_eq_true rfl) (fun G C => te_Waters_sumOf C h0 hf)
def f_Waters_allAhead (a0 : Nat) (D : Dt) : Option (Int32 × Dt) :=
  bnd (f_Waters_sumOf (a0 + 1) D) (fun x1 D2 => some (x1, D2))
set_option maxHeartbeats 4000000 in
theorem te_Waters_allAhead {Γ : GmT} {G : Dt → Nat → List (Nat × Value) → List Value → Prop} {rr : Int32} {DD : Dt} {a0 : Nat} (C : Cx Γ "RiverTuesdays$Waters" b_Waters_allAhead 1 2 (some .int) (some (.int rr)) DD G) (h0 : kd a0 = 7) {D : Dt} (hf : f_Waters_allAhead a0 D = some (rr, DD)) : G D 0 [(0, .ref (Γ.2.1 a0))] [] := by
  unfold f_Waters_allAhead at hf
  refine r_aload_n (pc := 0) C 0 d_Waters_allAhead_0 rfl rfl ?_
  refine g_Waters_ahead (pc := 1) C h0 Lf_Waters_9 d_Waters_allAhead_1 ?_
  refine r_callSi (pc := 4) (As := [.ref (Γ.2.1 (a0 + 1))]) (rest := []) C ok_Waters_sumOf Lm_Waters_96 ⟨by decide, by decide⟩ rfl rfl (Nat.le_of_ble_eq_true rfl) d_Waters_allAhead_4 hf (fun x D1 hc => c_Waters_sumOf Γ ((kq_Waters_ahead h0)).1 hc) (fun x1 D2 hf => ?_)
  exact r_iret (pc := 7) C d_Waters_allAhead_7 hf
theorem c_Waters_allAhead (Γ : GmT) {a0 : Nat} (h0 : kd a0 = 7) {D : Dt} {rr : Int32} {DD : Dt} (hf : f_Waters_allAhead a0 D = some (rr, DD)) : Mt Γ y_Waters_allAhead b_Waters_allAhead 1 (some .int) 2 [.ref (Γ.2.1 a0)] D (some (.int rr)) DD := Mt_of (by decide) (Nat.le_of_ble_eq_true rfl) (fun G C => te_Waters_allAhead C h0 hf)
def f_Waters_allFlour (a0 : Nat) (D : Dt) : Option (Int32 × Dt) :=
  bnd (f_Waters_sumOf (a0 + 3) D) (fun x1 D2 => some (x1, D2))
set_option maxHeartbeats 4000000 in
theorem te_Waters_allFlour {Γ : GmT} {G : Dt → Nat → List (Nat × Value) → List Value → Prop} {rr : Int32} {DD : Dt} {a0 : Nat} (C : Cx Γ "RiverTuesdays$Waters" b_Waters_allFlour 1 2 (some .int) (some (.int rr)) DD G) (h0 : kd a0 = 7) {D : Dt} (hf : f_Waters_allFlour a0 D = some (rr, DD)) : G D 0 [(0, .ref (Γ.2.1 a0))] [] := by
  unfold f_Waters_allFlour at hf
  refine r_aload_n (pc := 0) C 0 d_Waters_allFlour_0 rfl rfl ?_
  refine g_Waters_flour (pc := 1) C h0 Lf_Waters_18 d_Waters_allFlour_1 ?_
  refine r_callSi (pc := 4) (As := [.ref (Γ.2.1 (a0 + 3))]) (rest := []) C ok_Waters_sumOf Lm_Waters_96 ⟨by decide, by decide⟩ rfl rfl (Nat.le_of_ble_eq_true rfl) d_Waters_allFlour_4 hf (fun x D1 hc => c_Waters_sumOf Γ ((kq_Waters_flour h0)).1 hc) (fun x1 D2 hf => ?_)
  exact r_iret (pc := 7) C d_Waters_allFlour_7 hf
theorem c_Waters_allFlour (Γ : GmT) {a0 : Nat} (h0 : kd a0 = 7) {D : Dt} {rr : Int32} {DD : Dt} (hf : f_Waters_allFlour a0 D = some (rr, DD)) : Mt Γ y_Waters_allFlour b_Waters_allFlour 1 (some .int) 2 [.ref (Γ.2.1 a0)] D (some (.int rr)) DD := Mt_of (by decide) (Nat.le_of_ble_eq_true rfl) (fun G C => te_Waters_allFlour C h0 hf)
def f_Waters_standing (a0 : Nat) (D : Dt) : Option (Int32 × Dt) :=
  bnd (f_Waters_sumOf (a0 + 1) D) (fun x1 D2 => bnd (f_Waters_sumOf (a0 + 2) D2) (fun x3 D4 => some (x1 + x3, D4)))
set_option maxHeartbeats 4000000 in
theorem te_Waters_standing {Γ : GmT} {G : Dt → Nat → List (Nat × Value) → List Value → Prop} {rr : Int32} {DD : Dt} {a0 : Nat} (C : Cx Γ "RiverTuesdays$Waters" b_Waters_standing 1 2 (some .int) (some (.int rr)) DD G) (h0 : kd a0 = 7) {D : Dt} (hf : f_Waters_standing a0 D = some (rr, DD)) : G D 0 [(0, .ref (Γ.2.1 a0))] [] := by
  unfold f_Waters_standing at hf
  refine r_aload_n (pc := 0) C 0 d_Waters_standing_0 rfl rfl ?_
  refine g_Waters_ahead (pc := 1) C h0 Lf_Waters_9 d_Waters_standing_1 ?_
  refine r_callSi (pc := 4) (As := [.ref (Γ.2.1 (a0 + 1))]) (rest := []) C ok_Waters_sumOf Lm_Waters_96 ⟨by decide, by decide⟩ rfl rfl (Nat.le_of_ble_eq_true rfl) d_Waters_standing_4 hf (fun x D1 hc => c_Waters_sumOf Γ ((kq_Waters_ahead h0)).1 hc) (fun x1 D2 hf => ?_)
  refine r_aload_n (pc := 7) C 0 d_Waters_standing_7 rfl rfl ?_
  refine g_Waters_below (pc := 8) C h0 Lf_Waters_15 d_Waters_standing_8 ?_
  refine r_callSi (pc := 11) (As := [.ref (Γ.2.1 (a0 + 2))]) (rest := [.int x1]) C ok_Waters_sumOf Lm_Waters_96 ⟨by decide, by decide⟩ rfl rfl (Nat.le_of_ble_eq_true rfl) d_Waters_standing_11 hf (fun x D1 hc => c_Waters_sumOf Γ ((kq_Waters_below h0)).1 hc) (fun x3 D4 hf => ?_)
  refine r_iadd (pc := 14) C d_Waters_standing_14 ?_
  exact r_iret (pc := 15) C d_Waters_standing_15 hf
theorem c_Waters_standing (Γ : GmT) {a0 : Nat} (h0 : kd a0 = 7) {D : Dt} {rr : Int32} {DD : Dt} (hf : f_Waters_standing a0 D = some (rr, DD)) : Mt Γ y_Waters_standing b_Waters_standing 1 (some .int) 2 [.ref (Γ.2.1 a0)] D (some (.int rr)) DD := Mt_of (by decide) (Nat.le_of_ble_eq_true rfl) (fun G C => te_Waters_standing C h0 hf)
def f_Street_begin (a0 : Nat) (a1 : Nat) (D : Dt) : Option (Unit × Dt) :=
  bnd (f_Bed_takeFrom (a0 + 1) a1 D) (fun x1 D2 => bnd (f_Waters_begin (a0 + 7) D2) (fun x3 D4 => nm (wr D4 a0 4 0) (fun D5 => some ((), D5))))
set_option maxHeartbeats 4000000 in
theorem te_Street_begin {Γ : GmT} {G : Dt → Nat → List (Nat × Value) → List Value → Prop} {rr : Unit} {DD : Dt} {a0 : Nat} {a1 : Nat} (C : Cx Γ "RiverTuesdays$Street" b_Street_begin 2 3 none none DD G) (h0 : kd a0 = 4) (h1 : kd a1 = 0) {D : Dt} (hf : f_Street_begin a0 a1 D = some (rr, DD)) : G D 0 [(0, .ref (Γ.2.1 a0)), (1, .ref (Γ.2.1 a1))] [] := by
  unfold f_Street_begin at hf
  refine r_aload_n (pc := 0) C 0 d_Street_begin_0 rfl rfl ?_
  refine g_Street_bed (pc := 1) C h0 Lf_Street_12 d_Street_begin_1 ?_
  refine r_aload_n (pc := 4) C 1 d_Street_begin_4 rfl rfl ?_
  refine r_callVv (pc := 5) (As := [.ref (Γ.2.1 a1)]) (rest := []) C ok_Bed_takeFrom Lm_Street_32 (kq_Street_bed h0) (by decide) ⟨by decide, by decide⟩ rfl rfl (Nat.le_of_ble_eq_true rfl) d_Street_begin_5 hf (fun x D1 hc => c_Bed_takeFrom Γ (kq_Street_bed h0) h1 hc) (fun x1 D2 hf => ?_)
  refine r_aload_n (pc := 8) C 0 d_Street_begin_8 rfl rfl ?_
  refine g_Street_now (pc := 9) C h0 Lf_Street_21 d_Street_begin_9 ?_
  refine r_callVv (pc := 12) (As := []) (rest := []) C ok_Waters_begin Lm_Street_36 (kq_Street_now h0) (by decide) ⟨by decide, by decide⟩ rfl rfl (Nat.le_of_ble_eq_true rfl) d_Street_begin_12 hf (fun x D1 hc => c_Waters_begin Γ (kq_Street_now h0) hc) (fun x3 D4 hf => ?_)
  refine r_aload_n (pc := 15) C 0 d_Street_begin_15 rfl rfl ?_
  refine r_iconst (pc := 16) C (v := 0) d_Street_begin_16 (by decide) ?_
  refine p_Street_hours (pc := 17) C h0 Lf_Street_39 d_Street_begin_17 ?_
  refine r_nmD hf (fun D5 hf => ?_)
  exact r_vret (pc := 20) C d_Street_begin_20 hf
theorem c_Street_begin (Γ : GmT) {a0 : Nat} {a1 : Nat} (h0 : kd a0 = 4) (h1 : kd a1 = 0) {D : Dt} {rr : Unit} {DD : Dt} (hf : f_Street_begin a0 a1 D = some (rr, DD)) : Mt Γ y_Street_begin b_Street_begin 2 none 3 [.ref (Γ.2.1 a0), .ref (Γ.2.1 a1)] D none DD := Mt_of (by decide) (Nat.le_of_ble_eq_true rfl) (fun G C => te_Street_begin C h0 h1 hf)
def f_Street_takeFrom (a0 : Nat) (a1 : Nat) (D : Dt) : Option (Unit × Dt) :=
  bnd (f_Bed_takeFrom (a0 + 1) (a1 + 1) D) (fun x1 D2 => bnd (f_Waters_takeFrom (a0 + 7) (a1 + 7) D2) (fun x3 D4 => (if ¬ (0 : Int32) < 0 ∧ ¬ (0 : Int32) < 0 ∧ ¬ ((D4 a1 4) * 26) < 0 ∧ (0 : Int32).toNatClampNeg + ((D4 a1 4) * 26).toNatClampNeg ≤ 1560 ∧ (0 : Int32).toNatClampNeg + ((D4 a1 4) * 26).toNatClampNeg ≤ 1560 then nm (st D4 (a0 + 13) (va_cpy (D4 (a1 + 13)) (D4 (a0 + 13)) (0 : Int32).toNatClampNeg (0 : Int32).toNatClampNeg ((D4 a1 4) * 26).toNatClampNeg)) (fun D5 => (if ¬ (0 : Int32) < 0 ∧ ¬ (0 : Int32) < 0 ∧ ¬ (D5 a1 4) < 0 ∧ (0 : Int32).toNatClampNeg + (D5 a1 4).toNatClampNeg ≤ 60 ∧ (0 : Int32).toNatClampNeg + (D5 a1 4).toNatClampNeg ≤ 60 then nm (st D5 (a0 + 14) (va_cpy (D5 (a1 + 14)) (D5 (a0 + 14)) (0 : Int32).toNatClampNeg (0 : Int32).toNatClampNeg (D5 a1 4).toNatClampNeg)) (fun D6 => nm (wr D6 a0 4 (D6 a1 4)) (fun D7 => some ((), D7))) else none)) else none)))
set_option maxHeartbeats 4000000 in
theorem te_Street_takeFrom {Γ : GmT} {G : Dt → Nat → List (Nat × Value) → List Value → Prop} {rr : Unit} {DD : Dt} {a0 : Nat} {a1 : Nat} (C : Cx Γ "RiverTuesdays$Street" b_Street_takeFrom 2 3 none none DD G) (h0 : kd a0 = 4) (h1 : kd a1 = 4) {D : Dt} (hf : f_Street_takeFrom a0 a1 D = some (rr, DD)) : G D 0 [(0, .ref (Γ.2.1 a0)), (1, .ref (Γ.2.1 a1))] [] := by
  unfold f_Street_takeFrom at hf
  refine r_aload_n (pc := 0) C 0 d_Street_takeFrom_0 rfl rfl ?_
  refine g_Street_bed (pc := 1) C h0 Lf_Street_12 d_Street_takeFrom_1 ?_
  refine r_aload_n (pc := 4) C 1 d_Street_takeFrom_4 rfl rfl ?_
  refine g_Street_bed (pc := 5) C h1 Lf_Street_12 d_Street_takeFrom_5 ?_
  refine r_callVv (pc := 8) (As := [.ref (Γ.2.1 (a1 + 1))]) (rest := []) C ok_Bed_takeFrom Lm_Street_32 (kq_Street_bed h0) (by decide) ⟨by decide, by decide⟩ rfl rfl (Nat.le_of_ble_eq_true rfl) d_Street_takeFrom_8 hf (fun x D1 hc => c_Bed_takeFrom Γ (kq_Street_bed h0) (kq_Street_bed h1) hc) (fun x1 D2 hf => ?_)
  refine r_aload_n (pc := 11) C 0 d_Street_takeFrom_11 rfl rfl ?_
  refine g_Street_now (pc := 12) C h0 Lf_Street_21 d_Street_takeFrom_12 ?_
  refine r_aload_n (pc := 15) C 1 d_Street_takeFrom_15 rfl rfl ?_
  refine g_Street_now (pc := 16) C h1 Lf_Street_21 d_Street_takeFrom_16 ?_
  refine r_callVv (pc := 19) (As := [.ref (Γ.2.1 (a1 + 7))]) (rest := []) C ok_Waters_takeFrom Lm_Street_43 (kq_Street_now h0) (by decide) ⟨by decide, by decide⟩ rfl rfl (Nat.le_of_ble_eq_true rfl) d_Street_takeFrom_19 hf (fun x D1 hc => c_Waters_takeFrom Γ (kq_Street_now h0) (kq_Street_now h1) hc) (fun x3 D4 hf => ?_)
  refine r_aload_n (pc := 22) C 1 d_Street_takeFrom_22 rfl rfl ?_
  refine g_Street_past (pc := 23) C h1 Lf_Street_25 d_Street_takeFrom_23 ?_
  refine r_iconst (pc := 26) C (v := 0) d_Street_takeFrom_26 (by decide) ?_
  refine r_aload_n (pc := 27) C 0 d_Street_takeFrom_27 rfl rfl ?_
  refine g_Street_past (pc := 28) C h0 Lf_Street_25 d_Street_takeFrom_28 ?_
  refine r_iconst (pc := 31) C (v := 0) d_Street_takeFrom_31 (by decide) ?_
  refine r_aload_n (pc := 32) C 1 d_Street_takeFrom_32 rfl rfl ?_
  refine g_Street_hours (pc := 33) C h1 Lf_Street_39 d_Street_takeFrom_33 ?_
  refine r_bipush (pc := 36) C (v := 26) d_Street_takeFrom_36 (by decide) ?_
  refine r_imul (pc := 38) C d_Street_takeFrom_38 ?_
  refine r_acopy (pc := 39) C (kq_Street_past h1) (kq_Street_past h0) Lm_Street_46 acw1 acw2 acw3 (by decide) (Nat.le_of_ble_eq_true rfl) d_Street_takeFrom_39 hf (fun hf => ?_)
  refine r_nmD hf (fun D5 hf => ?_)
  refine r_aload_n (pc := 42) C 1 d_Street_takeFrom_42 rfl rfl ?_
  refine g_Street_openBit (pc := 43) C h1 Lf_Street_29 d_Street_takeFrom_43 ?_
  refine r_iconst (pc := 46) C (v := 0) d_Street_takeFrom_46 (by decide) ?_
  refine r_aload_n (pc := 47) C 0 d_Street_takeFrom_47 rfl rfl ?_
  refine g_Street_openBit (pc := 48) C h0 Lf_Street_29 d_Street_takeFrom_48 ?_
  refine r_iconst (pc := 51) C (v := 0) d_Street_takeFrom_51 (by decide) ?_
  refine r_aload_n (pc := 52) C 1 d_Street_takeFrom_52 rfl rfl ?_
  refine g_Street_hours (pc := 53) C h1 Lf_Street_39 d_Street_takeFrom_53 ?_
  refine r_acopy (pc := 56) C (kq_Street_openBit h1) (kq_Street_openBit h0) Lm_Street_46 acw1 acw2 acw3 (by decide) (Nat.le_of_ble_eq_true rfl) d_Street_takeFrom_56 hf (fun hf => ?_)
  refine r_nmD hf (fun D6 hf => ?_)
  refine r_aload_n (pc := 59) C 0 d_Street_takeFrom_59 rfl rfl ?_
  refine r_aload_n (pc := 60) C 1 d_Street_takeFrom_60 rfl rfl ?_
  refine g_Street_hours (pc := 61) C h1 Lf_Street_39 d_Street_takeFrom_61 ?_
  refine p_Street_hours (pc := 64) C h0 Lf_Street_39 d_Street_takeFrom_64 ?_
  refine r_nmD hf (fun D7 hf => ?_)
  exact r_vret (pc := 67) C d_Street_takeFrom_67 hf
theorem c_Street_takeFrom (Γ : GmT) {a0 : Nat} {a1 : Nat} (h0 : kd a0 = 4) (h1 : kd a1 = 4) {D : Dt} {rr : Unit} {DD : Dt} (hf : f_Street_takeFrom a0 a1 D = some (rr, DD)) : Mt Γ y_Street_takeFrom b_Street_takeFrom 2 none 3 [.ref (Γ.2.1 a0), .ref (Γ.2.1 a1)] D none DD := Mt_of (by decide) (Nat.le_of_ble_eq_true rfl) (fun G C => te_Street_takeFrom C h0 h1 hf)
def f_Street_hasRoomFor (a0 : Nat) (v1 : Int32) (D : Dt) : Option (Int32 × Dt) :=
  (if 60 < ((D a0 4) + v1) then some (0, D) else some (1, D))
set_option maxHeartbeats 4000000 in
theorem te_Street_hasRoomFor {Γ : GmT} {G : Dt → Nat → List (Nat × Value) → List Value → Prop} {rr : Int32} {DD : Dt} {a0 : Nat} (C : Cx Γ "RiverTuesdays$Street" b_Street_hasRoomFor 2 1 (some .boolean) (some (.int rr)) DD G) (h0 : kd a0 = 4) {v1 : Int32} {D : Dt} (hf : f_Street_hasRoomFor a0 v1 D = some (rr, DD)) : G D 0 [(0, .ref (Γ.2.1 a0)), (1, .int v1)] [] := by
  unfold f_Street_hasRoomFor at hf
  refine r_aload_n (pc := 0) C 0 d_Street_hasRoomFor_0 rfl rfl ?_
  refine g_Street_hours (pc := 1) C h0 Lf_Street_39 d_Street_hasRoomFor_1 ?_
  refine r_iload_n (pc := 4) C 1 d_Street_hasRoomFor_4 rfl rfl ?_
  refine r_iadd (pc := 5) C d_Street_hasRoomFor_5 ?_
  refine r_bipush (pc := 6) C (v := 60) d_Street_hasRoomFor_6 (by decide) ?_
  refine r_icmp_gt (pc := 8) C (tgt := 15) d_Street_hasRoomFor_8 (by decide) hf (fun c8 hf => ?_) (fun c8 hf => ?_)
  · refine r_iconst (pc := 15) C (v := 0) d_Street_hasRoomFor_15 (by decide) ?_
    exact r_zret (pc := 16) C d_Street_hasRoomFor_16 rfl hf
  · refine r_iconst (pc := 11) C (v := 1) d_Street_hasRoomFor_11 (by decide) ?_
    refine r_goto (pc := 12) C (tgt := 16) d_Street_hasRoomFor_12 (by decide) ?_
    exact r_zret (pc := 16) C d_Street_hasRoomFor_16 rfl hf
theorem c_Street_hasRoomFor (Γ : GmT) {a0 : Nat} {v1 : Int32} (h0 : kd a0 = 4) {D : Dt} {rr : Int32} {DD : Dt} (hf : f_Street_hasRoomFor a0 v1 D = some (rr, DD)) : Mt Γ y_Street_hasRoomFor b_Street_hasRoomFor 2 (some .boolean) 1 [.ref (Γ.2.1 a0), .int v1] D (some (.int rr)) DD := Mt_of (by decide) (Nat.le_of_ble_eq_true rfl) (fun G C => te_Street_hasRoomFor C h0 hf)
def f_Street_pass (a0 : Nat) (v1 : Int32) (D : Dt) : Option (Unit × Dt) :=
  bnd (f_Waters_saveTo (a0 + 7) (a0 + 13) ((D a0 4) * 26) D) (fun x1 D2 => (if inb (D2 a0 4) 60 = true then nm (wr D2 (a0 + 14) (D2 a0 4).toNatClampNeg v1) (fun D3 => nm (wr D3 a0 4 ((D3 a0 4) + 1)) (fun D4 => bnd (f_Waters_pass (a0 + 7) (a0 + 1) v1 D4) (fun x5 D6 => some ((), D6)))) else none))
set_option maxHeartbeats 4000000 in
theorem te_Street_pass {Γ : GmT} {G : Dt → Nat → List (Nat × Value) → List Value → Prop} {rr : Unit} {DD : Dt} {a0 : Nat} (C : Cx Γ "RiverTuesdays$Street" b_Street_pass 2 4 none none DD G) (h0 : kd a0 = 4) {v1 : Int32} {D : Dt} (hf : f_Street_pass a0 v1 D = some (rr, DD)) : G D 0 [(0, .ref (Γ.2.1 a0)), (1, .int v1)] [] := by
  unfold f_Street_pass at hf
  refine r_aload_n (pc := 0) C 0 d_Street_pass_0 rfl rfl ?_
  refine g_Street_now (pc := 1) C h0 Lf_Street_21 d_Street_pass_1 ?_
  refine r_aload_n (pc := 4) C 0 d_Street_pass_4 rfl rfl ?_
  refine g_Street_past (pc := 5) C h0 Lf_Street_25 d_Street_pass_5 ?_
  refine r_aload_n (pc := 8) C 0 d_Street_pass_8 rfl rfl ?_
  refine g_Street_hours (pc := 9) C h0 Lf_Street_39 d_Street_pass_9 ?_
  refine r_bipush (pc := 12) C (v := 26) d_Street_pass_12 (by decide) ?_
  refine r_imul (pc := 14) C d_Street_pass_14 ?_
  refine r_callVv (pc := 15) (As := [.ref (Γ.2.1 (a0 + 13)), .int ((D a0 4) * 26)]) (rest := []) C ok_Waters_saveTo Lm_Street_52 (kq_Street_now h0) (by decide) ⟨by decide, by decide⟩ rfl rfl (Nat.le_of_ble_eq_true rfl) d_Street_pass_15 hf (fun x D1 hc => c_Waters_saveTo Γ (kq_Street_now h0) ((kq_Street_past h0)).1 hc) (fun x1 D2 hf => ?_)
  refine r_aload_n (pc := 18) C 0 d_Street_pass_18 rfl rfl ?_
  refine g_Street_openBit (pc := 19) C h0 Lf_Street_29 d_Street_pass_19 ?_
  refine r_aload_n (pc := 22) C 0 d_Street_pass_22 rfl rfl ?_
  refine g_Street_hours (pc := 23) C h0 Lf_Street_39 d_Street_pass_23 ?_
  refine r_iload_n (pc := 26) C 1 d_Street_pass_26 rfl rfl ?_
  refine r_iast (pc := 27) C (kq_Street_openBit h0) d_Street_pass_27 hf (fun hf => ?_)
  refine r_nmD hf (fun D3 hf => ?_)
  refine r_aload_n (pc := 28) C 0 d_Street_pass_28 rfl rfl ?_
  refine r_dup (pc := 29) C d_Street_pass_29 rfl ?_
  refine g_Street_hours (pc := 30) C h0 Lf_Street_39 d_Street_pass_30 ?_
  refine r_iconst (pc := 33) C (v := 1) d_Street_pass_33 (by decide) ?_
  refine r_iadd (pc := 34) C d_Street_pass_34 ?_
  refine p_Street_hours (pc := 35) C h0 Lf_Street_39 d_Street_pass_35 ?_
  refine r_nmD hf (fun D4 hf => ?_)
  refine r_aload_n (pc := 38) C 0 d_Street_pass_38 rfl rfl ?_
  refine g_Street_now (pc := 39) C h0 Lf_Street_21 d_Street_pass_39 ?_
  refine r_aload_n (pc := 42) C 0 d_Street_pass_42 rfl rfl ?_
  refine g_Street_bed (pc := 43) C h0 Lf_Street_12 d_Street_pass_43 ?_
  refine r_iload_n (pc := 46) C 1 d_Street_pass_46 rfl rfl ?_
  refine r_callVv (pc := 47) (As := [.ref (Γ.2.1 (a0 + 1)), .int v1]) (rest := []) C ok_Waters_pass Lm_Street_56 (kq_Street_now h0) (by decide) ⟨by decide, by decide⟩ rfl rfl (Nat.le_of_ble_eq_true rfl) d_Street_pass_47 hf (fun x D1 hc => c_Waters_pass Γ (kq_Street_now h0) (kq_Street_bed h0) hc) (fun x5 D6 hf => ?_)
  exact r_vret (pc := 50) C d_Street_pass_50 hf
theorem c_Street_pass (Γ : GmT) {a0 : Nat} {v1 : Int32} (h0 : kd a0 = 4) {D : Dt} {rr : Unit} {DD : Dt} (hf : f_Street_pass a0 v1 D = some (rr, DD)) : Mt Γ y_Street_pass b_Street_pass 2 none 4 [.ref (Γ.2.1 a0), .int v1] D none DD := Mt_of (by decide) (Nat.le_of_ble_eq_true rfl) (fun G C => te_Street_pass C h0 hf)
def f_Street_goBack (a0 : Nat) (v1 : Int32) (D : Dt) : Option (Int32 × Dt) :=
  (if ((D a0 4) - v1) ≤ 0 then some ((D a0 4) - v1, D) else bnd (f_Waters_loadFrom (a0 + 7) (a0 + 13) (v1 * 26) D) (fun x1 D2 => nm (wr D2 a0 4 v1) (fun D3 => some ((D a0 4) - v1, D3))))
set_option maxHeartbeats 4000000 in
theorem te_Street_goBack {Γ : GmT} {G : Dt → Nat → List (Nat × Value) → List Value → Prop} {rr : Int32} {DD : Dt} {a0 : Nat} (C : Cx Γ "RiverTuesdays$Street" b_Street_goBack 3 3 (some .int) (some (.int rr)) DD G) (h0 : kd a0 = 4) {v1 : Int32} {D : Dt} (hf : f_Street_goBack a0 v1 D = some (rr, DD)) : G D 0 [(0, .ref (Γ.2.1 a0)), (1, .int v1)] [] := by
  unfold f_Street_goBack at hf
  refine r_aload_n (pc := 0) C 0 d_Street_goBack_0 rfl rfl ?_
  refine g_Street_hours (pc := 1) C h0 Lf_Street_39 d_Street_goBack_1 ?_
  refine r_iload_n (pc := 4) C 1 d_Street_goBack_4 rfl rfl ?_
  refine r_isub (pc := 5) C d_Street_goBack_5 ?_
  refine r_istore_n (pc := 6) (lv' := [(2, .int ((D a0 4) - v1)), (0, .ref (Γ.2.1 a0)), (1, .int v1)]) C d_Street_goBack_6 rfl (Nat.le_of_ble_eq_true rfl) rfl ?_
  refine r_iload_n (pc := 7) C 0 d_Street_goBack_7 rfl rfl ?_
  refine r_if_le (pc := 8) C (tgt := 31) d_Street_goBack_8 (by decide) hf (fun c8 hf => ?_) (fun c8 hf => ?_)
  · refine r_iload_n (pc := 31) C 0 d_Street_goBack_31 rfl rfl ?_
    exact r_iret (pc := 32) C d_Street_goBack_32 hf
  · refine r_aload_n (pc := 11) C 1 d_Street_goBack_11 rfl rfl ?_
    refine g_Street_now (pc := 12) C h0 Lf_Street_21 d_Street_goBack_12 ?_
    refine r_aload_n (pc := 15) C 1 d_Street_goBack_15 rfl rfl ?_
    refine g_Street_past (pc := 16) C h0 Lf_Street_25 d_Street_goBack_16 ?_
    refine r_iload_n (pc := 19) C 2 d_Street_goBack_19 rfl rfl ?_
    refine r_bipush (pc := 20) C (v := 26) d_Street_goBack_20 (by decide) ?_
    refine r_imul (pc := 22) C d_Street_goBack_22 ?_
    refine r_callVv (pc := 23) (As := [.ref (Γ.2.1 (a0 + 13)), .int (v1 * 26)]) (rest := []) C ok_Waters_loadFrom Lm_Street_60 (kq_Street_now h0) (by decide) ⟨by decide, by decide⟩ rfl rfl (Nat.le_of_ble_eq_true rfl) d_Street_goBack_23 hf (fun x D1 hc => c_Waters_loadFrom Γ (kq_Street_now h0) ((kq_Street_past h0)).1 hc) (fun x1 D2 hf => ?_)
    refine r_aload_n (pc := 26) C 1 d_Street_goBack_26 rfl rfl ?_
    refine r_iload_n (pc := 27) C 2 d_Street_goBack_27 rfl rfl ?_
    refine p_Street_hours (pc := 28) C h0 Lf_Street_39 d_Street_goBack_28 ?_
    refine r_nmD hf (fun D3 hf => ?_)
    refine r_iload_n (pc := 31) C 0 d_Street_goBack_31 rfl rfl ?_
    exact r_iret (pc := 32) C d_Street_goBack_32 hf
theorem c_Street_goBack (Γ : GmT) {a0 : Nat} {v1 : Int32} (h0 : kd a0 = 4) {D : Dt} {rr : Int32} {DD : Dt} (hf : f_Street_goBack a0 v1 D = some (rr, DD)) : Mt Γ y_Street_goBack b_Street_goBack 3 (some .int) 3 [.ref (Γ.2.1 a0), .int v1] D (some (.int rr)) DD := Mt_of (by decide) (Nat.le_of_ble_eq_true rfl) (fun G C => te_Street_goBack C h0 hf)
def f_Street_ofHouse (a0 : Nat) (v1 : Int32) (v2 : Int32) (D : Dt) : Option (Int32 × Dt) :=
  (if v2 = 0 then (if inb v1 8 = true then some (D ((a0 + 1) + 1) v1.toNatClampNeg, D) else none) else (if v2 = 1 then (if inb v1 8 = true then some (D ((a0 + 1) + 2) v1.toNatClampNeg, D) else none) else (if v2 = 2 then (if inb v1 8 = true then some (D ((a0 + 1) + 3) v1.toNatClampNeg, D) else none) else (if v2 = 3 then (if inb v1 8 = true then some (D ((a0 + 1) + 4) v1.toNatClampNeg, D) else none) else (if v2 = 4 then (if inb v1 8 = true then some (D ((a0 + 7) + 1) v1.toNatClampNeg, D) else none) else (if v2 = 5 then (if inb v1 8 = true then some (D ((a0 + 7) + 2) v1.toNatClampNeg, D) else none) else (if inb v1 8 = true then some (D ((a0 + 7) + 3) v1.toNatClampNeg, D) else none)))))))
set_option maxHeartbeats 4000000 in
theorem te_Street_ofHouse {Γ : GmT} {G : Dt → Nat → List (Nat × Value) → List Value → Prop} {rr : Int32} {DD : Dt} {a0 : Nat} (C : Cx Γ "RiverTuesdays$Street" b_Street_ofHouse 3 1 (some .int) (some (.int rr)) DD G) (h0 : kd a0 = 4) {v1 : Int32} {v2 : Int32} {D : Dt} (hf : f_Street_ofHouse a0 v1 v2 D = some (rr, DD)) : G D 0 [(0, .ref (Γ.2.1 a0)), (1, .int v1), (2, .int v2)] [] := by
  unfold f_Street_ofHouse at hf
  refine r_iload_n (pc := 0) C 2 d_Street_ofHouse_0 rfl rfl ?_
  by_cases q1_0 : v2 = 0
  · rw [if_pos q1_0] at hf
    refine r_tsK (pc := 1) (tgt := 40) C q1_0 d_Street_ofHouse_1 (by decide) (by decide) (off := 39) (by decide) (by decide) ?_
    refine r_aload_n (pc := 40) C 0 d_Street_ofHouse_40 rfl rfl ?_
    refine g_Street_bed (pc := 41) C h0 Lf_Street_12 d_Street_ofHouse_41 ?_
    refine g_Bed_kinds (pc := 44) C (kq_Street_bed h0) Lf_Street_63 d_Street_ofHouse_44 ?_
    refine r_iload_n (pc := 47) C 1 d_Street_ofHouse_47 rfl rfl ?_
    refine r_iald (pc := 48) C (kq_Bed_kinds (kq_Street_bed h0)) d_Street_ofHouse_48 hf (fun hf => ?_)
    exact r_iret (pc := 49) C d_Street_ofHouse_49 hf
  rw [if_neg q1_0] at hf
  by_cases q1_1 : v2 = 1
  · rw [if_pos q1_1] at hf
    refine r_tsK (pc := 1) (tgt := 50) C q1_1 d_Street_ofHouse_1 (by decide) (by decide) (off := 49) (by decide) (by decide) ?_
    refine r_aload_n (pc := 50) C 0 d_Street_ofHouse_50 rfl rfl ?_
    refine g_Street_bed (pc := 51) C h0 Lf_Street_12 d_Street_ofHouse_51 ?_
    refine g_Bed_ground (pc := 54) C (kq_Street_bed h0) Lf_Street_66 d_Street_ofHouse_54 ?_
    refine r_iload_n (pc := 57) C 1 d_Street_ofHouse_57 rfl rfl ?_
    refine r_iald (pc := 58) C (kq_Bed_ground (kq_Street_bed h0)) d_Street_ofHouse_58 hf (fun hf => ?_)
    exact r_iret (pc := 59) C d_Street_ofHouse_59 hf
  rw [if_neg q1_1] at hf
  by_cases q1_2 : v2 = 2
  · rw [if_pos q1_2] at hf
    refine r_tsK (pc := 1) (tgt := 60) C q1_2 d_Street_ofHouse_1 (by decide) (by decide) (off := 59) (by decide) (by decide) ?_
    refine r_aload_n (pc := 60) C 0 d_Street_ofHouse_60 rfl rfl ?_
    refine g_Street_bed (pc := 61) C h0 Lf_Street_12 d_Street_ofHouse_61 ?_
    refine g_Bed_height (pc := 64) C (kq_Street_bed h0) Lf_Street_69 d_Street_ofHouse_64 ?_
    refine r_iload_n (pc := 67) C 1 d_Street_ofHouse_67 rfl rfl ?_
    refine r_iald (pc := 68) C (kq_Bed_height (kq_Street_bed h0)) d_Street_ofHouse_68 hf (fun hf => ?_)
    exact r_iret (pc := 69) C d_Street_ofHouse_69 hf
  rw [if_neg q1_2] at hf
  by_cases q1_3 : v2 = 3
  · rw [if_pos q1_3] at hf
    refine r_tsK (pc := 1) (tgt := 70) C q1_3 d_Street_ofHouse_1 (by decide) (by decide) (off := 69) (by decide) (by decide) ?_
    refine r_aload_n (pc := 70) C 0 d_Street_ofHouse_70 rfl rfl ?_
    refine g_Street_bed (pc := 71) C h0 Lf_Street_12 d_Street_ofHouse_71 ?_
    refine g_Bed_cellar (pc := 74) C (kq_Street_bed h0) Lf_Street_72 d_Street_ofHouse_74 ?_
    refine r_iload_n (pc := 77) C 1 d_Street_ofHouse_77 rfl rfl ?_
    refine r_iald (pc := 78) C (kq_Bed_cellar (kq_Street_bed h0)) d_Street_ofHouse_78 hf (fun hf => ?_)
    exact r_iret (pc := 79) C d_Street_ofHouse_79 hf
  rw [if_neg q1_3] at hf
  by_cases q1_4 : v2 = 4
  · rw [if_pos q1_4] at hf
    refine r_tsK (pc := 1) (tgt := 80) C q1_4 d_Street_ofHouse_1 (by decide) (by decide) (off := 79) (by decide) (by decide) ?_
    refine r_aload_n (pc := 80) C 0 d_Street_ofHouse_80 rfl rfl ?_
    refine g_Street_now (pc := 81) C h0 Lf_Street_21 d_Street_ofHouse_81 ?_
    refine g_Waters_ahead (pc := 84) C (kq_Street_now h0) Lf_Street_75 d_Street_ofHouse_84 ?_
    refine r_iload_n (pc := 87) C 1 d_Street_ofHouse_87 rfl rfl ?_
    refine r_iald (pc := 88) C (kq_Waters_ahead (kq_Street_now h0)) d_Street_ofHouse_88 hf (fun hf => ?_)
    exact r_iret (pc := 89) C d_Street_ofHouse_89 hf
  rw [if_neg q1_4] at hf
  by_cases q1_5 : v2 = 5
  · rw [if_pos q1_5] at hf
    refine r_tsK (pc := 1) (tgt := 90) C q1_5 d_Street_ofHouse_1 (by decide) (by decide) (off := 89) (by decide) (by decide) ?_
    refine r_aload_n (pc := 90) C 0 d_Street_ofHouse_90 rfl rfl ?_
    refine g_Street_now (pc := 91) C h0 Lf_Street_21 d_Street_ofHouse_91 ?_
    refine g_Waters_below (pc := 94) C (kq_Street_now h0) Lf_Street_78 d_Street_ofHouse_94 ?_
    refine r_iload_n (pc := 97) C 1 d_Street_ofHouse_97 rfl rfl ?_
    refine r_iald (pc := 98) C (kq_Waters_below (kq_Street_now h0)) d_Street_ofHouse_98 hf (fun hf => ?_)
    exact r_iret (pc := 99) C d_Street_ofHouse_99 hf
  rw [if_neg q1_5] at hf
  refine r_tsD (pc := 1) (tgt := 100) C [0, 1, 2, 3, 4, 5] (by simp only [List.mem_cons, List.not_mem_nil, not_or, or_false]; exact ⟨q1_0, q1_1, q1_2, q1_3, q1_4, q1_5⟩) d_Street_ofHouse_1 (by decide) (by decide) (by decide) ?_
  refine r_aload_n (pc := 100) C 0 d_Street_ofHouse_100 rfl rfl ?_
  refine g_Street_now (pc := 101) C h0 Lf_Street_21 d_Street_ofHouse_101 ?_
  refine g_Waters_flour (pc := 104) C (kq_Street_now h0) Lf_Street_81 d_Street_ofHouse_104 ?_
  refine r_iload_n (pc := 107) C 1 d_Street_ofHouse_107 rfl rfl ?_
  refine r_iald (pc := 108) C (kq_Waters_flour (kq_Street_now h0)) d_Street_ofHouse_108 hf (fun hf => ?_)
  exact r_iret (pc := 109) C d_Street_ofHouse_109 hf
theorem c_Street_ofHouse (Γ : GmT) {a0 : Nat} {v1 : Int32} {v2 : Int32} (h0 : kd a0 = 4) {D : Dt} {rr : Int32} {DD : Dt} (hf : f_Street_ofHouse a0 v1 v2 D = some (rr, DD)) : Mt Γ y_Street_ofHouse b_Street_ofHouse 3 (some .int) 1 [.ref (Γ.2.1 a0), .int v1, .int v2] D (some (.int rr)) DD := Mt_of (by decide) (Nat.le_of_ble_eq_true rfl) (fun G C => te_Street_ofHouse C h0 hf)
def s_Street_foldedInto_166 (a0 : Nat) (k166 : Int64 → Int32 → Dt → Option (Int64 × Dt)) (v1 : Int64) (v4 : Int32) (D : Dt) : Option (Int64 × Dt) :=
  (if (D a0 4) ≤ v4 then some (v1, D) else (if inb v4 60 = true then nm ((31 * v1) + ((D (a0 + 14) v4.toNatClampNeg).toInt64)) (fun x3 => k166 x3 (v4 + 1) D) else none))
def lp_Street_foldedInto_166 (a0 : Nat) (n : Nat) : Int64 → Int32 → Dt → Option (Int64 × Dt) := itr (fun _ _ _ => none) (s_Street_foldedInto_166 a0) n
set_option maxHeartbeats 4000000 in
theorem ts_Street_foldedInto_166 {Γ : GmT} {G : Dt → Nat → List (Nat × Value) → List Value → Prop} {rr : Int64} {DD : Dt} {a0 : Nat} (C : Cx Γ "RiverTuesdays$Street" b_Street_foldedInto 6 2 (some .long) (some (.long rr)) DD G) (h0 : kd a0 = 4) {k166 : Int64 → Int32 → Dt → Option (Int64 × Dt)} (hk166 : ∀ (v1 : Int64) (v4 : Int32) (D : Dt), k166 v1 v4 D = some (rr, DD) → G D 166 [(0, .ref (Γ.2.1 a0)), (1, .long v1), (4, .int v4)] []) {v1 : Int64} {v4 : Int32} {D : Dt} (hf : s_Street_foldedInto_166 a0 k166 v1 v4 D = some (rr, DD)) : G D 166 [(0, .ref (Γ.2.1 a0)), (1, .long v1), (4, .int v4)] [] := by
  unfold s_Street_foldedInto_166 at hf
  refine r_iload (pc := 166) C 2 d_Street_foldedInto_166 rfl ?_
  refine r_aload_n (pc := 168) C 0 d_Street_foldedInto_168 rfl rfl ?_
  refine g_Street_hours (pc := 169) C h0 Lf_Street_39 d_Street_foldedInto_169 ?_
  refine r_icmp_ge (pc := 172) C (tgt := 196) d_Street_foldedInto_172 (by decide) hf (fun c172 hf => ?_) (fun c172 hf => ?_)
  · refine r_lload_n (pc := 196) C 1 d_Street_foldedInto_196 rfl rfl ?_
    exact r_lret (pc := 197) C d_Street_foldedInto_197 hf
  · refine r_ldc2 (pc := 175) C Lc_Street_87 d_Street_foldedInto_175 ?_
    refine r_lload_n (pc := 178) C 1 d_Street_foldedInto_178 rfl rfl ?_
    refine r_lmul (pc := 179) C d_Street_foldedInto_179 ?_
    refine r_aload_n (pc := 180) C 0 d_Street_foldedInto_180 rfl rfl ?_
    refine g_Street_openBit (pc := 181) C h0 Lf_Street_29 d_Street_foldedInto_181 ?_
    refine r_iload (pc := 184) C 2 d_Street_foldedInto_184 rfl ?_
    refine r_iald (pc := 186) C (kq_Street_openBit h0) d_Street_foldedInto_186 hf (fun hf => ?_)
    refine r_i2l (pc := 187) C d_Street_foldedInto_187 ?_
    refine r_ladd (pc := 188) C d_Street_foldedInto_188 ?_
    refine r_nml (pc := 189) hf (fun x3 hf => ?_)
    refine r_lstore_n (pc := 189) (lv' := [(1, .long x3), (0, .ref (Γ.2.1 a0)), (4, .int v4)]) C d_Street_foldedInto_189 rfl (Nat.le_of_ble_eq_true rfl) rfl ?_
    refine r_iinc (pc := 190) C (v := v4 + 1) (lv' := [(4, .int (v4 + 1)), (1, .long x3), (0, .ref (Γ.2.1 a0))]) 2 d_Street_foldedInto_190 rfl rfl (Nat.le_of_ble_eq_true rfl) rfl ?_
    refine r_goto (pc := 193) C (tgt := 166) d_Street_foldedInto_193 (by decide) ?_
    exact r_lv (pc := 166) C [2, 1, 0] rfl (hk166 x3 (v4 + 1) D hf)
theorem tl_Street_foldedInto_166 {Γ : GmT} {G : Dt → Nat → List (Nat × Value) → List Value → Prop} {rr : Int64} {DD : Dt} {a0 : Nat} (C : Cx Γ "RiverTuesdays$Street" b_Street_foldedInto 6 2 (some .long) (some (.long rr)) DD G) (h0 : kd a0 = 4) : ∀ (n : Nat) (v1 : Int64) (v4 : Int32) (D : Dt), lp_Street_foldedInto_166 a0 n v1 v4 D = some (rr, DD) → G D 166 [(0, .ref (Γ.2.1 a0)), (1, .long v1), (4, .int v4)] [] := by
  intro n
  induction n with
  | zero =>
    intro v1 v4 D hf
    exact absurd (show (none : Option (Int64 × Dt)) = some (rr, DD) from hf) (by simp)
  | succ n ih =>
    intro v1 v4 D hf
    exact ts_Street_foldedInto_166 C h0 (k166 := lp_Street_foldedInto_166 a0 n) ih hf
def s_Street_foldedInto_110 (a0 : Nat) (k95 : Int64 → Int32 → Dt → Option (Int64 × Dt)) (k110 : Int64 → Int32 → Int32 → Dt → Option (Int64 × Dt)) (v1 : Int64) (v4 : Int32) (v5 : Int32) (D : Dt) : Option (Int64 × Dt) :=
  (if 6 < v5 then (if inb v4 8 = true then nm ((31 * v1) + ((D ((a0 + 1) + 5) v4.toNatClampNeg).toInt64)) (fun x4 => k95 x4 (v4 + 1) D) else none) else bnd (f_Street_ofHouse a0 v4 v5 D) (fun x5 D6 => k110 ((31 * v1) + (x5.toInt64)) v4 (v5 + 1) D6))
def lp_Street_foldedInto_110 (a0 : Nat) (k95 : Int64 → Int32 → Dt → Option (Int64 × Dt)) (n : Nat) : Int64 → Int32 → Int32 → Dt → Option (Int64 × Dt) := itr (fun _ _ _ _ => none) (s_Street_foldedInto_110 a0 k95) n
set_option maxHeartbeats 4000000 in
theorem ts_Street_foldedInto_110 {Γ : GmT} {G : Dt → Nat → List (Nat × Value) → List Value → Prop} {rr : Int64} {DD : Dt} {a0 : Nat} (C : Cx Γ "RiverTuesdays$Street" b_Street_foldedInto 6 2 (some .long) (some (.long rr)) DD G) (h0 : kd a0 = 4) {k95 : Int64 → Int32 → Dt → Option (Int64 × Dt)} (hk95 : ∀ (v1 : Int64) (v4 : Int32) (D : Dt), k95 v1 v4 D = some (rr, DD) → G D 95 [(0, .ref (Γ.2.1 a0)), (1, .long v1), (4, .int v4)] []) {k110 : Int64 → Int32 → Int32 → Dt → Option (Int64 × Dt)} (hk110 : ∀ (v1 : Int64) (v4 : Int32) (v5 : Int32) (D : Dt), k110 v1 v4 v5 D = some (rr, DD) → G D 110 [(0, .ref (Γ.2.1 a0)), (1, .long v1), (4, .int v4), (5, .int v5)] []) {v1 : Int64} {v4 : Int32} {v5 : Int32} {D : Dt} (hf : s_Street_foldedInto_110 a0 k95 k110 v1 v4 v5 D = some (rr, DD)) : G D 110 [(0, .ref (Γ.2.1 a0)), (1, .long v1), (4, .int v4), (5, .int v5)] [] := by
  unfold s_Street_foldedInto_110 at hf
  refine r_iload (pc := 110) C 3 d_Street_foldedInto_110 rfl ?_
  refine r_bipush (pc := 112) C (v := 6) d_Street_foldedInto_112 (by decide) ?_
  refine r_icmp_gt (pc := 114) C (tgt := 139) d_Street_foldedInto_114 (by decide) hf (fun c114 hf => ?_) (fun c114 hf => ?_)
  · refine r_ldc2 (pc := 139) C Lc_Street_87 d_Street_foldedInto_139 ?_
    refine r_lload_n (pc := 142) C 1 d_Street_foldedInto_142 rfl rfl ?_
    refine r_lmul (pc := 143) C d_Street_foldedInto_143 ?_
    refine r_aload_n (pc := 144) C 0 d_Street_foldedInto_144 rfl rfl ?_
    refine g_Street_bed (pc := 145) C h0 Lf_Street_12 d_Street_foldedInto_145 ?_
    refine g_Bed_shutBit (pc := 148) C (kq_Street_bed h0) Lf_Street_105 d_Street_foldedInto_148 ?_
    refine r_iload (pc := 151) C 2 d_Street_foldedInto_151 rfl ?_
    refine r_iald (pc := 153) C (kq_Bed_shutBit (kq_Street_bed h0)) d_Street_foldedInto_153 hf (fun hf => ?_)
    refine r_i2l (pc := 154) C d_Street_foldedInto_154 ?_
    refine r_ladd (pc := 155) C d_Street_foldedInto_155 ?_
    refine r_nml (pc := 156) hf (fun x4 hf => ?_)
    refine r_lstore_n (pc := 156) (lv' := [(1, .long x4), (0, .ref (Γ.2.1 a0)), (4, .int v4), (5, .int v5)]) C d_Street_foldedInto_156 rfl (Nat.le_of_ble_eq_true rfl) rfl ?_
    refine r_iinc (pc := 157) C (v := v4 + 1) (lv' := [(4, .int (v4 + 1)), (1, .long x4), (0, .ref (Γ.2.1 a0)), (5, .int v5)]) 2 d_Street_foldedInto_157 rfl rfl (Nat.le_of_ble_eq_true rfl) rfl ?_
    refine r_goto (pc := 160) C (tgt := 95) d_Street_foldedInto_160 (by decide) ?_
    exact r_lv (pc := 95) C [2, 1, 0] rfl (hk95 x4 (v4 + 1) D hf)
  · refine r_ldc2 (pc := 117) C Lc_Street_87 d_Street_foldedInto_117 ?_
    refine r_lload_n (pc := 120) C 1 d_Street_foldedInto_120 rfl rfl ?_
    refine r_lmul (pc := 121) C d_Street_foldedInto_121 ?_
    refine r_aload_n (pc := 122) C 0 d_Street_foldedInto_122 rfl rfl ?_
    refine r_iload (pc := 123) C 2 d_Street_foldedInto_123 rfl ?_
    refine r_iload (pc := 125) C 3 d_Street_foldedInto_125 rfl ?_
    refine r_callVi (pc := 127) (As := [.int v4, .int v5]) (rest := [.long (31 * v1)]) C ok_Street_ofHouse Lm_Street_101 h0 (by decide) ⟨by decide, by decide⟩ rfl rfl (Nat.le_of_ble_eq_true rfl) d_Street_foldedInto_127 hf (fun x D1 hc => c_Street_ofHouse Γ h0 hc) (fun x5 D6 hf => ?_)
    refine r_i2l (pc := 130) C d_Street_foldedInto_130 ?_
    refine r_ladd (pc := 131) C d_Street_foldedInto_131 ?_
    refine r_lstore_n (pc := 132) (lv' := [(1, .long ((31 * v1) + (x5.toInt64))), (0, .ref (Γ.2.1 a0)), (4, .int v4), (5, .int v5)]) C d_Street_foldedInto_132 rfl (Nat.le_of_ble_eq_true rfl) rfl ?_
    refine r_iinc (pc := 133) C (v := v5 + 1) (lv' := [(5, .int (v5 + 1)), (1, .long ((31 * v1) + (x5.toInt64))), (0, .ref (Γ.2.1 a0)), (4, .int v4)]) 3 d_Street_foldedInto_133 rfl rfl (Nat.le_of_ble_eq_true rfl) rfl ?_
    refine r_goto (pc := 136) C (tgt := 110) d_Street_foldedInto_136 (by decide) ?_
    exact r_lv (pc := 110) C [2, 1, 3, 0] rfl (hk110 ((31 * v1) + (x5.toInt64)) v4 (v5 + 1) D6 hf)
theorem tl_Street_foldedInto_110 {Γ : GmT} {G : Dt → Nat → List (Nat × Value) → List Value → Prop} {rr : Int64} {DD : Dt} {a0 : Nat} (C : Cx Γ "RiverTuesdays$Street" b_Street_foldedInto 6 2 (some .long) (some (.long rr)) DD G) (h0 : kd a0 = 4) {k95 : Int64 → Int32 → Dt → Option (Int64 × Dt)} (hk95 : ∀ (v1 : Int64) (v4 : Int32) (D : Dt), k95 v1 v4 D = some (rr, DD) → G D 95 [(0, .ref (Γ.2.1 a0)), (1, .long v1), (4, .int v4)] []) : ∀ (n : Nat) (v1 : Int64) (v4 : Int32) (v5 : Int32) (D : Dt), lp_Street_foldedInto_110 a0 k95 n v1 v4 v5 D = some (rr, DD) → G D 110 [(0, .ref (Γ.2.1 a0)), (1, .long v1), (4, .int v4), (5, .int v5)] [] := by
  intro n
  induction n with
  | zero =>
    intro v1 v4 v5 D hf
    exact absurd (show (none : Option (Int64 × Dt)) = some (rr, DD) from hf) (by simp)
  | succ n ih =>
    intro v1 v4 v5 D hf
    exact ts_Street_foldedInto_110 C h0 hk95 (k110 := lp_Street_foldedInto_110 a0 k95 n) ih hf
def s_Street_foldedInto_95 (a0 : Nat) (k95 : Int64 → Int32 → Dt → Option (Int64 × Dt)) (v1 : Int64) (v4 : Int32) (D : Dt) : Option (Int64 × Dt) :=
  (if (D (a0 + 1) 5) ≤ v4 then lp_Street_foldedInto_166 a0 FU v1 0 D else lp_Street_foldedInto_110 a0 k95 FU v1 v4 0 D)
def lp_Street_foldedInto_95 (a0 : Nat) (n : Nat) : Int64 → Int32 → Dt → Option (Int64 × Dt) := itr (fun _ _ _ => none) (s_Street_foldedInto_95 a0) n
set_option maxHeartbeats 4000000 in
theorem ts_Street_foldedInto_95 {Γ : GmT} {G : Dt → Nat → List (Nat × Value) → List Value → Prop} {rr : Int64} {DD : Dt} {a0 : Nat} (C : Cx Γ "RiverTuesdays$Street" b_Street_foldedInto 6 2 (some .long) (some (.long rr)) DD G) (h0 : kd a0 = 4) {k95 : Int64 → Int32 → Dt → Option (Int64 × Dt)} (hk95 : ∀ (v1 : Int64) (v4 : Int32) (D : Dt), k95 v1 v4 D = some (rr, DD) → G D 95 [(0, .ref (Γ.2.1 a0)), (1, .long v1), (4, .int v4)] []) {v1 : Int64} {v4 : Int32} {D : Dt} (hf : s_Street_foldedInto_95 a0 k95 v1 v4 D = some (rr, DD)) : G D 95 [(0, .ref (Γ.2.1 a0)), (1, .long v1), (4, .int v4)] [] := by
  unfold s_Street_foldedInto_95 at hf
  refine r_iload (pc := 95) C 2 d_Street_foldedInto_95 rfl ?_
  refine r_aload_n (pc := 97) C 0 d_Street_foldedInto_97 rfl rfl ?_
  refine g_Street_bed (pc := 98) C h0 Lf_Street_12 d_Street_foldedInto_98 ?_
  refine g_Bed_houses (pc := 101) C (kq_Street_bed h0) Lf_Street_84 d_Street_foldedInto_101 ?_
  refine r_icmp_ge (pc := 104) C (tgt := 163) d_Street_foldedInto_104 (by decide) hf (fun c104 hf => ?_) (fun c104 hf => ?_)
  · refine r_iconst (pc := 163) C (v := 0) d_Street_foldedInto_163 (by decide) ?_
    refine r_istore (pc := 164) (lv' := [(4, .int 0), (0, .ref (Γ.2.1 a0)), (1, .long v1)]) C d_Street_foldedInto_164 (Nat.le_of_ble_eq_true rfl) rfl ?_
    exact r_lv (pc := 166) C [1, 2, 0] rfl (tl_Street_foldedInto_166 C h0 FU v1 0 D hf)
  · refine r_iconst (pc := 107) C (v := 0) d_Street_foldedInto_107 (by decide) ?_
    refine r_istore (pc := 108) (lv' := [(5, .int 0), (0, .ref (Γ.2.1 a0)), (1, .long v1), (4, .int v4)]) C d_Street_foldedInto_108 (Nat.le_of_ble_eq_true rfl) rfl ?_
    exact r_lv (pc := 110) C [1, 2, 3, 0] rfl (tl_Street_foldedInto_110 C h0 hk95 FU v1 v4 0 D hf)
theorem tl_Street_foldedInto_95 {Γ : GmT} {G : Dt → Nat → List (Nat × Value) → List Value → Prop} {rr : Int64} {DD : Dt} {a0 : Nat} (C : Cx Γ "RiverTuesdays$Street" b_Street_foldedInto 6 2 (some .long) (some (.long rr)) DD G) (h0 : kd a0 = 4) : ∀ (n : Nat) (v1 : Int64) (v4 : Int32) (D : Dt), lp_Street_foldedInto_95 a0 n v1 v4 D = some (rr, DD) → G D 95 [(0, .ref (Γ.2.1 a0)), (1, .long v1), (4, .int v4)] [] := by
  intro n
  induction n with
  | zero =>
    intro v1 v4 D hf
    exact absurd (show (none : Option (Int64 × Dt)) = some (rr, DD) from hf) (by simp)
  | succ n ih =>
    intro v1 v4 D hf
    exact ts_Street_foldedInto_95 C h0 (k95 := lp_Street_foldedInto_95 a0 n) ih hf
def b_Street_foldedInto_59 (a0 : Nat) (s0 : Int32) (s1 : Int64) (D : Dt) : Option (Int64 × Dt) :=
  nm ((31 * (s1 + (s0.toInt64))) + ((D (a0 + 7) 5).toInt64)) (fun x1 => nm ((31 * x1) + ((D (a0 + 7) 6).toInt64)) (fun x2 => lp_Street_foldedInto_95 a0 FU x2 0 D))
set_option maxHeartbeats 4000000 in
theorem tb_Street_foldedInto_59 {Γ : GmT} {G : Dt → Nat → List (Nat × Value) → List Value → Prop} {rr : Int64} {DD : Dt} {a0 : Nat} (C : Cx Γ "RiverTuesdays$Street" b_Street_foldedInto 6 2 (some .long) (some (.long rr)) DD G) (h0 : kd a0 = 4) {s0 : Int32} {s1 : Int64} {D : Dt} (hf : b_Street_foldedInto_59 a0 s0 s1 D = some (rr, DD)) : G D 59 [(0, .ref (Γ.2.1 a0))] [.int s0, .long s1] := by
  unfold b_Street_foldedInto_59 at hf
  refine r_i2l (pc := 59) C d_Street_foldedInto_59 ?_
  refine r_ladd (pc := 60) C d_Street_foldedInto_60 ?_
  refine r_lstore_n (pc := 61) (lv' := [(1, .long (s1 + (s0.toInt64))), (0, .ref (Γ.2.1 a0))]) C d_Street_foldedInto_61 rfl (Nat.le_of_ble_eq_true rfl) rfl ?_
  refine r_ldc2 (pc := 62) C Lc_Street_87 d_Street_foldedInto_62 ?_
  refine r_lload_n (pc := 65) C 0 d_Street_foldedInto_65 rfl rfl ?_
  refine r_lmul (pc := 66) C d_Street_foldedInto_66 ?_
  refine r_aload_n (pc := 67) C 1 d_Street_foldedInto_67 rfl rfl ?_
  refine g_Street_now (pc := 68) C h0 Lf_Street_21 d_Street_foldedInto_68 ?_
  refine g_Waters_in (pc := 71) C (kq_Street_now h0) Lf_Street_95 d_Street_foldedInto_71 ?_
  refine r_i2l (pc := 74) C d_Street_foldedInto_74 ?_
  refine r_ladd (pc := 75) C d_Street_foldedInto_75 ?_
  refine r_nml (pc := 76) hf (fun x1 hf => ?_)
  refine r_lstore_n (pc := 76) (lv' := [(1, .long x1), (0, .ref (Γ.2.1 a0))]) C d_Street_foldedInto_76 rfl (Nat.le_of_ble_eq_true rfl) rfl ?_
  refine r_ldc2 (pc := 77) C Lc_Street_87 d_Street_foldedInto_77 ?_
  refine r_lload_n (pc := 80) C 0 d_Street_foldedInto_80 rfl rfl ?_
  refine r_lmul (pc := 81) C d_Street_foldedInto_81 ?_
  refine r_aload_n (pc := 82) C 1 d_Street_foldedInto_82 rfl rfl ?_
  refine g_Street_now (pc := 83) C h0 Lf_Street_21 d_Street_foldedInto_83 ?_
  refine g_Waters_out (pc := 86) C (kq_Street_now h0) Lf_Street_98 d_Street_foldedInto_86 ?_
  refine r_i2l (pc := 89) C d_Street_foldedInto_89 ?_
  refine r_ladd (pc := 90) C d_Street_foldedInto_90 ?_
  refine r_nml (pc := 91) hf (fun x2 hf => ?_)
  refine r_lstore_n (pc := 91) (lv' := [(1, .long x2), (0, .ref (Γ.2.1 a0))]) C d_Street_foldedInto_91 rfl (Nat.le_of_ble_eq_true rfl) rfl ?_
  refine r_iconst (pc := 92) C (v := 0) d_Street_foldedInto_92 (by decide) ?_
  refine r_istore (pc := 93) (lv' := [(4, .int 0), (1, .long x2), (0, .ref (Γ.2.1 a0))]) C d_Street_foldedInto_93 (Nat.le_of_ble_eq_true rfl) rfl ?_
  exact r_lv (pc := 95) C [2, 1, 0] rfl (tl_Street_foldedInto_95 C h0 FU x2 0 D hf)
def b_Street_foldedInto_36 (a0 : Nat) (v3 : Int32) (s0 : Int32) (s1 : Int64) (D : Dt) : Option (Int64 × Dt) :=
  (if v3 = 0 then b_Street_foldedInto_59 a0 0 (31 * (s1 + (s0.toInt64))) D else b_Street_foldedInto_59 a0 (D (a0 + 1) 7) (31 * (s1 + (s0.toInt64))) D)
set_option maxHeartbeats 4000000 in
theorem tb_Street_foldedInto_36 {Γ : GmT} {G : Dt → Nat → List (Nat × Value) → List Value → Prop} {rr : Int64} {DD : Dt} {a0 : Nat} (C : Cx Γ "RiverTuesdays$Street" b_Street_foldedInto 6 2 (some .long) (some (.long rr)) DD G) (h0 : kd a0 = 4) {v3 : Int32} {s0 : Int32} {s1 : Int64} {D : Dt} (hf : b_Street_foldedInto_36 a0 v3 s0 s1 D = some (rr, DD)) : G D 36 [(0, .ref (Γ.2.1 a0)), (3, .int v3)] [.int s0, .long s1] := by
  unfold b_Street_foldedInto_36 at hf
  refine r_i2l (pc := 36) C d_Street_foldedInto_36 ?_
  refine r_ladd (pc := 37) C d_Street_foldedInto_37 ?_
  refine r_lstore_n (pc := 38) (lv' := [(1, .long (s1 + (s0.toInt64))), (0, .ref (Γ.2.1 a0)), (3, .int v3)]) C d_Street_foldedInto_38 rfl (Nat.le_of_ble_eq_true rfl) rfl ?_
  refine r_ldc2 (pc := 39) C Lc_Street_87 d_Street_foldedInto_39 ?_
  refine r_lload_n (pc := 42) C 0 d_Street_foldedInto_42 rfl rfl ?_
  refine r_lmul (pc := 43) C d_Street_foldedInto_43 ?_
  refine r_iload_n (pc := 44) C 2 d_Street_foldedInto_44 rfl rfl ?_
  refine r_if_eq (pc := 45) C (tgt := 58) d_Street_foldedInto_45 (by decide) hf (fun c45 hf => ?_) (fun c45 hf => ?_)
  · refine r_iconst (pc := 58) C (v := 0) d_Street_foldedInto_58 (by decide) ?_
    exact r_lv (pc := 59) C [1] rfl (tb_Street_foldedInto_59 C h0 hf)
  · refine r_aload_n (pc := 48) C 1 d_Street_foldedInto_48 rfl rfl ?_
    refine g_Street_bed (pc := 49) C h0 Lf_Street_12 d_Street_foldedInto_49 ?_
    refine g_Bed_sea (pc := 52) C (kq_Street_bed h0) Lf_Street_92 d_Street_foldedInto_52 ?_
    refine r_goto (pc := 55) C (tgt := 59) d_Street_foldedInto_55 (by decide) ?_
    exact r_lv (pc := 59) C [1] rfl (tb_Street_foldedInto_59 C h0 hf)
def b_Street_foldedInto_15 (a0 : Nat) (v1 : Int64) (s0 : Int32) (D : Dt) : Option (Int64 × Dt) :=
  (if s0 = 0 then b_Street_foldedInto_36 a0 s0 0 (31 * v1) D else b_Street_foldedInto_36 a0 s0 (D (a0 + 1) 6) (31 * v1) D)
set_option maxHeartbeats 4000000 in
theorem tb_Street_foldedInto_15 {Γ : GmT} {G : Dt → Nat → List (Nat × Value) → List Value → Prop} {rr : Int64} {DD : Dt} {a0 : Nat} (C : Cx Γ "RiverTuesdays$Street" b_Street_foldedInto 6 2 (some .long) (some (.long rr)) DD G) (h0 : kd a0 = 4) {v1 : Int64} {s0 : Int32} {D : Dt} (hf : b_Street_foldedInto_15 a0 v1 s0 D = some (rr, DD)) : G D 15 [(0, .ref (Γ.2.1 a0)), (1, .long v1)] [.int s0] := by
  unfold b_Street_foldedInto_15 at hf
  refine r_istore_n (pc := 15) (lv' := [(3, .int s0), (0, .ref (Γ.2.1 a0)), (1, .long v1)]) C d_Street_foldedInto_15 rfl (Nat.le_of_ble_eq_true rfl) rfl ?_
  refine r_ldc2 (pc := 16) C Lc_Street_87 d_Street_foldedInto_16 ?_
  refine r_lload_n (pc := 19) C 2 d_Street_foldedInto_19 rfl rfl ?_
  refine r_lmul (pc := 20) C d_Street_foldedInto_20 ?_
  refine r_iload_n (pc := 21) C 0 d_Street_foldedInto_21 rfl rfl ?_
  refine r_if_eq (pc := 22) C (tgt := 35) d_Street_foldedInto_22 (by decide) hf (fun c22 hf => ?_) (fun c22 hf => ?_)
  · refine r_iconst (pc := 35) C (v := 0) d_Street_foldedInto_35 (by decide) ?_
    exact r_lv (pc := 36) C [1, 0] rfl (tb_Street_foldedInto_36 C h0 hf)
  · refine r_aload_n (pc := 25) C 1 d_Street_foldedInto_25 rfl rfl ?_
    refine g_Street_bed (pc := 26) C h0 Lf_Street_12 d_Street_foldedInto_26 ?_
    refine g_Bed_inflow (pc := 29) C (kq_Street_bed h0) Lf_Street_89 d_Street_foldedInto_29 ?_
    refine r_goto (pc := 32) C (tgt := 36) d_Street_foldedInto_32 (by decide) ?_
    exact r_lv (pc := 36) C [1, 0] rfl (tb_Street_foldedInto_36 C h0 hf)
def f_Street_foldedInto (a0 : Nat) (v1 : Int64) (D : Dt) : Option (Int64 × Dt) :=
  (if (D (a0 + 1) 5) ≤ 0 then b_Street_foldedInto_15 a0 v1 0 D else b_Street_foldedInto_15 a0 v1 1 D)
set_option maxHeartbeats 4000000 in
theorem te_Street_foldedInto {Γ : GmT} {G : Dt → Nat → List (Nat × Value) → List Value → Prop} {rr : Int64} {DD : Dt} {a0 : Nat} (C : Cx Γ "RiverTuesdays$Street" b_Street_foldedInto 6 2 (some .long) (some (.long rr)) DD G) (h0 : kd a0 = 4) {v1 : Int64} {D : Dt} (hf : f_Street_foldedInto a0 v1 D = some (rr, DD)) : G D 0 [(0, .ref (Γ.2.1 a0)), (1, .long v1)] [] := by
  unfold f_Street_foldedInto at hf
  refine r_aload_n (pc := 0) C 0 d_Street_foldedInto_0 rfl rfl ?_
  refine g_Street_bed (pc := 1) C h0 Lf_Street_12 d_Street_foldedInto_1 ?_
  refine g_Bed_houses (pc := 4) C (kq_Street_bed h0) Lf_Street_84 d_Street_foldedInto_4 ?_
  refine r_if_le (pc := 7) C (tgt := 14) d_Street_foldedInto_7 (by decide) hf (fun c7 hf => ?_) (fun c7 hf => ?_)
  · refine r_iconst (pc := 14) C (v := 0) d_Street_foldedInto_14 (by decide) ?_
    exact r_lv (pc := 15) C [0, 1] rfl (tb_Street_foldedInto_15 C h0 hf)
  · refine r_iconst (pc := 10) C (v := 1) d_Street_foldedInto_10 (by decide) ?_
    refine r_goto (pc := 11) C (tgt := 15) d_Street_foldedInto_11 (by decide) ?_
    exact r_lv (pc := 15) C [0, 1] rfl (tb_Street_foldedInto_15 C h0 hf)
theorem c_Street_foldedInto (Γ : GmT) {a0 : Nat} {v1 : Int64} (h0 : kd a0 = 4) {D : Dt} {rr : Int64} {DD : Dt} (hf : f_Street_foldedInto a0 v1 D = some (rr, DD)) : Mt Γ y_Street_foldedInto b_Street_foldedInto 6 (some .long) 2 [.ref (Γ.2.1 a0), .long v1] D (some (.long rr)) DD := Mt_of (by decide) (Nat.le_of_ble_eq_true rfl) (fun G C => te_Street_foldedInto C h0 hf)
