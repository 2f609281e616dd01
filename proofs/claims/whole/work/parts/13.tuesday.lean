/-! 13.tuesday: printed by wip/whole/gen/gmeth.py out of the bytecode -/
abbrev b_Tuesday_begin : ByteArray := prog_8_method_2_code
abbrev y_Tuesday_begin : MethodName := ⟨"RiverTuesdays$Tuesday", "begin", "(LRiverTuesdays$Waters;)V"⟩
theorem ok_Tuesday_begin : okV y_Tuesday_begin b_Tuesday_begin 2 none 1 6 := ⟨mGW (List.mem_of_getElem? (i := 673) (by decide +kernel)) rfl, mGW (List.mem_of_getElem? (i := 674) (by decide +kernel)) rfl, mGW (List.mem_of_getElem? (i := 78) (by decide +kernel)) rfl, mGW (List.mem_of_getElem? (i := 675) (by decide +kernel)) rfl, ⟨by decide, by decide, by decide +kernel⟩, rfl⟩
theorem d_Tuesday_begin_0 : decode b_Tuesday_begin 0 = .ok (.aload_n 0, 1) := by decide +kernel
theorem d_Tuesday_begin_1 : decode b_Tuesday_begin 1 = .ok (.getfield 11, 3) := by decide +kernel
theorem d_Tuesday_begin_4 : decode b_Tuesday_begin 4 = .ok (.iconst 0, 1) := by decide +kernel
theorem d_Tuesday_begin_5 : decode b_Tuesday_begin 5 = .ok (.aaload, 1) := by decide +kernel
theorem d_Tuesday_begin_6 : decode b_Tuesday_begin 6 = .ok (.aload_n 1, 1) := by decide +kernel
theorem d_Tuesday_begin_7 : decode b_Tuesday_begin 7 = .ok (.invokevirtual 30, 3) := by decide +kernel
theorem d_Tuesday_begin_10 : decode b_Tuesday_begin 10 = .ok (.aload_n 0, 1) := by decide +kernel
theorem d_Tuesday_begin_11 : decode b_Tuesday_begin 11 = .ok (.iconst 0, 1) := by decide +kernel
theorem d_Tuesday_begin_12 : decode b_Tuesday_begin 12 = .ok (.putfield 34, 3) := by decide +kernel
theorem d_Tuesday_begin_15 : decode b_Tuesday_begin 15 = .ok (.return_, 1) := by decide +kernel
abbrev b_Tuesday_hoursAlike : ByteArray := prog_8_method_4_code
abbrev y_Tuesday_hoursAlike : MethodName := ⟨"RiverTuesdays$Tuesday", "hoursAlike", "(I)I"⟩
theorem ok_Tuesday_hoursAlike : okV y_Tuesday_hoursAlike b_Tuesday_hoursAlike 3 (some .int) 1 6 := ⟨mGW (List.mem_of_getElem? (i := 683) (by decide +kernel)) rfl, mGW (List.mem_of_getElem? (i := 13) (by decide +kernel)) rfl, mGW (List.mem_of_getElem? (i := 78) (by decide +kernel)) rfl, mGW (List.mem_of_getElem? (i := 684) (by decide +kernel)) rfl, ⟨by decide, by decide, by decide +kernel⟩, rfl⟩
theorem d_Tuesday_hoursAlike_0 : decode b_Tuesday_hoursAlike 0 = .ok (.aload_n 0, 1) := by decide +kernel
theorem d_Tuesday_hoursAlike_1 : decode b_Tuesday_hoursAlike 1 = .ok (.getfield 34, 3) := by decide +kernel
theorem d_Tuesday_hoursAlike_4 : decode b_Tuesday_hoursAlike 4 = .ok (.ifCond .ne 5, 3) := by decide +kernel
theorem d_Tuesday_hoursAlike_7 : decode b_Tuesday_hoursAlike 7 = .ok (.iconst 0, 1) := by decide +kernel
theorem d_Tuesday_hoursAlike_8 : decode b_Tuesday_hoursAlike 8 = .ok (.ireturn, 1) := by decide +kernel
theorem d_Tuesday_hoursAlike_9 : decode b_Tuesday_hoursAlike 9 = .ok (.iload_n 1, 1) := by decide +kernel
theorem d_Tuesday_hoursAlike_10 : decode b_Tuesday_hoursAlike 10 = .ok (.aload_n 0, 1) := by decide +kernel
theorem d_Tuesday_hoursAlike_11 : decode b_Tuesday_hoursAlike 11 = .ok (.getfield 46, 3) := by decide +kernel
theorem d_Tuesday_hoursAlike_14 : decode b_Tuesday_hoursAlike 14 = .ok (.ixor, 1) := by decide +kernel
theorem d_Tuesday_hoursAlike_15 : decode b_Tuesday_hoursAlike 15 = .ok (.istore_n 2, 1) := by decide +kernel
theorem d_Tuesday_hoursAlike_16 : decode b_Tuesday_hoursAlike 16 = .ok (.iload_n 2, 1) := by decide +kernel
theorem d_Tuesday_hoursAlike_17 : decode b_Tuesday_hoursAlike 17 = .ok (.ifCond .ne 8, 3) := by decide +kernel
theorem d_Tuesday_hoursAlike_20 : decode b_Tuesday_hoursAlike 20 = .ok (.bipush 8, 2) := by decide +kernel
theorem d_Tuesday_hoursAlike_22 : decode b_Tuesday_hoursAlike 22 = .ok (.goto 12, 3) := by decide +kernel
theorem d_Tuesday_hoursAlike_25 : decode b_Tuesday_hoursAlike 25 = .ok (.iload_n 2, 1) := by decide +kernel
theorem d_Tuesday_hoursAlike_26 : decode b_Tuesday_hoursAlike 26 = .ok (.iload_n 2, 1) := by decide +kernel
theorem d_Tuesday_hoursAlike_27 : decode b_Tuesday_hoursAlike 27 = .ok (.ineg, 1) := by decide +kernel
theorem d_Tuesday_hoursAlike_28 : decode b_Tuesday_hoursAlike 28 = .ok (.iand, 1) := by decide +kernel
theorem d_Tuesday_hoursAlike_29 : decode b_Tuesday_hoursAlike 29 = .ok (.iconst 1, 1) := by decide +kernel
theorem d_Tuesday_hoursAlike_30 : decode b_Tuesday_hoursAlike 30 = .ok (.isub, 1) := by decide +kernel
theorem d_Tuesday_hoursAlike_31 : decode b_Tuesday_hoursAlike 31 = .ok (.invokestatic 50, 3) := by decide +kernel
theorem d_Tuesday_hoursAlike_34 : decode b_Tuesday_hoursAlike 34 = .ok (.ireturn, 1) := by decide +kernel
abbrev b_Tuesday_leadHour : ByteArray := prog_8_method_5_code
abbrev y_Tuesday_leadHour : MethodName := ⟨"RiverTuesdays$Tuesday", "leadHour", "(LRiverTuesdays$Bed;II)V"⟩
theorem ok_Tuesday_leadHour : okV y_Tuesday_leadHour b_Tuesday_leadHour 6 none 3 6 := ⟨mGW (List.mem_of_getElem? (i := 693) (by decide +kernel)) rfl, mGW (List.mem_of_getElem? (i := 14) (by decide +kernel)) rfl, mGW (List.mem_of_getElem? (i := 78) (by decide +kernel)) rfl, mGW (List.mem_of_getElem? (i := 694) (by decide +kernel)) rfl, ⟨by decide, by decide, by decide +kernel⟩, rfl⟩
theorem d_Tuesday_leadHour_0 : decode b_Tuesday_leadHour 0 = .ok (.aload_n 0, 1) := by decide +kernel
theorem d_Tuesday_leadHour_1 : decode b_Tuesday_leadHour 1 = .ok (.getfield 11, 3) := by decide +kernel
theorem d_Tuesday_leadHour_4 : decode b_Tuesday_leadHour 4 = .ok (.iload_n 3, 1) := by decide +kernel
theorem d_Tuesday_leadHour_5 : decode b_Tuesday_leadHour 5 = .ok (.iconst 1, 1) := by decide +kernel
theorem d_Tuesday_leadHour_6 : decode b_Tuesday_leadHour 6 = .ok (.iadd, 1) := by decide +kernel
theorem d_Tuesday_leadHour_7 : decode b_Tuesday_leadHour 7 = .ok (.aaload, 1) := by decide +kernel
theorem d_Tuesday_leadHour_8 : decode b_Tuesday_leadHour 8 = .ok (.astore 4, 2) := by decide +kernel
theorem d_Tuesday_leadHour_10 : decode b_Tuesday_leadHour 10 = .ok (.aload 4, 2) := by decide +kernel
theorem d_Tuesday_leadHour_12 : decode b_Tuesday_leadHour 12 = .ok (.aload_n 0, 1) := by decide +kernel
theorem d_Tuesday_leadHour_13 : decode b_Tuesday_leadHour 13 = .ok (.getfield 11, 3) := by decide +kernel
theorem d_Tuesday_leadHour_16 : decode b_Tuesday_leadHour 16 = .ok (.iload_n 3, 1) := by decide +kernel
theorem d_Tuesday_leadHour_17 : decode b_Tuesday_leadHour 17 = .ok (.aaload, 1) := by decide +kernel
theorem d_Tuesday_leadHour_18 : decode b_Tuesday_leadHour 18 = .ok (.invokevirtual 30, 3) := by decide +kernel
theorem d_Tuesday_leadHour_21 : decode b_Tuesday_leadHour 21 = .ok (.aload 4, 2) := by decide +kernel
theorem d_Tuesday_leadHour_23 : decode b_Tuesday_leadHour 23 = .ok (.aload_n 1, 1) := by decide +kernel
theorem d_Tuesday_leadHour_24 : decode b_Tuesday_leadHour 24 = .ok (.iload_n 2, 1) := by decide +kernel
theorem d_Tuesday_leadHour_25 : decode b_Tuesday_leadHour 25 = .ok (.iload_n 3, 1) := by decide +kernel
theorem d_Tuesday_leadHour_26 : decode b_Tuesday_leadHour 26 = .ok (.ishr, 1) := by decide +kernel
theorem d_Tuesday_leadHour_27 : decode b_Tuesday_leadHour 27 = .ok (.iconst 1, 1) := by decide +kernel
theorem d_Tuesday_leadHour_28 : decode b_Tuesday_leadHour 28 = .ok (.iand, 1) := by decide +kernel
theorem d_Tuesday_leadHour_29 : decode b_Tuesday_leadHour 29 = .ok (.invokevirtual 55, 3) := by decide +kernel
theorem d_Tuesday_leadHour_32 : decode b_Tuesday_leadHour 32 = .ok (.aload_n 0, 1) := by decide +kernel
theorem d_Tuesday_leadHour_33 : decode b_Tuesday_leadHour 33 = .ok (.getfield 17, 3) := by decide +kernel
theorem d_Tuesday_leadHour_36 : decode b_Tuesday_leadHour 36 = .ok (.iload_n 3, 1) := by decide +kernel
theorem d_Tuesday_leadHour_37 : decode b_Tuesday_leadHour 37 = .ok (.iconst 1, 1) := by decide +kernel
theorem d_Tuesday_leadHour_38 : decode b_Tuesday_leadHour 38 = .ok (.iadd, 1) := by decide +kernel
theorem d_Tuesday_leadHour_39 : decode b_Tuesday_leadHour 39 = .ok (.aload_n 0, 1) := by decide +kernel
theorem d_Tuesday_leadHour_40 : decode b_Tuesday_leadHour 40 = .ok (.getfield 17, 3) := by decide +kernel
theorem d_Tuesday_leadHour_43 : decode b_Tuesday_leadHour 43 = .ok (.iload_n 3, 1) := by decide +kernel
theorem d_Tuesday_leadHour_44 : decode b_Tuesday_leadHour 44 = .ok (.iaload, 1) := by decide +kernel
theorem d_Tuesday_leadHour_45 : decode b_Tuesday_leadHour 45 = .ok (.aload 4, 2) := by decide +kernel
theorem d_Tuesday_leadHour_47 : decode b_Tuesday_leadHour 47 = .ok (.aload_n 1, 1) := by decide +kernel
theorem d_Tuesday_leadHour_48 : decode b_Tuesday_leadHour 48 = .ok (.invokevirtual 59, 3) := by decide +kernel
theorem d_Tuesday_leadHour_51 : decode b_Tuesday_leadHour 51 = .ok (.iadd, 1) := by decide +kernel
theorem d_Tuesday_leadHour_52 : decode b_Tuesday_leadHour 52 = .ok (.iastore, 1) := by decide +kernel
theorem d_Tuesday_leadHour_53 : decode b_Tuesday_leadHour 53 = .ok (.aload_n 0, 1) := by decide +kernel
theorem d_Tuesday_leadHour_54 : decode b_Tuesday_leadHour 54 = .ok (.getfield 21, 3) := by decide +kernel
theorem d_Tuesday_leadHour_57 : decode b_Tuesday_leadHour 57 = .ok (.iload_n 3, 1) := by decide +kernel
theorem d_Tuesday_leadHour_58 : decode b_Tuesday_leadHour 58 = .ok (.iconst 1, 1) := by decide +kernel
theorem d_Tuesday_leadHour_59 : decode b_Tuesday_leadHour 59 = .ok (.iadd, 1) := by decide +kernel
theorem d_Tuesday_leadHour_60 : decode b_Tuesday_leadHour 60 = .ok (.aload_n 0, 1) := by decide +kernel
theorem d_Tuesday_leadHour_61 : decode b_Tuesday_leadHour 61 = .ok (.getfield 21, 3) := by decide +kernel
theorem d_Tuesday_leadHour_64 : decode b_Tuesday_leadHour 64 = .ok (.iload_n 3, 1) := by decide +kernel
theorem d_Tuesday_leadHour_65 : decode b_Tuesday_leadHour 65 = .ok (.iaload, 1) := by decide +kernel
theorem d_Tuesday_leadHour_66 : decode b_Tuesday_leadHour 66 = .ok (.aload 4, 2) := by decide +kernel
theorem d_Tuesday_leadHour_68 : decode b_Tuesday_leadHour 68 = .ok (.aload_n 1, 1) := by decide +kernel
theorem d_Tuesday_leadHour_69 : decode b_Tuesday_leadHour 69 = .ok (.getfield 63, 3) := by decide +kernel
theorem d_Tuesday_leadHour_72 : decode b_Tuesday_leadHour 72 = .ok (.invokevirtual 68, 3) := by decide +kernel
theorem d_Tuesday_leadHour_75 : decode b_Tuesday_leadHour 75 = .ok (.ior, 1) := by decide +kernel
theorem d_Tuesday_leadHour_76 : decode b_Tuesday_leadHour 76 = .ok (.iastore, 1) := by decide +kernel
theorem d_Tuesday_leadHour_77 : decode b_Tuesday_leadHour 77 = .ok (.iconst 0, 1) := by decide +kernel
theorem d_Tuesday_leadHour_78 : decode b_Tuesday_leadHour 78 = .ok (.istore 5, 2) := by decide +kernel
theorem d_Tuesday_leadHour_80 : decode b_Tuesday_leadHour 80 = .ok (.iload 5, 2) := by decide +kernel
theorem d_Tuesday_leadHour_82 : decode b_Tuesday_leadHour 82 = .ok (.aload_n 1, 1) := by decide +kernel
theorem d_Tuesday_leadHour_83 : decode b_Tuesday_leadHour 83 = .ok (.getfield 63, 3) := by decide +kernel
theorem d_Tuesday_leadHour_86 : decode b_Tuesday_leadHour 86 = .ok (.if_icmp .ge 40, 3) := by decide +kernel
theorem d_Tuesday_leadHour_89 : decode b_Tuesday_leadHour 89 = .ok (.aload_n 0, 1) := by decide +kernel
theorem d_Tuesday_leadHour_90 : decode b_Tuesday_leadHour 90 = .ok (.getfield 26, 3) := by decide +kernel
theorem d_Tuesday_leadHour_93 : decode b_Tuesday_leadHour 93 = .ok (.iload_n 3, 1) := by decide +kernel
theorem d_Tuesday_leadHour_94 : decode b_Tuesday_leadHour 94 = .ok (.iconst 1, 1) := by decide +kernel
theorem d_Tuesday_leadHour_95 : decode b_Tuesday_leadHour 95 = .ok (.iadd, 1) := by decide +kernel
theorem d_Tuesday_leadHour_96 : decode b_Tuesday_leadHour 96 = .ok (.aaload, 1) := by decide +kernel
theorem d_Tuesday_leadHour_97 : decode b_Tuesday_leadHour 97 = .ok (.iload 5, 2) := by decide +kernel
theorem d_Tuesday_leadHour_99 : decode b_Tuesday_leadHour 99 = .ok (.aload_n 0, 1) := by decide +kernel
theorem d_Tuesday_leadHour_100 : decode b_Tuesday_leadHour 100 = .ok (.getfield 26, 3) := by decide +kernel
theorem d_Tuesday_leadHour_103 : decode b_Tuesday_leadHour 103 = .ok (.iload_n 3, 1) := by decide +kernel
theorem d_Tuesday_leadHour_104 : decode b_Tuesday_leadHour 104 = .ok (.aaload, 1) := by decide +kernel
theorem d_Tuesday_leadHour_105 : decode b_Tuesday_leadHour 105 = .ok (.iload 5, 2) := by decide +kernel
theorem d_Tuesday_leadHour_107 : decode b_Tuesday_leadHour 107 = .ok (.iaload, 1) := by decide +kernel
theorem d_Tuesday_leadHour_108 : decode b_Tuesday_leadHour 108 = .ok (.aload 4, 2) := by decide +kernel
theorem d_Tuesday_leadHour_110 : decode b_Tuesday_leadHour 110 = .ok (.getfield 71, 3) := by decide +kernel
theorem d_Tuesday_leadHour_113 : decode b_Tuesday_leadHour 113 = .ok (.iload 5, 2) := by decide +kernel
theorem d_Tuesday_leadHour_115 : decode b_Tuesday_leadHour 115 = .ok (.iaload, 1) := by decide +kernel
theorem d_Tuesday_leadHour_116 : decode b_Tuesday_leadHour 116 = .ok (.invokestatic 74, 3) := by decide +kernel
theorem d_Tuesday_leadHour_119 : decode b_Tuesday_leadHour 119 = .ok (.iastore, 1) := by decide +kernel
theorem d_Tuesday_leadHour_120 : decode b_Tuesday_leadHour 120 = .ok (.iinc 5 1, 3) := by decide +kernel
theorem d_Tuesday_leadHour_123 : decode b_Tuesday_leadHour 123 = .ok (.goto (-43), 3) := by decide +kernel
theorem d_Tuesday_leadHour_126 : decode b_Tuesday_leadHour 126 = .ok (.return_, 1) := by decide +kernel
abbrev b_Tuesday_lead : ByteArray := prog_8_method_3_code
abbrev y_Tuesday_lead : MethodName := ⟨"RiverTuesdays$Tuesday", "lead", "(LRiverTuesdays$Bed;I)V"⟩
theorem ok_Tuesday_lead : okV y_Tuesday_lead b_Tuesday_lead 4 none 2 6 := ⟨mGW (List.mem_of_getElem? (i := 678) (by decide +kernel)) rfl, mGW (List.mem_of_getElem? (i := 679) (by decide +kernel)) rfl, mGW (List.mem_of_getElem? (i := 78) (by decide +kernel)) rfl, mGW (List.mem_of_getElem? (i := 680) (by decide +kernel)) rfl, ⟨by decide, by decide, by decide +kernel⟩, rfl⟩
theorem d_Tuesday_lead_0 : decode b_Tuesday_lead 0 = .ok (.aload_n 0, 1) := by decide +kernel
theorem d_Tuesday_lead_1 : decode b_Tuesday_lead 1 = .ok (.iload_n 2, 1) := by decide +kernel
theorem d_Tuesday_lead_2 : decode b_Tuesday_lead 2 = .ok (.invokevirtual 38, 3) := by decide +kernel
theorem d_Tuesday_lead_5 : decode b_Tuesday_lead 5 = .ok (.istore_n 3, 1) := by decide +kernel
theorem d_Tuesday_lead_6 : decode b_Tuesday_lead 6 = .ok (.iload_n 3, 1) := by decide +kernel
theorem d_Tuesday_lead_7 : decode b_Tuesday_lead 7 = .ok (.bipush 8, 2) := by decide +kernel
theorem d_Tuesday_lead_9 : decode b_Tuesday_lead 9 = .ok (.if_icmp .ge 16, 3) := by decide +kernel
theorem d_Tuesday_lead_12 : decode b_Tuesday_lead 12 = .ok (.aload_n 0, 1) := by decide +kernel
theorem d_Tuesday_lead_13 : decode b_Tuesday_lead 13 = .ok (.aload_n 1, 1) := by decide +kernel
theorem d_Tuesday_lead_14 : decode b_Tuesday_lead 14 = .ok (.iload_n 2, 1) := by decide +kernel
theorem d_Tuesday_lead_15 : decode b_Tuesday_lead 15 = .ok (.iload_n 3, 1) := by decide +kernel
theorem d_Tuesday_lead_16 : decode b_Tuesday_lead 16 = .ok (.invokevirtual 42, 3) := by decide +kernel
theorem d_Tuesday_lead_19 : decode b_Tuesday_lead 19 = .ok (.iinc 3 1, 3) := by decide +kernel
theorem d_Tuesday_lead_22 : decode b_Tuesday_lead 22 = .ok (.goto (-16), 3) := by decide +kernel
theorem d_Tuesday_lead_25 : decode b_Tuesday_lead 25 = .ok (.aload_n 0, 1) := by decide +kernel
theorem d_Tuesday_lead_26 : decode b_Tuesday_lead 26 = .ok (.iload_n 2, 1) := by decide +kernel
theorem d_Tuesday_lead_27 : decode b_Tuesday_lead 27 = .ok (.putfield 46, 3) := by decide +kernel
theorem d_Tuesday_lead_30 : decode b_Tuesday_lead 30 = .ok (.aload_n 0, 1) := by decide +kernel
theorem d_Tuesday_lead_31 : decode b_Tuesday_lead 31 = .ok (.iconst 1, 1) := by decide +kernel
theorem d_Tuesday_lead_32 : decode b_Tuesday_lead 32 = .ok (.putfield 34, 3) := by decide +kernel
theorem d_Tuesday_lead_35 : decode b_Tuesday_lead 35 = .ok (.return_, 1) := by decide +kernel
abbrev b_Tuesday_harmDone : ByteArray := prog_8_method_6_code
abbrev y_Tuesday_harmDone : MethodName := ⟨"RiverTuesdays$Tuesday", "harmDone", "()I"⟩
theorem ok_Tuesday_harmDone : okV y_Tuesday_harmDone b_Tuesday_harmDone 1 (some .int) 0 6 := ⟨mGW (List.mem_of_getElem? (i := 714) (by decide +kernel)) rfl, mGW (List.mem_of_getElem? (i := 715) (by decide +kernel)) rfl, mGW (List.mem_of_getElem? (i := 78) (by decide +kernel)) rfl, mGW (List.mem_of_getElem? (i := 716) (by decide +kernel)) rfl, ⟨by decide, by decide, by decide +kernel⟩, rfl⟩
theorem d_Tuesday_harmDone_0 : decode b_Tuesday_harmDone 0 = .ok (.aload_n 0, 1) := by decide +kernel
theorem d_Tuesday_harmDone_1 : decode b_Tuesday_harmDone 1 = .ok (.getfield 17, 3) := by decide +kernel
theorem d_Tuesday_harmDone_4 : decode b_Tuesday_harmDone 4 = .ok (.bipush 8, 2) := by decide +kernel
theorem d_Tuesday_harmDone_6 : decode b_Tuesday_harmDone 6 = .ok (.iaload, 1) := by decide +kernel
theorem d_Tuesday_harmDone_7 : decode b_Tuesday_harmDone 7 = .ok (.ireturn, 1) := by decide +kernel
abbrev b_Tuesday_grindings : ByteArray := prog_8_method_7_code
abbrev y_Tuesday_grindings : MethodName := ⟨"RiverTuesdays$Tuesday", "grindings", "()I"⟩
theorem ok_Tuesday_grindings : okV y_Tuesday_grindings b_Tuesday_grindings 1 (some .int) 0 6 := ⟨mGW (List.mem_of_getElem? (i := 706) (by decide +kernel)) rfl, mGW (List.mem_of_getElem? (i := 707) (by decide +kernel)) rfl, mGW (List.mem_of_getElem? (i := 78) (by decide +kernel)) rfl, mGW (List.mem_of_getElem? (i := 708) (by decide +kernel)) rfl, ⟨by decide, by decide, by decide +kernel⟩, rfl⟩
theorem d_Tuesday_grindings_0 : decode b_Tuesday_grindings 0 = .ok (.aload_n 0, 1) := by decide +kernel
theorem d_Tuesday_grindings_1 : decode b_Tuesday_grindings 1 = .ok (.getfield 11, 3) := by decide +kernel
theorem d_Tuesday_grindings_4 : decode b_Tuesday_grindings 4 = .ok (.bipush 8, 2) := by decide +kernel
theorem d_Tuesday_grindings_6 : decode b_Tuesday_grindings 6 = .ok (.aaload, 1) := by decide +kernel
theorem d_Tuesday_grindings_7 : decode b_Tuesday_grindings 7 = .ok (.invokevirtual 80, 3) := by decide +kernel
theorem d_Tuesday_grindings_10 : decode b_Tuesday_grindings 10 = .ok (.aload_n 0, 1) := by decide +kernel
theorem d_Tuesday_grindings_11 : decode b_Tuesday_grindings 11 = .ok (.getfield 11, 3) := by decide +kernel
theorem d_Tuesday_grindings_14 : decode b_Tuesday_grindings 14 = .ok (.iconst 0, 1) := by decide +kernel
theorem d_Tuesday_grindings_15 : decode b_Tuesday_grindings 15 = .ok (.aaload, 1) := by decide +kernel
theorem d_Tuesday_grindings_16 : decode b_Tuesday_grindings 16 = .ok (.invokevirtual 80, 3) := by decide +kernel
theorem d_Tuesday_grindings_19 : decode b_Tuesday_grindings 19 = .ok (.isub, 1) := by decide +kernel
theorem d_Tuesday_grindings_20 : decode b_Tuesday_grindings 20 = .ok (.ireturn, 1) := by decide +kernel
abbrev b_Tuesday_runOut : ByteArray := prog_8_method_8_code
abbrev y_Tuesday_runOut : MethodName := ⟨"RiverTuesdays$Tuesday", "runOut", "()I"⟩
theorem ok_Tuesday_runOut : okV y_Tuesday_runOut b_Tuesday_runOut 1 (some .int) 0 6 := ⟨mGW (List.mem_of_getElem? (i := 773) (by decide +kernel)) rfl, mGW (List.mem_of_getElem? (i := 774) (by decide +kernel)) rfl, mGW (List.mem_of_getElem? (i := 78) (by decide +kernel)) rfl, mGW (List.mem_of_getElem? (i := 775) (by decide +kernel)) rfl, ⟨by decide, by decide, by decide +kernel⟩, rfl⟩
theorem d_Tuesday_runOut_0 : decode b_Tuesday_runOut 0 = .ok (.aload_n 0, 1) := by decide +kernel
theorem d_Tuesday_runOut_1 : decode b_Tuesday_runOut 1 = .ok (.getfield 11, 3) := by decide +kernel
theorem d_Tuesday_runOut_4 : decode b_Tuesday_runOut 4 = .ok (.bipush 8, 2) := by decide +kernel
theorem d_Tuesday_runOut_6 : decode b_Tuesday_runOut 6 = .ok (.aaload, 1) := by decide +kernel
theorem d_Tuesday_runOut_7 : decode b_Tuesday_runOut 7 = .ok (.getfield 84, 3) := by decide +kernel
theorem d_Tuesday_runOut_10 : decode b_Tuesday_runOut 10 = .ok (.aload_n 0, 1) := by decide +kernel
theorem d_Tuesday_runOut_11 : decode b_Tuesday_runOut 11 = .ok (.getfield 11, 3) := by decide +kernel
theorem d_Tuesday_runOut_14 : decode b_Tuesday_runOut 14 = .ok (.iconst 0, 1) := by decide +kernel
theorem d_Tuesday_runOut_15 : decode b_Tuesday_runOut 15 = .ok (.aaload, 1) := by decide +kernel
theorem d_Tuesday_runOut_16 : decode b_Tuesday_runOut 16 = .ok (.getfield 84, 3) := by decide +kernel
theorem d_Tuesday_runOut_19 : decode b_Tuesday_runOut 19 = .ok (.isub, 1) := by decide +kernel
theorem d_Tuesday_runOut_20 : decode b_Tuesday_runOut 20 = .ok (.ireturn, 1) := by decide +kernel
abbrev b_Tuesday_cutOffBits : ByteArray := prog_8_method_9_code
abbrev y_Tuesday_cutOffBits : MethodName := ⟨"RiverTuesdays$Tuesday", "cutOffBits", "(I)I"⟩
theorem ok_Tuesday_cutOffBits : okV y_Tuesday_cutOffBits b_Tuesday_cutOffBits 4 (some .int) 1 6 := ⟨mGW (List.mem_of_getElem? (i := 737) (by decide +kernel)) rfl, mGW (List.mem_of_getElem? (i := 738) (by decide +kernel)) rfl, mGW (List.mem_of_getElem? (i := 78) (by decide +kernel)) rfl, mGW (List.mem_of_getElem? (i := 739) (by decide +kernel)) rfl, ⟨by decide, by decide, by decide +kernel⟩, rfl⟩
theorem d_Tuesday_cutOffBits_0 : decode b_Tuesday_cutOffBits 0 = .ok (.iconst 0, 1) := by decide +kernel
theorem d_Tuesday_cutOffBits_1 : decode b_Tuesday_cutOffBits 1 = .ok (.istore_n 2, 1) := by decide +kernel
theorem d_Tuesday_cutOffBits_2 : decode b_Tuesday_cutOffBits 2 = .ok (.iconst 0, 1) := by decide +kernel
theorem d_Tuesday_cutOffBits_3 : decode b_Tuesday_cutOffBits 3 = .ok (.istore_n 3, 1) := by decide +kernel
theorem d_Tuesday_cutOffBits_4 : decode b_Tuesday_cutOffBits 4 = .ok (.iload_n 3, 1) := by decide +kernel
theorem d_Tuesday_cutOffBits_5 : decode b_Tuesday_cutOffBits 5 = .ok (.bipush 8, 2) := by decide +kernel
theorem d_Tuesday_cutOffBits_7 : decode b_Tuesday_cutOffBits 7 = .ok (.if_icmp .ge 36, 3) := by decide +kernel
theorem d_Tuesday_cutOffBits_10 : decode b_Tuesday_cutOffBits 10 = .ok (.iload_n 2, 1) := by decide +kernel
theorem d_Tuesday_cutOffBits_11 : decode b_Tuesday_cutOffBits 11 = .ok (.aload_n 0, 1) := by decide +kernel
theorem d_Tuesday_cutOffBits_12 : decode b_Tuesday_cutOffBits 12 = .ok (.getfield 11, 3) := by decide +kernel
theorem d_Tuesday_cutOffBits_15 : decode b_Tuesday_cutOffBits 15 = .ok (.iload_n 1, 1) := by decide +kernel
theorem d_Tuesday_cutOffBits_16 : decode b_Tuesday_cutOffBits 16 = .ok (.iconst 1, 1) := by decide +kernel
theorem d_Tuesday_cutOffBits_17 : decode b_Tuesday_cutOffBits 17 = .ok (.iadd, 1) := by decide +kernel
theorem d_Tuesday_cutOffBits_18 : decode b_Tuesday_cutOffBits 18 = .ok (.aaload, 1) := by decide +kernel
theorem d_Tuesday_cutOffBits_19 : decode b_Tuesday_cutOffBits 19 = .ok (.getfield 71, 3) := by decide +kernel
theorem d_Tuesday_cutOffBits_22 : decode b_Tuesday_cutOffBits 22 = .ok (.iload_n 3, 1) := by decide +kernel
theorem d_Tuesday_cutOffBits_23 : decode b_Tuesday_cutOffBits 23 = .ok (.iaload, 1) := by decide +kernel
theorem d_Tuesday_cutOffBits_24 : decode b_Tuesday_cutOffBits 24 = .ok (.iconst 2, 1) := by decide +kernel
theorem d_Tuesday_cutOffBits_25 : decode b_Tuesday_cutOffBits 25 = .ok (.if_icmp .lt 9, 3) := by decide +kernel
theorem d_Tuesday_cutOffBits_28 : decode b_Tuesday_cutOffBits 28 = .ok (.iconst 1, 1) := by decide +kernel
theorem d_Tuesday_cutOffBits_29 : decode b_Tuesday_cutOffBits 29 = .ok (.iload_n 3, 1) := by decide +kernel
theorem d_Tuesday_cutOffBits_30 : decode b_Tuesday_cutOffBits 30 = .ok (.ishl, 1) := by decide +kernel
theorem d_Tuesday_cutOffBits_31 : decode b_Tuesday_cutOffBits 31 = .ok (.goto 4, 3) := by decide +kernel
theorem d_Tuesday_cutOffBits_34 : decode b_Tuesday_cutOffBits 34 = .ok (.iconst 0, 1) := by decide +kernel
theorem d_Tuesday_cutOffBits_35 : decode b_Tuesday_cutOffBits 35 = .ok (.ior, 1) := by decide +kernel
theorem d_Tuesday_cutOffBits_36 : decode b_Tuesday_cutOffBits 36 = .ok (.istore_n 2, 1) := by decide +kernel
theorem d_Tuesday_cutOffBits_37 : decode b_Tuesday_cutOffBits 37 = .ok (.iinc 3 1, 3) := by decide +kernel
theorem d_Tuesday_cutOffBits_40 : decode b_Tuesday_cutOffBits 40 = .ok (.goto (-36), 3) := by decide +kernel
theorem d_Tuesday_cutOffBits_43 : decode b_Tuesday_cutOffBits 43 = .ok (.iload_n 2, 1) := by decide +kernel
theorem d_Tuesday_cutOffBits_44 : decode b_Tuesday_cutOffBits 44 = .ok (.ireturn, 1) := by decide +kernel
abbrev b_Fits_add : ByteArray := prog_3_method_2_code
abbrev y_Fits_add : MethodName := ⟨"RiverTuesdays$Fits", "add", "(I[I)V"⟩
theorem ok_Fits_add : okV y_Fits_add b_Fits_add 3 none 2 1 := ⟨mGW (List.mem_of_getElem? (i := 826) (by decide +kernel)) rfl, mGW (List.mem_of_getElem? (i := 827) (by decide +kernel)) rfl, mGW (List.mem_of_getElem? (i := 79) (by decide +kernel)) rfl, mGW (List.mem_of_getElem? (i := 828) (by decide +kernel)) rfl, ⟨by decide, by decide, by decide +kernel⟩, rfl⟩
theorem d_Fits_add_0 : decode b_Fits_add 0 = .ok (.aload_n 0, 1) := by decide +kernel
theorem d_Fits_add_1 : decode b_Fits_add 1 = .ok (.getfield 21, 3) := by decide +kernel
theorem d_Fits_add_4 : decode b_Fits_add 4 = .ok (.sipush 256, 3) := by decide +kernel
theorem d_Fits_add_7 : decode b_Fits_add 7 = .ok (.if_icmp .ge 41, 3) := by decide +kernel
theorem d_Fits_add_10 : decode b_Fits_add 10 = .ok (.aload_n 0, 1) := by decide +kernel
theorem d_Fits_add_11 : decode b_Fits_add 11 = .ok (.getfield 9, 3) := by decide +kernel
theorem d_Fits_add_14 : decode b_Fits_add 14 = .ok (.aload_n 0, 1) := by decide +kernel
theorem d_Fits_add_15 : decode b_Fits_add 15 = .ok (.getfield 21, 3) := by decide +kernel
theorem d_Fits_add_18 : decode b_Fits_add 18 = .ok (.iload_n 1, 1) := by decide +kernel
theorem d_Fits_add_19 : decode b_Fits_add 19 = .ok (.iastore, 1) := by decide +kernel
theorem d_Fits_add_20 : decode b_Fits_add 20 = .ok (.aload_n 2, 1) := by decide +kernel
theorem d_Fits_add_21 : decode b_Fits_add 21 = .ok (.iconst 0, 1) := by decide +kernel
theorem d_Fits_add_22 : decode b_Fits_add 22 = .ok (.aload_n 0, 1) := by decide +kernel
theorem d_Fits_add_23 : decode b_Fits_add 23 = .ok (.getfield 15, 3) := by decide +kernel
theorem d_Fits_add_26 : decode b_Fits_add 26 = .ok (.aload_n 0, 1) := by decide +kernel
theorem d_Fits_add_27 : decode b_Fits_add 27 = .ok (.getfield 21, 3) := by decide +kernel
theorem d_Fits_add_30 : decode b_Fits_add 30 = .ok (.bipush 8, 2) := by decide +kernel
theorem d_Fits_add_32 : decode b_Fits_add 32 = .ok (.imul, 1) := by decide +kernel
theorem d_Fits_add_33 : decode b_Fits_add 33 = .ok (.bipush 8, 2) := by decide +kernel
theorem d_Fits_add_35 : decode b_Fits_add 35 = .ok (.invokestatic 25, 3) := by decide +kernel
theorem d_Fits_add_38 : decode b_Fits_add 38 = .ok (.aload_n 0, 1) := by decide +kernel
theorem d_Fits_add_39 : decode b_Fits_add 39 = .ok (.dup, 1) := by decide +kernel
theorem d_Fits_add_40 : decode b_Fits_add 40 = .ok (.getfield 21, 3) := by decide +kernel
theorem d_Fits_add_43 : decode b_Fits_add 43 = .ok (.iconst 1, 1) := by decide +kernel
theorem d_Fits_add_44 : decode b_Fits_add 44 = .ok (.iadd, 1) := by decide +kernel
theorem d_Fits_add_45 : decode b_Fits_add 45 = .ok (.putfield 21, 3) := by decide +kernel
theorem d_Fits_add_48 : decode b_Fits_add 48 = .ok (.return_, 1) := by decide +kernel
abbrev b_Fits_leastPlan : ByteArray := prog_3_method_3_code
abbrev y_Fits_leastPlan : MethodName := ⟨"RiverTuesdays$Fits", "leastPlan", "()I"⟩
theorem ok_Fits_leastPlan : okV y_Fits_leastPlan b_Fits_leastPlan 3 (some .int) 0 1 := ⟨mGW (List.mem_of_getElem? (i := 831) (by decide +kernel)) rfl, mGW (List.mem_of_getElem? (i := 832) (by decide +kernel)) rfl, mGW (List.mem_of_getElem? (i := 79) (by decide +kernel)) rfl, mGW (List.mem_of_getElem? (i := 833) (by decide +kernel)) rfl, ⟨by decide, by decide, by decide +kernel⟩, rfl⟩
theorem d_Fits_leastPlan_0 : decode b_Fits_leastPlan 0 = .ok (.aload_n 0, 1) := by decide +kernel
theorem d_Fits_leastPlan_1 : decode b_Fits_leastPlan 1 = .ok (.getfield 21, 3) := by decide +kernel
theorem d_Fits_leastPlan_4 : decode b_Fits_leastPlan 4 = .ok (.ifCond .ne 6, 3) := by decide +kernel
theorem d_Fits_leastPlan_7 : decode b_Fits_leastPlan 7 = .ok (.bipush (-9), 2) := by decide +kernel
theorem d_Fits_leastPlan_9 : decode b_Fits_leastPlan 9 = .ok (.ireturn, 1) := by decide +kernel
theorem d_Fits_leastPlan_10 : decode b_Fits_leastPlan 10 = .ok (.aload_n 0, 1) := by decide +kernel
theorem d_Fits_leastPlan_11 : decode b_Fits_leastPlan 11 = .ok (.getfield 9, 3) := by decide +kernel
theorem d_Fits_leastPlan_14 : decode b_Fits_leastPlan 14 = .ok (.iconst 0, 1) := by decide +kernel
theorem d_Fits_leastPlan_15 : decode b_Fits_leastPlan 15 = .ok (.iaload, 1) := by decide +kernel
theorem d_Fits_leastPlan_16 : decode b_Fits_leastPlan 16 = .ok (.istore_n 1, 1) := by decide +kernel
theorem d_Fits_leastPlan_17 : decode b_Fits_leastPlan 17 = .ok (.iconst 1, 1) := by decide +kernel
theorem d_Fits_leastPlan_18 : decode b_Fits_leastPlan 18 = .ok (.istore_n 2, 1) := by decide +kernel
theorem d_Fits_leastPlan_19 : decode b_Fits_leastPlan 19 = .ok (.iload_n 2, 1) := by decide +kernel
theorem d_Fits_leastPlan_20 : decode b_Fits_leastPlan 20 = .ok (.aload_n 0, 1) := by decide +kernel
theorem d_Fits_leastPlan_21 : decode b_Fits_leastPlan 21 = .ok (.getfield 21, 3) := by decide +kernel
theorem d_Fits_leastPlan_24 : decode b_Fits_leastPlan 24 = .ok (.if_icmp .ge 20, 3) := by decide +kernel
theorem d_Fits_leastPlan_27 : decode b_Fits_leastPlan 27 = .ok (.iload_n 1, 1) := by decide +kernel
theorem d_Fits_leastPlan_28 : decode b_Fits_leastPlan 28 = .ok (.aload_n 0, 1) := by decide +kernel
theorem d_Fits_leastPlan_29 : decode b_Fits_leastPlan 29 = .ok (.getfield 9, 3) := by decide +kernel
theorem d_Fits_leastPlan_32 : decode b_Fits_leastPlan 32 = .ok (.iload_n 2, 1) := by decide +kernel
theorem d_Fits_leastPlan_33 : decode b_Fits_leastPlan 33 = .ok (.iaload, 1) := by decide +kernel
theorem d_Fits_leastPlan_34 : decode b_Fits_leastPlan 34 = .ok (.invokestatic 31, 3) := by decide +kernel
theorem d_Fits_leastPlan_37 : decode b_Fits_leastPlan 37 = .ok (.istore_n 1, 1) := by decide +kernel
theorem d_Fits_leastPlan_38 : decode b_Fits_leastPlan 38 = .ok (.iinc 2 1, 3) := by decide +kernel
theorem d_Fits_leastPlan_41 : decode b_Fits_leastPlan 41 = .ok (.goto (-22), 3) := by decide +kernel
theorem d_Fits_leastPlan_44 : decode b_Fits_leastPlan 44 = .ok (.iload_n 1, 1) := by decide +kernel
theorem d_Fits_leastPlan_45 : decode b_Fits_leastPlan 45 = .ok (.ireturn, 1) := by decide +kernel
abbrev b_Fits_openInAll : ByteArray := prog_3_method_4_code
abbrev y_Fits_openInAll : MethodName := ⟨"RiverTuesdays$Fits", "openInAll", "()I"⟩
theorem ok_Fits_openInAll : okV y_Fits_openInAll b_Fits_openInAll 3 (some .int) 0 1 := ⟨mGW (List.mem_of_getElem? (i := 844) (by decide +kernel)) rfl, mGW (List.mem_of_getElem? (i := 845) (by decide +kernel)) rfl, mGW (List.mem_of_getElem? (i := 79) (by decide +kernel)) rfl, mGW (List.mem_of_getElem? (i := 846) (by decide +kernel)) rfl, ⟨by decide, by decide, by decide +kernel⟩, rfl⟩
theorem d_Fits_openInAll_0 : decode b_Fits_openInAll 0 = .ok (.sipush 255, 3) := by decide +kernel
theorem d_Fits_openInAll_3 : decode b_Fits_openInAll 3 = .ok (.istore_n 1, 1) := by decide +kernel
theorem d_Fits_openInAll_4 : decode b_Fits_openInAll 4 = .ok (.iconst 0, 1) := by decide +kernel
theorem d_Fits_openInAll_5 : decode b_Fits_openInAll 5 = .ok (.istore_n 2, 1) := by decide +kernel
theorem d_Fits_openInAll_6 : decode b_Fits_openInAll 6 = .ok (.iload_n 2, 1) := by decide +kernel
theorem d_Fits_openInAll_7 : decode b_Fits_openInAll 7 = .ok (.aload_n 0, 1) := by decide +kernel
theorem d_Fits_openInAll_8 : decode b_Fits_openInAll 8 = .ok (.getfield 21, 3) := by decide +kernel
theorem d_Fits_openInAll_11 : decode b_Fits_openInAll 11 = .ok (.if_icmp .ge 18, 3) := by decide +kernel
theorem d_Fits_openInAll_14 : decode b_Fits_openInAll 14 = .ok (.iload_n 1, 1) := by decide +kernel
theorem d_Fits_openInAll_15 : decode b_Fits_openInAll 15 = .ok (.aload_n 0, 1) := by decide +kernel
theorem d_Fits_openInAll_16 : decode b_Fits_openInAll 16 = .ok (.getfield 9, 3) := by decide +kernel
theorem d_Fits_openInAll_19 : decode b_Fits_openInAll 19 = .ok (.iload_n 2, 1) := by decide +kernel
theorem d_Fits_openInAll_20 : decode b_Fits_openInAll 20 = .ok (.iaload, 1) := by decide +kernel
theorem d_Fits_openInAll_21 : decode b_Fits_openInAll 21 = .ok (.iand, 1) := by decide +kernel
theorem d_Fits_openInAll_22 : decode b_Fits_openInAll 22 = .ok (.istore_n 1, 1) := by decide +kernel
theorem d_Fits_openInAll_23 : decode b_Fits_openInAll 23 = .ok (.iinc 2 1, 3) := by decide +kernel
theorem d_Fits_openInAll_26 : decode b_Fits_openInAll 26 = .ok (.goto (-20), 3) := by decide +kernel
theorem d_Fits_openInAll_29 : decode b_Fits_openInAll 29 = .ok (.iload_n 1, 1) := by decide +kernel
theorem d_Fits_openInAll_30 : decode b_Fits_openInAll 30 = .ok (.ireturn, 1) := by decide +kernel
abbrev b_Fits_shutInAll : ByteArray := prog_3_method_5_code
abbrev y_Fits_shutInAll : MethodName := ⟨"RiverTuesdays$Fits", "shutInAll", "()I"⟩
theorem ok_Fits_shutInAll : okV y_Fits_shutInAll b_Fits_shutInAll 3 (some .int) 0 1 := ⟨mGW (List.mem_of_getElem? (i := 840) (by decide +kernel)) rfl, mGW (List.mem_of_getElem? (i := 841) (by decide +kernel)) rfl, mGW (List.mem_of_getElem? (i := 79) (by decide +kernel)) rfl, mGW (List.mem_of_getElem? (i := 842) (by decide +kernel)) rfl, ⟨by decide, by decide, by decide +kernel⟩, rfl⟩
theorem d_Fits_shutInAll_0 : decode b_Fits_shutInAll 0 = .ok (.sipush 255, 3) := by decide +kernel
theorem d_Fits_shutInAll_3 : decode b_Fits_shutInAll 3 = .ok (.istore_n 1, 1) := by decide +kernel
theorem d_Fits_shutInAll_4 : decode b_Fits_shutInAll 4 = .ok (.iconst 0, 1) := by decide +kernel
theorem d_Fits_shutInAll_5 : decode b_Fits_shutInAll 5 = .ok (.istore_n 2, 1) := by decide +kernel
theorem d_Fits_shutInAll_6 : decode b_Fits_shutInAll 6 = .ok (.iload_n 2, 1) := by decide +kernel
theorem d_Fits_shutInAll_7 : decode b_Fits_shutInAll 7 = .ok (.aload_n 0, 1) := by decide +kernel
theorem d_Fits_shutInAll_8 : decode b_Fits_shutInAll 8 = .ok (.getfield 21, 3) := by decide +kernel
theorem d_Fits_shutInAll_11 : decode b_Fits_shutInAll 11 = .ok (.if_icmp .ge 20, 3) := by decide +kernel
theorem d_Fits_shutInAll_14 : decode b_Fits_shutInAll 14 = .ok (.iload_n 1, 1) := by decide +kernel
theorem d_Fits_shutInAll_15 : decode b_Fits_shutInAll 15 = .ok (.aload_n 0, 1) := by decide +kernel
theorem d_Fits_shutInAll_16 : decode b_Fits_shutInAll 16 = .ok (.getfield 9, 3) := by decide +kernel
theorem d_Fits_shutInAll_19 : decode b_Fits_shutInAll 19 = .ok (.iload_n 2, 1) := by decide +kernel
theorem d_Fits_shutInAll_20 : decode b_Fits_shutInAll 20 = .ok (.iaload, 1) := by decide +kernel
theorem d_Fits_shutInAll_21 : decode b_Fits_shutInAll 21 = .ok (.iconst (-1), 1) := by decide +kernel
theorem d_Fits_shutInAll_22 : decode b_Fits_shutInAll 22 = .ok (.ixor, 1) := by decide +kernel
theorem d_Fits_shutInAll_23 : decode b_Fits_shutInAll 23 = .ok (.iand, 1) := by decide +kernel
theorem d_Fits_shutInAll_24 : decode b_Fits_shutInAll 24 = .ok (.istore_n 1, 1) := by decide +kernel
theorem d_Fits_shutInAll_25 : decode b_Fits_shutInAll 25 = .ok (.iinc 2 1, 3) := by decide +kernel
theorem d_Fits_shutInAll_28 : decode b_Fits_shutInAll 28 = .ok (.goto (-22), 3) := by decide +kernel
theorem d_Fits_shutInAll_31 : decode b_Fits_shutInAll 31 = .ok (.iload_n 1, 1) := by decide +kernel
theorem d_Fits_shutInAll_32 : decode b_Fits_shutInAll 32 = .ok (.ireturn, 1) := by decide +kernel
abbrev b_Fits_tallyPlace : ByteArray := prog_3_method_7_code
abbrev y_Fits_tallyPlace : MethodName := ⟨"RiverTuesdays$Fits", "tallyPlace", "(II)I"⟩
theorem ok_Fits_tallyPlace : okV y_Fits_tallyPlace b_Fits_tallyPlace 3 (some .int) 2 1 := ⟨mGW (List.mem_of_getElem? (i := 857) (by decide +kernel)) rfl, mGW (List.mem_of_getElem? (i := 19) (by decide +kernel)) rfl, mGW (List.mem_of_getElem? (i := 79) (by decide +kernel)) rfl, mGW (List.mem_of_getElem? (i := 858) (by decide +kernel)) rfl, ⟨by decide, by decide, by decide +kernel⟩, rfl⟩
theorem d_Fits_tallyPlace_0 : decode b_Fits_tallyPlace 0 = .ok (.aload_n 0, 1) := by decide +kernel
theorem d_Fits_tallyPlace_1 : decode b_Fits_tallyPlace 1 = .ok (.getfield 15, 3) := by decide +kernel
theorem d_Fits_tallyPlace_4 : decode b_Fits_tallyPlace 4 = .ok (.iload_n 1, 1) := by decide +kernel
theorem d_Fits_tallyPlace_5 : decode b_Fits_tallyPlace 5 = .ok (.bipush 8, 2) := by decide +kernel
theorem d_Fits_tallyPlace_7 : decode b_Fits_tallyPlace 7 = .ok (.imul, 1) := by decide +kernel
theorem d_Fits_tallyPlace_8 : decode b_Fits_tallyPlace 8 = .ok (.iload_n 2, 1) := by decide +kernel
theorem d_Fits_tallyPlace_9 : decode b_Fits_tallyPlace 9 = .ok (.iadd, 1) := by decide +kernel
theorem d_Fits_tallyPlace_10 : decode b_Fits_tallyPlace 10 = .ok (.iaload, 1) := by decide +kernel
theorem d_Fits_tallyPlace_11 : decode b_Fits_tallyPlace 11 = .ok (.iconst 0, 1) := by decide +kernel
theorem d_Fits_tallyPlace_12 : decode b_Fits_tallyPlace 12 = .ok (.invokestatic 40, 3) := by decide +kernel
theorem d_Fits_tallyPlace_15 : decode b_Fits_tallyPlace 15 = .ok (.sipush 999, 3) := by decide +kernel
theorem d_Fits_tallyPlace_18 : decode b_Fits_tallyPlace 18 = .ok (.invokestatic 31, 3) := by decide +kernel
theorem d_Fits_tallyPlace_21 : decode b_Fits_tallyPlace 21 = .ok (.ireturn, 1) := by decide +kernel
abbrev b_Fits_mostAlike : ByteArray := prog_3_method_6_code
abbrev y_Fits_mostAlike : MethodName := ⟨"RiverTuesdays$Fits", "mostAlike", "(I)I"⟩
theorem ok_Fits_mostAlike : okV y_Fits_mostAlike b_Fits_mostAlike 5 (some .int) 1 1 := ⟨mGW (List.mem_of_getElem? (i := 852) (by decide +kernel)) rfl, mGW (List.mem_of_getElem? (i := 853) (by decide +kernel)) rfl, mGW (List.mem_of_getElem? (i := 79) (by decide +kernel)) rfl, mGW (List.mem_of_getElem? (i := 854) (by decide +kernel)) rfl, ⟨by decide, by decide, by decide +kernel⟩, rfl⟩
theorem d_Fits_mostAlike_0 : decode b_Fits_mostAlike 0 = .ok (.iconst 0, 1) := by decide +kernel
theorem d_Fits_mostAlike_1 : decode b_Fits_mostAlike 1 = .ok (.istore_n 2, 1) := by decide +kernel
theorem d_Fits_mostAlike_2 : decode b_Fits_mostAlike 2 = .ok (.iload_n 2, 1) := by decide +kernel
theorem d_Fits_mostAlike_3 : decode b_Fits_mostAlike 3 = .ok (.aload_n 0, 1) := by decide +kernel
theorem d_Fits_mostAlike_4 : decode b_Fits_mostAlike 4 = .ok (.getfield 21, 3) := by decide +kernel
theorem d_Fits_mostAlike_7 : decode b_Fits_mostAlike 7 = .ok (.if_icmp .ge 21, 3) := by decide +kernel
theorem d_Fits_mostAlike_10 : decode b_Fits_mostAlike 10 = .ok (.aload_n 0, 1) := by decide +kernel
theorem d_Fits_mostAlike_11 : decode b_Fits_mostAlike 11 = .ok (.getfield 18, 3) := by decide +kernel
theorem d_Fits_mostAlike_14 : decode b_Fits_mostAlike 14 = .ok (.aload_n 0, 1) := by decide +kernel
theorem d_Fits_mostAlike_15 : decode b_Fits_mostAlike 15 = .ok (.iload_n 2, 1) := by decide +kernel
theorem d_Fits_mostAlike_16 : decode b_Fits_mostAlike 16 = .ok (.iload_n 1, 1) := by decide +kernel
theorem d_Fits_mostAlike_17 : decode b_Fits_mostAlike 17 = .ok (.invokevirtual 37, 3) := by decide +kernel
theorem d_Fits_mostAlike_20 : decode b_Fits_mostAlike 20 = .ok (.iconst 0, 1) := by decide +kernel
theorem d_Fits_mostAlike_21 : decode b_Fits_mostAlike 21 = .ok (.iastore, 1) := by decide +kernel
theorem d_Fits_mostAlike_22 : decode b_Fits_mostAlike 22 = .ok (.iinc 2 1, 3) := by decide +kernel
theorem d_Fits_mostAlike_25 : decode b_Fits_mostAlike 25 = .ok (.goto (-23), 3) := by decide +kernel
theorem d_Fits_mostAlike_28 : decode b_Fits_mostAlike 28 = .ok (.iconst 0, 1) := by decide +kernel
theorem d_Fits_mostAlike_29 : decode b_Fits_mostAlike 29 = .ok (.istore_n 2, 1) := by decide +kernel
theorem d_Fits_mostAlike_30 : decode b_Fits_mostAlike 30 = .ok (.iconst 0, 1) := by decide +kernel
theorem d_Fits_mostAlike_31 : decode b_Fits_mostAlike 31 = .ok (.istore_n 3, 1) := by decide +kernel
theorem d_Fits_mostAlike_32 : decode b_Fits_mostAlike 32 = .ok (.iload_n 3, 1) := by decide +kernel
theorem d_Fits_mostAlike_33 : decode b_Fits_mostAlike 33 = .ok (.aload_n 0, 1) := by decide +kernel
theorem d_Fits_mostAlike_34 : decode b_Fits_mostAlike 34 = .ok (.getfield 21, 3) := by decide +kernel
theorem d_Fits_mostAlike_37 : decode b_Fits_mostAlike 37 = .ok (.if_icmp .ge 40, 3) := by decide +kernel
theorem d_Fits_mostAlike_40 : decode b_Fits_mostAlike 40 = .ok (.aload_n 0, 1) := by decide +kernel
theorem d_Fits_mostAlike_41 : decode b_Fits_mostAlike 41 = .ok (.iload_n 3, 1) := by decide +kernel
theorem d_Fits_mostAlike_42 : decode b_Fits_mostAlike 42 = .ok (.iload_n 1, 1) := by decide +kernel
theorem d_Fits_mostAlike_43 : decode b_Fits_mostAlike 43 = .ok (.invokevirtual 37, 3) := by decide +kernel
theorem d_Fits_mostAlike_46 : decode b_Fits_mostAlike 46 = .ok (.istore 4, 2) := by decide +kernel
theorem d_Fits_mostAlike_48 : decode b_Fits_mostAlike 48 = .ok (.aload_n 0, 1) := by decide +kernel
theorem d_Fits_mostAlike_49 : decode b_Fits_mostAlike 49 = .ok (.getfield 18, 3) := by decide +kernel
theorem d_Fits_mostAlike_52 : decode b_Fits_mostAlike 52 = .ok (.iload 4, 2) := by decide +kernel
theorem d_Fits_mostAlike_54 : decode b_Fits_mostAlike 54 = .ok (.dup2, 1) := by decide +kernel
theorem d_Fits_mostAlike_55 : decode b_Fits_mostAlike 55 = .ok (.iaload, 1) := by decide +kernel
theorem d_Fits_mostAlike_56 : decode b_Fits_mostAlike 56 = .ok (.iconst 1, 1) := by decide +kernel
theorem d_Fits_mostAlike_57 : decode b_Fits_mostAlike 57 = .ok (.iadd, 1) := by decide +kernel
theorem d_Fits_mostAlike_58 : decode b_Fits_mostAlike 58 = .ok (.iastore, 1) := by decide +kernel
theorem d_Fits_mostAlike_59 : decode b_Fits_mostAlike 59 = .ok (.iload_n 2, 1) := by decide +kernel
theorem d_Fits_mostAlike_60 : decode b_Fits_mostAlike 60 = .ok (.aload_n 0, 1) := by decide +kernel
theorem d_Fits_mostAlike_61 : decode b_Fits_mostAlike 61 = .ok (.getfield 18, 3) := by decide +kernel
theorem d_Fits_mostAlike_64 : decode b_Fits_mostAlike 64 = .ok (.iload 4, 2) := by decide +kernel
theorem d_Fits_mostAlike_66 : decode b_Fits_mostAlike 66 = .ok (.iaload, 1) := by decide +kernel
theorem d_Fits_mostAlike_67 : decode b_Fits_mostAlike 67 = .ok (.invokestatic 40, 3) := by decide +kernel
theorem d_Fits_mostAlike_70 : decode b_Fits_mostAlike 70 = .ok (.istore_n 2, 1) := by decide +kernel
theorem d_Fits_mostAlike_71 : decode b_Fits_mostAlike 71 = .ok (.iinc 3 1, 3) := by decide +kernel
theorem d_Fits_mostAlike_74 : decode b_Fits_mostAlike 74 = .ok (.goto (-42), 3) := by decide +kernel
theorem d_Fits_mostAlike_77 : decode b_Fits_mostAlike 77 = .ok (.iload_n 2, 1) := by decide +kernel
theorem d_Fits_mostAlike_78 : decode b_Fits_mostAlike 78 = .ok (.ireturn, 1) := by decide +kernel
abbrev b_Jobs_takeFrom : ByteArray := prog_4_method_2_code
abbrev y_Jobs_takeFrom : MethodName := ⟨"RiverTuesdays$Jobs", "takeFrom", "(LRiverTuesdays$Row;LRiverTuesdays$Row;)V"⟩
theorem ok_Jobs_takeFrom : okV y_Jobs_takeFrom b_Jobs_takeFrom 4 none 2 2 := ⟨mGW (List.mem_of_getElem? (i := 891) (by decide +kernel)) rfl, mGW (List.mem_of_getElem? (i := 892) (by decide +kernel)) rfl, mGW (List.mem_of_getElem? (i := 80) (by decide +kernel)) rfl, mGW (List.mem_of_getElem? (i := 893) (by decide +kernel)) rfl, ⟨by decide, by decide, by decide +kernel⟩, rfl⟩
theorem d_Jobs_takeFrom_0 : decode b_Jobs_takeFrom 0 = .ok (.aload_n 0, 1) := by decide +kernel
theorem d_Jobs_takeFrom_1 : decode b_Jobs_takeFrom 1 = .ok (.aload_n 1, 1) := by decide +kernel
theorem d_Jobs_takeFrom_2 : decode b_Jobs_takeFrom 2 = .ok (.getfield 24, 3) := by decide +kernel
theorem d_Jobs_takeFrom_5 : decode b_Jobs_takeFrom 5 = .ok (.bipush 6, 2) := by decide +kernel
theorem d_Jobs_takeFrom_7 : decode b_Jobs_takeFrom 7 = .ok (.invokestatic 30, 3) := by decide +kernel
theorem d_Jobs_takeFrom_10 : decode b_Jobs_takeFrom 10 = .ok (.putfield 36, 3) := by decide +kernel
theorem d_Jobs_takeFrom_13 : decode b_Jobs_takeFrom 13 = .ok (.iconst 0, 1) := by decide +kernel
theorem d_Jobs_takeFrom_14 : decode b_Jobs_takeFrom 14 = .ok (.istore_n 3, 1) := by decide +kernel
theorem d_Jobs_takeFrom_15 : decode b_Jobs_takeFrom 15 = .ok (.iload_n 3, 1) := by decide +kernel
theorem d_Jobs_takeFrom_16 : decode b_Jobs_takeFrom 16 = .ok (.aload_n 0, 1) := by decide +kernel
theorem d_Jobs_takeFrom_17 : decode b_Jobs_takeFrom 17 = .ok (.getfield 36, 3) := by decide +kernel
theorem d_Jobs_takeFrom_20 : decode b_Jobs_takeFrom 20 = .ok (.if_icmp .ge 40, 3) := by decide +kernel
theorem d_Jobs_takeFrom_23 : decode b_Jobs_takeFrom 23 = .ok (.aload_n 0, 1) := by decide +kernel
theorem d_Jobs_takeFrom_24 : decode b_Jobs_takeFrom 24 = .ok (.getfield 9, 3) := by decide +kernel
theorem d_Jobs_takeFrom_27 : decode b_Jobs_takeFrom 27 = .ok (.iload_n 3, 1) := by decide +kernel
theorem d_Jobs_takeFrom_28 : decode b_Jobs_takeFrom 28 = .ok (.aload_n 1, 1) := by decide +kernel
theorem d_Jobs_takeFrom_29 : decode b_Jobs_takeFrom 29 = .ok (.getfield 37, 3) := by decide +kernel
theorem d_Jobs_takeFrom_32 : decode b_Jobs_takeFrom 32 = .ok (.iload_n 3, 1) := by decide +kernel
theorem d_Jobs_takeFrom_33 : decode b_Jobs_takeFrom 33 = .ok (.iaload, 1) := by decide +kernel
theorem d_Jobs_takeFrom_34 : decode b_Jobs_takeFrom 34 = .ok (.iastore, 1) := by decide +kernel
theorem d_Jobs_takeFrom_35 : decode b_Jobs_takeFrom 35 = .ok (.aload_n 0, 1) := by decide +kernel
theorem d_Jobs_takeFrom_36 : decode b_Jobs_takeFrom 36 = .ok (.getfield 15, 3) := by decide +kernel
theorem d_Jobs_takeFrom_39 : decode b_Jobs_takeFrom 39 = .ok (.iload_n 3, 1) := by decide +kernel
theorem d_Jobs_takeFrom_40 : decode b_Jobs_takeFrom 40 = .ok (.aload_n 2, 1) := by decide +kernel
theorem d_Jobs_takeFrom_41 : decode b_Jobs_takeFrom 41 = .ok (.getfield 37, 3) := by decide +kernel
theorem d_Jobs_takeFrom_44 : decode b_Jobs_takeFrom 44 = .ok (.iload_n 3, 1) := by decide +kernel
theorem d_Jobs_takeFrom_45 : decode b_Jobs_takeFrom 45 = .ok (.iaload, 1) := by decide +kernel
theorem d_Jobs_takeFrom_46 : decode b_Jobs_takeFrom 46 = .ok (.iastore, 1) := by decide +kernel
theorem d_Jobs_takeFrom_47 : decode b_Jobs_takeFrom 47 = .ok (.aload_n 0, 1) := by decide +kernel
theorem d_Jobs_takeFrom_48 : decode b_Jobs_takeFrom 48 = .ok (.getfield 18, 3) := by decide +kernel
theorem d_Jobs_takeFrom_51 : decode b_Jobs_takeFrom 51 = .ok (.iload_n 3, 1) := by decide +kernel
theorem d_Jobs_takeFrom_52 : decode b_Jobs_takeFrom 52 = .ok (.iload_n 3, 1) := by decide +kernel
theorem d_Jobs_takeFrom_53 : decode b_Jobs_takeFrom 53 = .ok (.iastore, 1) := by decide +kernel
theorem d_Jobs_takeFrom_54 : decode b_Jobs_takeFrom 54 = .ok (.iinc 3 1, 3) := by decide +kernel
theorem d_Jobs_takeFrom_57 : decode b_Jobs_takeFrom 57 = .ok (.goto (-42), 3) := by decide +kernel
theorem d_Jobs_takeFrom_60 : decode b_Jobs_takeFrom 60 = .ok (.return_, 1) := by decide +kernel
abbrev b_Jobs_swap : ByteArray := prog_4_method_6_code
abbrev y_Jobs_swap : MethodName := ⟨"RiverTuesdays$Jobs", "swap", "(II)V"⟩
theorem ok_Jobs_swap : okV y_Jobs_swap b_Jobs_swap 4 none 2 2 := ⟨mGW (List.mem_of_getElem? (i := 912) (by decide +kernel)) rfl, mGW (List.mem_of_getElem? (i := 25) (by decide +kernel)) rfl, mGW (List.mem_of_getElem? (i := 80) (by decide +kernel)) rfl, mGW (List.mem_of_getElem? (i := 913) (by decide +kernel)) rfl, ⟨by decide, by decide, by decide +kernel⟩, rfl⟩
theorem d_Jobs_swap_0 : decode b_Jobs_swap 0 = .ok (.aload_n 0, 1) := by decide +kernel
theorem d_Jobs_swap_1 : decode b_Jobs_swap 1 = .ok (.getfield 18, 3) := by decide +kernel
theorem d_Jobs_swap_4 : decode b_Jobs_swap 4 = .ok (.iload_n 1, 1) := by decide +kernel
theorem d_Jobs_swap_5 : decode b_Jobs_swap 5 = .ok (.iaload, 1) := by decide +kernel
theorem d_Jobs_swap_6 : decode b_Jobs_swap 6 = .ok (.istore_n 3, 1) := by decide +kernel
theorem d_Jobs_swap_7 : decode b_Jobs_swap 7 = .ok (.aload_n 0, 1) := by decide +kernel
theorem d_Jobs_swap_8 : decode b_Jobs_swap 8 = .ok (.getfield 18, 3) := by decide +kernel
theorem d_Jobs_swap_11 : decode b_Jobs_swap 11 = .ok (.iload_n 1, 1) := by decide +kernel
theorem d_Jobs_swap_12 : decode b_Jobs_swap 12 = .ok (.aload_n 0, 1) := by decide +kernel
theorem d_Jobs_swap_13 : decode b_Jobs_swap 13 = .ok (.getfield 18, 3) := by decide +kernel
theorem d_Jobs_swap_16 : decode b_Jobs_swap 16 = .ok (.iload_n 2, 1) := by decide +kernel
theorem d_Jobs_swap_17 : decode b_Jobs_swap 17 = .ok (.iaload, 1) := by decide +kernel
theorem d_Jobs_swap_18 : decode b_Jobs_swap 18 = .ok (.iastore, 1) := by decide +kernel
theorem d_Jobs_swap_19 : decode b_Jobs_swap 19 = .ok (.aload_n 0, 1) := by decide +kernel
theorem d_Jobs_swap_20 : decode b_Jobs_swap 20 = .ok (.getfield 18, 3) := by decide +kernel
theorem d_Jobs_swap_23 : decode b_Jobs_swap 23 = .ok (.iload_n 2, 1) := by decide +kernel
theorem d_Jobs_swap_24 : decode b_Jobs_swap 24 = .ok (.iload_n 3, 1) := by decide +kernel
theorem d_Jobs_swap_25 : decode b_Jobs_swap 25 = .ok (.iastore, 1) := by decide +kernel
theorem d_Jobs_swap_26 : decode b_Jobs_swap 26 = .ok (.return_, 1) := by decide +kernel
abbrev b_Jobs_goToNextOrder : ByteArray := prog_4_method_5_code
abbrev y_Jobs_goToNextOrder : MethodName := ⟨"RiverTuesdays$Jobs", "goToNextOrder", "()Z"⟩
theorem ok_Jobs_goToNextOrder : okV y_Jobs_goToNextOrder b_Jobs_goToNextOrder 5 (some .boolean) 0 2 := ⟨mGW (List.mem_of_getElem? (i := 908) (by decide +kernel)) rfl, mGW (List.mem_of_getElem? (i := 24) (by decide +kernel)) rfl, mGW (List.mem_of_getElem? (i := 80) (by decide +kernel)) rfl, mGW (List.mem_of_getElem? (i := 909) (by decide +kernel)) rfl, ⟨by decide, by decide, by decide +kernel⟩, rfl⟩
theorem d_Jobs_goToNextOrder_0 : decode b_Jobs_goToNextOrder 0 = .ok (.aload_n 0, 1) := by decide +kernel
theorem d_Jobs_goToNextOrder_1 : decode b_Jobs_goToNextOrder 1 = .ok (.getfield 36, 3) := by decide +kernel
theorem d_Jobs_goToNextOrder_4 : decode b_Jobs_goToNextOrder 4 = .ok (.iconst 2, 1) := by decide +kernel
theorem d_Jobs_goToNextOrder_5 : decode b_Jobs_goToNextOrder 5 = .ok (.isub, 1) := by decide +kernel
theorem d_Jobs_goToNextOrder_6 : decode b_Jobs_goToNextOrder 6 = .ok (.istore_n 1, 1) := by decide +kernel
theorem d_Jobs_goToNextOrder_7 : decode b_Jobs_goToNextOrder 7 = .ok (.iload_n 1, 1) := by decide +kernel
theorem d_Jobs_goToNextOrder_8 : decode b_Jobs_goToNextOrder 8 = .ok (.ifCond .lt 26, 3) := by decide +kernel
theorem d_Jobs_goToNextOrder_11 : decode b_Jobs_goToNextOrder 11 = .ok (.aload_n 0, 1) := by decide +kernel
theorem d_Jobs_goToNextOrder_12 : decode b_Jobs_goToNextOrder 12 = .ok (.getfield 18, 3) := by decide +kernel
theorem d_Jobs_goToNextOrder_15 : decode b_Jobs_goToNextOrder 15 = .ok (.iload_n 1, 1) := by decide +kernel
theorem d_Jobs_goToNextOrder_16 : decode b_Jobs_goToNextOrder 16 = .ok (.iaload, 1) := by decide +kernel
theorem d_Jobs_goToNextOrder_17 : decode b_Jobs_goToNextOrder 17 = .ok (.aload_n 0, 1) := by decide +kernel
theorem d_Jobs_goToNextOrder_18 : decode b_Jobs_goToNextOrder 18 = .ok (.getfield 18, 3) := by decide +kernel
theorem d_Jobs_goToNextOrder_21 : decode b_Jobs_goToNextOrder 21 = .ok (.iload_n 1, 1) := by decide +kernel
theorem d_Jobs_goToNextOrder_22 : decode b_Jobs_goToNextOrder 22 = .ok (.iconst 1, 1) := by decide +kernel
theorem d_Jobs_goToNextOrder_23 : decode b_Jobs_goToNextOrder 23 = .ok (.iadd, 1) := by decide +kernel
theorem d_Jobs_goToNextOrder_24 : decode b_Jobs_goToNextOrder 24 = .ok (.iaload, 1) := by decide +kernel
theorem d_Jobs_goToNextOrder_25 : decode b_Jobs_goToNextOrder 25 = .ok (.if_icmp .le 9, 3) := by decide +kernel
theorem d_Jobs_goToNextOrder_28 : decode b_Jobs_goToNextOrder 28 = .ok (.iinc 1 (-1), 3) := by decide +kernel
theorem d_Jobs_goToNextOrder_31 : decode b_Jobs_goToNextOrder 31 = .ok (.goto (-24), 3) := by decide +kernel
theorem d_Jobs_goToNextOrder_34 : decode b_Jobs_goToNextOrder 34 = .ok (.iload_n 1, 1) := by decide +kernel
theorem d_Jobs_goToNextOrder_35 : decode b_Jobs_goToNextOrder 35 = .ok (.ifCond .ge 5, 3) := by decide +kernel
theorem d_Jobs_goToNextOrder_38 : decode b_Jobs_goToNextOrder 38 = .ok (.iconst 0, 1) := by decide +kernel
theorem d_Jobs_goToNextOrder_39 : decode b_Jobs_goToNextOrder 39 = .ok (.ireturn, 1) := by decide +kernel
theorem d_Jobs_goToNextOrder_40 : decode b_Jobs_goToNextOrder 40 = .ok (.aload_n 0, 1) := by decide +kernel
theorem d_Jobs_goToNextOrder_41 : decode b_Jobs_goToNextOrder 41 = .ok (.getfield 36, 3) := by decide +kernel
theorem d_Jobs_goToNextOrder_44 : decode b_Jobs_goToNextOrder 44 = .ok (.iconst 1, 1) := by decide +kernel
theorem d_Jobs_goToNextOrder_45 : decode b_Jobs_goToNextOrder 45 = .ok (.isub, 1) := by decide +kernel
theorem d_Jobs_goToNextOrder_46 : decode b_Jobs_goToNextOrder 46 = .ok (.istore_n 2, 1) := by decide +kernel
theorem d_Jobs_goToNextOrder_47 : decode b_Jobs_goToNextOrder 47 = .ok (.iload_n 2, 1) := by decide +kernel
theorem d_Jobs_goToNextOrder_48 : decode b_Jobs_goToNextOrder 48 = .ok (.iload_n 1, 1) := by decide +kernel
theorem d_Jobs_goToNextOrder_49 : decode b_Jobs_goToNextOrder 49 = .ok (.if_icmp .le 24, 3) := by decide +kernel
theorem d_Jobs_goToNextOrder_52 : decode b_Jobs_goToNextOrder 52 = .ok (.aload_n 0, 1) := by decide +kernel
theorem d_Jobs_goToNextOrder_53 : decode b_Jobs_goToNextOrder 53 = .ok (.getfield 18, 3) := by decide +kernel
theorem d_Jobs_goToNextOrder_56 : decode b_Jobs_goToNextOrder 56 = .ok (.iload_n 2, 1) := by decide +kernel
theorem d_Jobs_goToNextOrder_57 : decode b_Jobs_goToNextOrder 57 = .ok (.iaload, 1) := by decide +kernel
theorem d_Jobs_goToNextOrder_58 : decode b_Jobs_goToNextOrder 58 = .ok (.aload_n 0, 1) := by decide +kernel
theorem d_Jobs_goToNextOrder_59 : decode b_Jobs_goToNextOrder 59 = .ok (.getfield 18, 3) := by decide +kernel
theorem d_Jobs_goToNextOrder_62 : decode b_Jobs_goToNextOrder 62 = .ok (.iload_n 1, 1) := by decide +kernel
theorem d_Jobs_goToNextOrder_63 : decode b_Jobs_goToNextOrder 63 = .ok (.iaload, 1) := by decide +kernel
theorem d_Jobs_goToNextOrder_64 : decode b_Jobs_goToNextOrder 64 = .ok (.if_icmp .ge 9, 3) := by decide +kernel
theorem d_Jobs_goToNextOrder_67 : decode b_Jobs_goToNextOrder 67 = .ok (.iinc 2 (-1), 3) := by decide +kernel
theorem d_Jobs_goToNextOrder_70 : decode b_Jobs_goToNextOrder 70 = .ok (.goto (-23), 3) := by decide +kernel
theorem d_Jobs_goToNextOrder_73 : decode b_Jobs_goToNextOrder 73 = .ok (.aload_n 0, 1) := by decide +kernel
theorem d_Jobs_goToNextOrder_74 : decode b_Jobs_goToNextOrder 74 = .ok (.iload_n 1, 1) := by decide +kernel
theorem d_Jobs_goToNextOrder_75 : decode b_Jobs_goToNextOrder 75 = .ok (.iload_n 2, 1) := by decide +kernel
theorem d_Jobs_goToNextOrder_76 : decode b_Jobs_goToNextOrder 76 = .ok (.invokevirtual 58, 3) := by decide +kernel
theorem d_Jobs_goToNextOrder_79 : decode b_Jobs_goToNextOrder 79 = .ok (.iload_n 1, 1) := by decide +kernel
theorem d_Jobs_goToNextOrder_80 : decode b_Jobs_goToNextOrder 80 = .ok (.iconst 1, 1) := by decide +kernel
theorem d_Jobs_goToNextOrder_81 : decode b_Jobs_goToNextOrder 81 = .ok (.iadd, 1) := by decide +kernel
theorem d_Jobs_goToNextOrder_82 : decode b_Jobs_goToNextOrder 82 = .ok (.istore_n 3, 1) := by decide +kernel
theorem d_Jobs_goToNextOrder_83 : decode b_Jobs_goToNextOrder 83 = .ok (.aload_n 0, 1) := by decide +kernel
theorem d_Jobs_goToNextOrder_84 : decode b_Jobs_goToNextOrder 84 = .ok (.getfield 36, 3) := by decide +kernel
theorem d_Jobs_goToNextOrder_87 : decode b_Jobs_goToNextOrder 87 = .ok (.iconst 1, 1) := by decide +kernel
theorem d_Jobs_goToNextOrder_88 : decode b_Jobs_goToNextOrder 88 = .ok (.isub, 1) := by decide +kernel
theorem d_Jobs_goToNextOrder_89 : decode b_Jobs_goToNextOrder 89 = .ok (.istore 4, 2) := by decide +kernel
theorem d_Jobs_goToNextOrder_91 : decode b_Jobs_goToNextOrder 91 = .ok (.iload_n 3, 1) := by decide +kernel
theorem d_Jobs_goToNextOrder_92 : decode b_Jobs_goToNextOrder 92 = .ok (.iload 4, 2) := by decide +kernel
theorem d_Jobs_goToNextOrder_94 : decode b_Jobs_goToNextOrder 94 = .ok (.if_icmp .ge 19, 3) := by decide +kernel
theorem d_Jobs_goToNextOrder_97 : decode b_Jobs_goToNextOrder 97 = .ok (.aload_n 0, 1) := by decide +kernel
theorem d_Jobs_goToNextOrder_98 : decode b_Jobs_goToNextOrder 98 = .ok (.iload_n 3, 1) := by decide +kernel
theorem d_Jobs_goToNextOrder_99 : decode b_Jobs_goToNextOrder 99 = .ok (.iload 4, 2) := by decide +kernel
theorem d_Jobs_goToNextOrder_101 : decode b_Jobs_goToNextOrder 101 = .ok (.invokevirtual 58, 3) := by decide +kernel
theorem d_Jobs_goToNextOrder_104 : decode b_Jobs_goToNextOrder 104 = .ok (.iinc 3 1, 3) := by decide +kernel
theorem d_Jobs_goToNextOrder_107 : decode b_Jobs_goToNextOrder 107 = .ok (.iinc 4 (-1), 3) := by decide +kernel
theorem d_Jobs_goToNextOrder_110 : decode b_Jobs_goToNextOrder 110 = .ok (.goto (-19), 3) := by decide +kernel
theorem d_Jobs_goToNextOrder_113 : decode b_Jobs_goToNextOrder 113 = .ok (.iconst 1, 1) := by decide +kernel
theorem d_Jobs_goToNextOrder_114 : decode b_Jobs_goToNextOrder 114 = .ok (.ireturn, 1) := by decide +kernel
abbrev b_Jobs_lateTogether : ByteArray := prog_4_method_4_code
abbrev y_Jobs_lateTogether : MethodName := ⟨"RiverTuesdays$Jobs", "lateTogether", "()I"⟩
theorem ok_Jobs_lateTogether : okV y_Jobs_lateTogether b_Jobs_lateTogether 4 (some .int) 0 2 := ⟨mGW (List.mem_of_getElem? (i := 902) (by decide +kernel)) rfl, mGW (List.mem_of_getElem? (i := 23) (by decide +kernel)) rfl, mGW (List.mem_of_getElem? (i := 80) (by decide +kernel)) rfl, mGW (List.mem_of_getElem? (i := 903) (by decide +kernel)) rfl, ⟨by decide, by decide, by decide +kernel⟩, rfl⟩
theorem d_Jobs_lateTogether_0 : decode b_Jobs_lateTogether 0 = .ok (.iconst 0, 1) := by decide +kernel
theorem d_Jobs_lateTogether_1 : decode b_Jobs_lateTogether 1 = .ok (.istore_n 1, 1) := by decide +kernel
theorem d_Jobs_lateTogether_2 : decode b_Jobs_lateTogether 2 = .ok (.iconst 0, 1) := by decide +kernel
theorem d_Jobs_lateTogether_3 : decode b_Jobs_lateTogether 3 = .ok (.istore_n 2, 1) := by decide +kernel
theorem d_Jobs_lateTogether_4 : decode b_Jobs_lateTogether 4 = .ok (.iconst 0, 1) := by decide +kernel
theorem d_Jobs_lateTogether_5 : decode b_Jobs_lateTogether 5 = .ok (.istore_n 3, 1) := by decide +kernel
theorem d_Jobs_lateTogether_6 : decode b_Jobs_lateTogether 6 = .ok (.iload_n 3, 1) := by decide +kernel
theorem d_Jobs_lateTogether_7 : decode b_Jobs_lateTogether 7 = .ok (.aload_n 0, 1) := by decide +kernel
theorem d_Jobs_lateTogether_8 : decode b_Jobs_lateTogether 8 = .ok (.getfield 36, 3) := by decide +kernel
theorem d_Jobs_lateTogether_11 : decode b_Jobs_lateTogether 11 = .ok (.if_icmp .ge 43, 3) := by decide +kernel
theorem d_Jobs_lateTogether_14 : decode b_Jobs_lateTogether 14 = .ok (.iload_n 1, 1) := by decide +kernel
theorem d_Jobs_lateTogether_15 : decode b_Jobs_lateTogether 15 = .ok (.aload_n 0, 1) := by decide +kernel
theorem d_Jobs_lateTogether_16 : decode b_Jobs_lateTogether 16 = .ok (.getfield 9, 3) := by decide +kernel
theorem d_Jobs_lateTogether_19 : decode b_Jobs_lateTogether 19 = .ok (.aload_n 0, 1) := by decide +kernel
theorem d_Jobs_lateTogether_20 : decode b_Jobs_lateTogether 20 = .ok (.getfield 18, 3) := by decide +kernel
theorem d_Jobs_lateTogether_23 : decode b_Jobs_lateTogether 23 = .ok (.iload_n 3, 1) := by decide +kernel
theorem d_Jobs_lateTogether_24 : decode b_Jobs_lateTogether 24 = .ok (.iaload, 1) := by decide +kernel
theorem d_Jobs_lateTogether_25 : decode b_Jobs_lateTogether 25 = .ok (.iaload, 1) := by decide +kernel
theorem d_Jobs_lateTogether_26 : decode b_Jobs_lateTogether 26 = .ok (.iadd, 1) := by decide +kernel
theorem d_Jobs_lateTogether_27 : decode b_Jobs_lateTogether 27 = .ok (.istore_n 1, 1) := by decide +kernel
theorem d_Jobs_lateTogether_28 : decode b_Jobs_lateTogether 28 = .ok (.iload_n 2, 1) := by decide +kernel
theorem d_Jobs_lateTogether_29 : decode b_Jobs_lateTogether 29 = .ok (.iload_n 1, 1) := by decide +kernel
theorem d_Jobs_lateTogether_30 : decode b_Jobs_lateTogether 30 = .ok (.aload_n 0, 1) := by decide +kernel
theorem d_Jobs_lateTogether_31 : decode b_Jobs_lateTogether 31 = .ok (.getfield 15, 3) := by decide +kernel
theorem d_Jobs_lateTogether_34 : decode b_Jobs_lateTogether 34 = .ok (.aload_n 0, 1) := by decide +kernel
theorem d_Jobs_lateTogether_35 : decode b_Jobs_lateTogether 35 = .ok (.getfield 18, 3) := by decide +kernel
theorem d_Jobs_lateTogether_38 : decode b_Jobs_lateTogether 38 = .ok (.iload_n 3, 1) := by decide +kernel
theorem d_Jobs_lateTogether_39 : decode b_Jobs_lateTogether 39 = .ok (.iaload, 1) := by decide +kernel
theorem d_Jobs_lateTogether_40 : decode b_Jobs_lateTogether 40 = .ok (.iaload, 1) := by decide +kernel
theorem d_Jobs_lateTogether_41 : decode b_Jobs_lateTogether 41 = .ok (.isub, 1) := by decide +kernel
theorem d_Jobs_lateTogether_42 : decode b_Jobs_lateTogether 42 = .ok (.iconst 0, 1) := by decide +kernel
theorem d_Jobs_lateTogether_43 : decode b_Jobs_lateTogether 43 = .ok (.invokestatic 55, 3) := by decide +kernel
theorem d_Jobs_lateTogether_46 : decode b_Jobs_lateTogether 46 = .ok (.iadd, 1) := by decide +kernel
theorem d_Jobs_lateTogether_47 : decode b_Jobs_lateTogether 47 = .ok (.istore_n 2, 1) := by decide +kernel
theorem d_Jobs_lateTogether_48 : decode b_Jobs_lateTogether 48 = .ok (.iinc 3 1, 3) := by decide +kernel
theorem d_Jobs_lateTogether_51 : decode b_Jobs_lateTogether 51 = .ok (.goto (-45), 3) := by decide +kernel
theorem d_Jobs_lateTogether_54 : decode b_Jobs_lateTogether 54 = .ok (.iload_n 2, 1) := by decide +kernel
theorem d_Jobs_lateTogether_55 : decode b_Jobs_lateTogether 55 = .ok (.ireturn, 1) := by decide +kernel
abbrev b_Jobs_findBestOrder : ByteArray := prog_4_method_3_code
abbrev y_Jobs_findBestOrder : MethodName := ⟨"RiverTuesdays$Jobs", "findBestOrder", "()I"⟩
theorem ok_Jobs_findBestOrder : okV y_Jobs_findBestOrder b_Jobs_findBestOrder 5 (some .int) 0 2 := ⟨mGW (List.mem_of_getElem? (i := 896) (by decide +kernel)) rfl, mGW (List.mem_of_getElem? (i := 897) (by decide +kernel)) rfl, mGW (List.mem_of_getElem? (i := 80) (by decide +kernel)) rfl, mGW (List.mem_of_getElem? (i := 898) (by decide +kernel)) rfl, ⟨by decide, by decide, by decide +kernel⟩, rfl⟩
theorem d_Jobs_findBestOrder_0 : decode b_Jobs_findBestOrder 0 = .ok (.ldc 40, 2) := by decide +kernel
theorem d_Jobs_findBestOrder_2 : decode b_Jobs_findBestOrder 2 = .ok (.istore_n 1, 1) := by decide +kernel
theorem d_Jobs_findBestOrder_3 : decode b_Jobs_findBestOrder 3 = .ok (.iconst 1, 1) := by decide +kernel
theorem d_Jobs_findBestOrder_4 : decode b_Jobs_findBestOrder 4 = .ok (.istore_n 2, 1) := by decide +kernel
theorem d_Jobs_findBestOrder_5 : decode b_Jobs_findBestOrder 5 = .ok (.iconst 0, 1) := by decide +kernel
theorem d_Jobs_findBestOrder_6 : decode b_Jobs_findBestOrder 6 = .ok (.istore_n 3, 1) := by decide +kernel
theorem d_Jobs_findBestOrder_7 : decode b_Jobs_findBestOrder 7 = .ok (.iload_n 3, 1) := by decide +kernel
theorem d_Jobs_findBestOrder_8 : decode b_Jobs_findBestOrder 8 = .ok (.sipush 720, 3) := by decide +kernel
theorem d_Jobs_findBestOrder_11 : decode b_Jobs_findBestOrder 11 = .ok (.if_icmp .ge 50, 3) := by decide +kernel
theorem d_Jobs_findBestOrder_14 : decode b_Jobs_findBestOrder 14 = .ok (.iload_n 2, 1) := by decide +kernel
theorem d_Jobs_findBestOrder_15 : decode b_Jobs_findBestOrder 15 = .ok (.ifCond .eq 46, 3) := by decide +kernel
theorem d_Jobs_findBestOrder_18 : decode b_Jobs_findBestOrder 18 = .ok (.aload_n 0, 1) := by decide +kernel
theorem d_Jobs_findBestOrder_19 : decode b_Jobs_findBestOrder 19 = .ok (.invokevirtual 41, 3) := by decide +kernel
theorem d_Jobs_findBestOrder_22 : decode b_Jobs_findBestOrder 22 = .ok (.istore 4, 2) := by decide +kernel
theorem d_Jobs_findBestOrder_24 : decode b_Jobs_findBestOrder 24 = .ok (.iload 4, 2) := by decide +kernel
theorem d_Jobs_findBestOrder_26 : decode b_Jobs_findBestOrder 26 = .ok (.iload_n 1, 1) := by decide +kernel
theorem d_Jobs_findBestOrder_27 : decode b_Jobs_findBestOrder 27 = .ok (.if_icmp .ge 23, 3) := by decide +kernel
theorem d_Jobs_findBestOrder_30 : decode b_Jobs_findBestOrder 30 = .ok (.iload 4, 2) := by decide +kernel
theorem d_Jobs_findBestOrder_32 : decode b_Jobs_findBestOrder 32 = .ok (.istore_n 1, 1) := by decide +kernel
theorem d_Jobs_findBestOrder_33 : decode b_Jobs_findBestOrder 33 = .ok (.aload_n 0, 1) := by decide +kernel
theorem d_Jobs_findBestOrder_34 : decode b_Jobs_findBestOrder 34 = .ok (.getfield 18, 3) := by decide +kernel
theorem d_Jobs_findBestOrder_37 : decode b_Jobs_findBestOrder 37 = .ok (.iconst 0, 1) := by decide +kernel
theorem d_Jobs_findBestOrder_38 : decode b_Jobs_findBestOrder 38 = .ok (.aload_n 0, 1) := by decide +kernel
theorem d_Jobs_findBestOrder_39 : decode b_Jobs_findBestOrder 39 = .ok (.getfield 21, 3) := by decide +kernel
theorem d_Jobs_findBestOrder_42 : decode b_Jobs_findBestOrder 42 = .ok (.iconst 0, 1) := by decide +kernel
theorem d_Jobs_findBestOrder_43 : decode b_Jobs_findBestOrder 43 = .ok (.aload_n 0, 1) := by decide +kernel
theorem d_Jobs_findBestOrder_44 : decode b_Jobs_findBestOrder 44 = .ok (.getfield 36, 3) := by decide +kernel
theorem d_Jobs_findBestOrder_47 : decode b_Jobs_findBestOrder 47 = .ok (.invokestatic 45, 3) := by decide +kernel
theorem d_Jobs_findBestOrder_50 : decode b_Jobs_findBestOrder 50 = .ok (.aload_n 0, 1) := by decide +kernel
theorem d_Jobs_findBestOrder_51 : decode b_Jobs_findBestOrder 51 = .ok (.invokevirtual 51, 3) := by decide +kernel
theorem d_Jobs_findBestOrder_54 : decode b_Jobs_findBestOrder 54 = .ok (.istore_n 2, 1) := by decide +kernel
theorem d_Jobs_findBestOrder_55 : decode b_Jobs_findBestOrder 55 = .ok (.iinc 3 1, 3) := by decide +kernel
theorem d_Jobs_findBestOrder_58 : decode b_Jobs_findBestOrder 58 = .ok (.goto (-51), 3) := by decide +kernel
theorem d_Jobs_findBestOrder_61 : decode b_Jobs_findBestOrder 61 = .ok (.iload_n 1, 1) := by decide +kernel
theorem d_Jobs_findBestOrder_62 : decode b_Jobs_findBestOrder 62 = .ok (.ireturn, 1) := by decide +kernel
abbrev b_Jobs_isInTime : ByteArray := prog_4_method_9_code
abbrev y_Jobs_isInTime : MethodName := ⟨"RiverTuesdays$Jobs", "isInTime", "(I)Z"⟩
theorem ok_Jobs_isInTime : okV y_Jobs_isInTime b_Jobs_isInTime 5 (some .boolean) 1 2 := ⟨mGW (List.mem_of_getElem? (i := 929) (by decide +kernel)) rfl, mGW (List.mem_of_getElem? (i := 27) (by decide +kernel)) rfl, mGW (List.mem_of_getElem? (i := 80) (by decide +kernel)) rfl, mGW (List.mem_of_getElem? (i := 930) (by decide +kernel)) rfl, ⟨by decide, by decide, by decide +kernel⟩, rfl⟩
theorem d_Jobs_isInTime_0 : decode b_Jobs_isInTime 0 = .ok (.iconst 0, 1) := by decide +kernel
theorem d_Jobs_isInTime_1 : decode b_Jobs_isInTime 1 = .ok (.istore_n 2, 1) := by decide +kernel
theorem d_Jobs_isInTime_2 : decode b_Jobs_isInTime 2 = .ok (.iconst 0, 1) := by decide +kernel
theorem d_Jobs_isInTime_3 : decode b_Jobs_isInTime 3 = .ok (.istore_n 3, 1) := by decide +kernel
theorem d_Jobs_isInTime_4 : decode b_Jobs_isInTime 4 = .ok (.iload_n 3, 1) := by decide +kernel
theorem d_Jobs_isInTime_5 : decode b_Jobs_isInTime 5 = .ok (.aload_n 0, 1) := by decide +kernel
theorem d_Jobs_isInTime_6 : decode b_Jobs_isInTime 6 = .ok (.getfield 36, 3) := by decide +kernel
theorem d_Jobs_isInTime_9 : decode b_Jobs_isInTime 9 = .ok (.if_icmp .ge 49, 3) := by decide +kernel
theorem d_Jobs_isInTime_12 : decode b_Jobs_isInTime 12 = .ok (.aload_n 0, 1) := by decide +kernel
theorem d_Jobs_isInTime_13 : decode b_Jobs_isInTime 13 = .ok (.getfield 18, 3) := by decide +kernel
theorem d_Jobs_isInTime_16 : decode b_Jobs_isInTime 16 = .ok (.iload_n 3, 1) := by decide +kernel
theorem d_Jobs_isInTime_17 : decode b_Jobs_isInTime 17 = .ok (.iaload, 1) := by decide +kernel
theorem d_Jobs_isInTime_18 : decode b_Jobs_isInTime 18 = .ok (.istore 4, 2) := by decide +kernel
theorem d_Jobs_isInTime_20 : decode b_Jobs_isInTime 20 = .ok (.iload_n 1, 1) := by decide +kernel
theorem d_Jobs_isInTime_21 : decode b_Jobs_isInTime 21 = .ok (.iload 4, 2) := by decide +kernel
theorem d_Jobs_isInTime_23 : decode b_Jobs_isInTime 23 = .ok (.invokestatic 75, 3) := by decide +kernel
theorem d_Jobs_isInTime_26 : decode b_Jobs_isInTime 26 = .ok (.ifCond .eq 26, 3) := by decide +kernel
theorem d_Jobs_isInTime_29 : decode b_Jobs_isInTime 29 = .ok (.iload_n 2, 1) := by decide +kernel
theorem d_Jobs_isInTime_30 : decode b_Jobs_isInTime 30 = .ok (.aload_n 0, 1) := by decide +kernel
theorem d_Jobs_isInTime_31 : decode b_Jobs_isInTime 31 = .ok (.getfield 9, 3) := by decide +kernel
theorem d_Jobs_isInTime_34 : decode b_Jobs_isInTime 34 = .ok (.iload 4, 2) := by decide +kernel
theorem d_Jobs_isInTime_36 : decode b_Jobs_isInTime 36 = .ok (.iaload, 1) := by decide +kernel
theorem d_Jobs_isInTime_37 : decode b_Jobs_isInTime 37 = .ok (.iadd, 1) := by decide +kernel
theorem d_Jobs_isInTime_38 : decode b_Jobs_isInTime 38 = .ok (.istore_n 2, 1) := by decide +kernel
theorem d_Jobs_isInTime_39 : decode b_Jobs_isInTime 39 = .ok (.iload_n 2, 1) := by decide +kernel
theorem d_Jobs_isInTime_40 : decode b_Jobs_isInTime 40 = .ok (.aload_n 0, 1) := by decide +kernel
theorem d_Jobs_isInTime_41 : decode b_Jobs_isInTime 41 = .ok (.getfield 15, 3) := by decide +kernel
theorem d_Jobs_isInTime_44 : decode b_Jobs_isInTime 44 = .ok (.iload 4, 2) := by decide +kernel
theorem d_Jobs_isInTime_46 : decode b_Jobs_isInTime 46 = .ok (.iaload, 1) := by decide +kernel
theorem d_Jobs_isInTime_47 : decode b_Jobs_isInTime 47 = .ok (.if_icmp .le 5, 3) := by decide +kernel
theorem d_Jobs_isInTime_50 : decode b_Jobs_isInTime 50 = .ok (.iconst 0, 1) := by decide +kernel
theorem d_Jobs_isInTime_51 : decode b_Jobs_isInTime 51 = .ok (.ireturn, 1) := by decide +kernel
theorem d_Jobs_isInTime_52 : decode b_Jobs_isInTime 52 = .ok (.iinc 3 1, 3) := by decide +kernel
theorem d_Jobs_isInTime_55 : decode b_Jobs_isInTime 55 = .ok (.goto (-51), 3) := by decide +kernel
theorem d_Jobs_isInTime_58 : decode b_Jobs_isInTime 58 = .ok (.iconst 1, 1) := by decide +kernel
theorem d_Jobs_isInTime_59 : decode b_Jobs_isInTime 59 = .ok (.ireturn, 1) := by decide +kernel
abbrev b_Jobs_orderByDue : ByteArray := prog_4_method_8_code
abbrev y_Jobs_orderByDue : MethodName := ⟨"RiverTuesdays$Jobs", "orderByDue", "()V"⟩
theorem ok_Jobs_orderByDue : okV y_Jobs_orderByDue b_Jobs_orderByDue 3 none 0 2 := ⟨mGW (List.mem_of_getElem? (i := 924) (by decide +kernel)) rfl, mGW (List.mem_of_getElem? (i := 26) (by decide +kernel)) rfl, mGW (List.mem_of_getElem? (i := 80) (by decide +kernel)) rfl, mGW (List.mem_of_getElem? (i := 925) (by decide +kernel)) rfl, ⟨by decide, by decide, by decide +kernel⟩, rfl⟩
theorem d_Jobs_orderByDue_0 : decode b_Jobs_orderByDue 0 = .ok (.iconst 1, 1) := by decide +kernel
theorem d_Jobs_orderByDue_1 : decode b_Jobs_orderByDue 1 = .ok (.istore_n 1, 1) := by decide +kernel
theorem d_Jobs_orderByDue_2 : decode b_Jobs_orderByDue 2 = .ok (.iload_n 1, 1) := by decide +kernel
theorem d_Jobs_orderByDue_3 : decode b_Jobs_orderByDue 3 = .ok (.aload_n 0, 1) := by decide +kernel
theorem d_Jobs_orderByDue_4 : decode b_Jobs_orderByDue 4 = .ok (.getfield 36, 3) := by decide +kernel
theorem d_Jobs_orderByDue_7 : decode b_Jobs_orderByDue 7 = .ok (.if_icmp .ge 56, 3) := by decide +kernel
theorem d_Jobs_orderByDue_10 : decode b_Jobs_orderByDue 10 = .ok (.iload_n 1, 1) := by decide +kernel
theorem d_Jobs_orderByDue_11 : decode b_Jobs_orderByDue 11 = .ok (.istore_n 2, 1) := by decide +kernel
theorem d_Jobs_orderByDue_12 : decode b_Jobs_orderByDue 12 = .ok (.iload_n 2, 1) := by decide +kernel
theorem d_Jobs_orderByDue_13 : decode b_Jobs_orderByDue 13 = .ok (.ifCond .le 44, 3) := by decide +kernel
theorem d_Jobs_orderByDue_16 : decode b_Jobs_orderByDue 16 = .ok (.aload_n 0, 1) := by decide +kernel
theorem d_Jobs_orderByDue_17 : decode b_Jobs_orderByDue 17 = .ok (.getfield 15, 3) := by decide +kernel
theorem d_Jobs_orderByDue_20 : decode b_Jobs_orderByDue 20 = .ok (.aload_n 0, 1) := by decide +kernel
theorem d_Jobs_orderByDue_21 : decode b_Jobs_orderByDue 21 = .ok (.getfield 18, 3) := by decide +kernel
theorem d_Jobs_orderByDue_24 : decode b_Jobs_orderByDue 24 = .ok (.iload_n 2, 1) := by decide +kernel
theorem d_Jobs_orderByDue_25 : decode b_Jobs_orderByDue 25 = .ok (.iconst 1, 1) := by decide +kernel
theorem d_Jobs_orderByDue_26 : decode b_Jobs_orderByDue 26 = .ok (.isub, 1) := by decide +kernel
theorem d_Jobs_orderByDue_27 : decode b_Jobs_orderByDue 27 = .ok (.iaload, 1) := by decide +kernel
theorem d_Jobs_orderByDue_28 : decode b_Jobs_orderByDue 28 = .ok (.iaload, 1) := by decide +kernel
theorem d_Jobs_orderByDue_29 : decode b_Jobs_orderByDue 29 = .ok (.aload_n 0, 1) := by decide +kernel
theorem d_Jobs_orderByDue_30 : decode b_Jobs_orderByDue 30 = .ok (.getfield 15, 3) := by decide +kernel
theorem d_Jobs_orderByDue_33 : decode b_Jobs_orderByDue 33 = .ok (.aload_n 0, 1) := by decide +kernel
theorem d_Jobs_orderByDue_34 : decode b_Jobs_orderByDue 34 = .ok (.getfield 18, 3) := by decide +kernel
theorem d_Jobs_orderByDue_37 : decode b_Jobs_orderByDue 37 = .ok (.iload_n 2, 1) := by decide +kernel
theorem d_Jobs_orderByDue_38 : decode b_Jobs_orderByDue 38 = .ok (.iaload, 1) := by decide +kernel
theorem d_Jobs_orderByDue_39 : decode b_Jobs_orderByDue 39 = .ok (.iaload, 1) := by decide +kernel
theorem d_Jobs_orderByDue_40 : decode b_Jobs_orderByDue 40 = .ok (.if_icmp .le 17, 3) := by decide +kernel
theorem d_Jobs_orderByDue_43 : decode b_Jobs_orderByDue 43 = .ok (.aload_n 0, 1) := by decide +kernel
theorem d_Jobs_orderByDue_44 : decode b_Jobs_orderByDue 44 = .ok (.iload_n 2, 1) := by decide +kernel
theorem d_Jobs_orderByDue_45 : decode b_Jobs_orderByDue 45 = .ok (.iconst 1, 1) := by decide +kernel
theorem d_Jobs_orderByDue_46 : decode b_Jobs_orderByDue 46 = .ok (.isub, 1) := by decide +kernel
theorem d_Jobs_orderByDue_47 : decode b_Jobs_orderByDue 47 = .ok (.iload_n 2, 1) := by decide +kernel
theorem d_Jobs_orderByDue_48 : decode b_Jobs_orderByDue 48 = .ok (.invokevirtual 58, 3) := by decide +kernel
theorem d_Jobs_orderByDue_51 : decode b_Jobs_orderByDue 51 = .ok (.iinc 2 (-1), 3) := by decide +kernel
theorem d_Jobs_orderByDue_54 : decode b_Jobs_orderByDue 54 = .ok (.goto (-42), 3) := by decide +kernel
theorem d_Jobs_orderByDue_57 : decode b_Jobs_orderByDue 57 = .ok (.iinc 1 1, 3) := by decide +kernel
theorem d_Jobs_orderByDue_60 : decode b_Jobs_orderByDue 60 = .ok (.goto (-58), 3) := by decide +kernel
theorem d_Jobs_orderByDue_63 : decode b_Jobs_orderByDue 63 = .ok (.return_, 1) := by decide +kernel
abbrev b_Jobs_findMostInTime : ByteArray := prog_4_method_7_code
abbrev y_Jobs_findMostInTime : MethodName := ⟨"RiverTuesdays$Jobs", "findMostInTime", "()I"⟩
theorem ok_Jobs_findMostInTime : okV y_Jobs_findMostInTime b_Jobs_findMostInTime 3 (some .int) 0 2 := ⟨mGW (List.mem_of_getElem? (i := 919) (by decide +kernel)) rfl, mGW (List.mem_of_getElem? (i := 920) (by decide +kernel)) rfl, mGW (List.mem_of_getElem? (i := 80) (by decide +kernel)) rfl, mGW (List.mem_of_getElem? (i := 921) (by decide +kernel)) rfl, ⟨by decide, by decide, by decide +kernel⟩, rfl⟩
theorem d_Jobs_findMostInTime_0 : decode b_Jobs_findMostInTime 0 = .ok (.aload_n 0, 1) := by decide +kernel
theorem d_Jobs_findMostInTime_1 : decode b_Jobs_findMostInTime 1 = .ok (.invokevirtual 62, 3) := by decide +kernel
theorem d_Jobs_findMostInTime_4 : decode b_Jobs_findMostInTime 4 = .ok (.iconst 0, 1) := by decide +kernel
theorem d_Jobs_findMostInTime_5 : decode b_Jobs_findMostInTime 5 = .ok (.istore_n 1, 1) := by decide +kernel
theorem d_Jobs_findMostInTime_6 : decode b_Jobs_findMostInTime 6 = .ok (.iconst 1, 1) := by decide +kernel
theorem d_Jobs_findMostInTime_7 : decode b_Jobs_findMostInTime 7 = .ok (.istore_n 2, 1) := by decide +kernel
theorem d_Jobs_findMostInTime_8 : decode b_Jobs_findMostInTime 8 = .ok (.iload_n 2, 1) := by decide +kernel
theorem d_Jobs_findMostInTime_9 : decode b_Jobs_findMostInTime 9 = .ok (.iconst 1, 1) := by decide +kernel
theorem d_Jobs_findMostInTime_10 : decode b_Jobs_findMostInTime 10 = .ok (.aload_n 0, 1) := by decide +kernel
theorem d_Jobs_findMostInTime_11 : decode b_Jobs_findMostInTime 11 = .ok (.getfield 36, 3) := by decide +kernel
theorem d_Jobs_findMostInTime_14 : decode b_Jobs_findMostInTime 14 = .ok (.ishl, 1) := by decide +kernel
theorem d_Jobs_findMostInTime_15 : decode b_Jobs_findMostInTime 15 = .ok (.if_icmp .ge 30, 3) := by decide +kernel
theorem d_Jobs_findMostInTime_18 : decode b_Jobs_findMostInTime 18 = .ok (.iload_n 2, 1) := by decide +kernel
theorem d_Jobs_findMostInTime_19 : decode b_Jobs_findMostInTime 19 = .ok (.invokestatic 65, 3) := by decide +kernel
theorem d_Jobs_findMostInTime_22 : decode b_Jobs_findMostInTime 22 = .ok (.iload_n 1, 1) := by decide +kernel
theorem d_Jobs_findMostInTime_23 : decode b_Jobs_findMostInTime 23 = .ok (.invokestatic 65, 3) := by decide +kernel
theorem d_Jobs_findMostInTime_26 : decode b_Jobs_findMostInTime 26 = .ok (.if_icmp .le 13, 3) := by decide +kernel
theorem d_Jobs_findMostInTime_29 : decode b_Jobs_findMostInTime 29 = .ok (.aload_n 0, 1) := by decide +kernel
theorem d_Jobs_findMostInTime_30 : decode b_Jobs_findMostInTime 30 = .ok (.iload_n 2, 1) := by decide +kernel
theorem d_Jobs_findMostInTime_31 : decode b_Jobs_findMostInTime 31 = .ok (.invokevirtual 71, 3) := by decide +kernel
theorem d_Jobs_findMostInTime_34 : decode b_Jobs_findMostInTime 34 = .ok (.ifCond .eq 5, 3) := by decide +kernel
theorem d_Jobs_findMostInTime_37 : decode b_Jobs_findMostInTime 37 = .ok (.iload_n 2, 1) := by decide +kernel
theorem d_Jobs_findMostInTime_38 : decode b_Jobs_findMostInTime 38 = .ok (.istore_n 1, 1) := by decide +kernel
theorem d_Jobs_findMostInTime_39 : decode b_Jobs_findMostInTime 39 = .ok (.iinc 2 1, 3) := by decide +kernel
theorem d_Jobs_findMostInTime_42 : decode b_Jobs_findMostInTime 42 = .ok (.goto (-34), 3) := by decide +kernel
theorem d_Jobs_findMostInTime_45 : decode b_Jobs_findMostInTime 45 = .ok (.iload_n 1, 1) := by decide +kernel
theorem d_Jobs_findMostInTime_46 : decode b_Jobs_findMostInTime 46 = .ok (.ireturn, 1) := by decide +kernel
def f_Tuesday_begin (a1 : Nat) (D : Dt) : Option (Unit × Dt) :=
  (if inb 0 9 = true then bnd (f_Waters_takeFrom (46 + 6 * (0 : Int32).toNatClampNeg) a1 D) (fun x1 D2 => nm (wr D2 32 5 0) (fun D3 => some ((), D3))) else none)
set_option maxHeartbeats 4000000 in
theorem te_Tuesday_begin {Γ : GmT} {G : Dt → Nat → List (Nat × Value) → List Value → Prop} {rr : Unit} {DD : Dt} {a1 : Nat} (C : Cx Γ "RiverTuesdays$Tuesday" b_Tuesday_begin 2 3 none none DD G) (h1 : kd a1 = 7) {D : Dt} (hf : f_Tuesday_begin a1 D = some (rr, DD)) : G D 0 [(0, .ref (Γ.2.1 32)), (1, .ref (Γ.2.1 a1))] [] := by
  unfold f_Tuesday_begin at hf
  refine r_aload_n (pc := 0) C 0 d_Tuesday_begin_0 rfl rfl ?_
  refine g_Tuesday_behind (pc := 1) C k_id32 Lf_Tuesday_11 d_Tuesday_begin_1 ?_
  refine r_iconst (pc := 4) C (v := 0) d_Tuesday_begin_4 (by decide) ?_
  refine r_aald16 (pc := 5) C kq_Tuesday_behind d_Tuesday_begin_5 hf (fun hn5 hf => ?_)
  refine r_aload_n (pc := 6) C 1 d_Tuesday_begin_6 rfl rfl ?_
  refine r_callVv (pc := 7) (As := [.ref (Γ.2.1 a1)]) (rest := []) C ok_Waters_takeFrom Lm_Tuesday_30 (ke16 _ (inb_lt hn5)) (by decide) ⟨by decide, by decide⟩ rfl rfl (Nat.le_of_ble_eq_true rfl) d_Tuesday_begin_7 hf (fun x D1 hc => c_Waters_takeFrom Γ (ke16 _ (inb_lt hn5)) h1 hc) (fun x1 D2 hf => ?_)
  refine r_aload_n (pc := 10) C 0 d_Tuesday_begin_10 rfl rfl ?_
  refine r_iconst (pc := 11) C (v := 0) d_Tuesday_begin_11 (by decide) ?_
  refine p_Tuesday_isLed (pc := 12) C k_id32 Lf_Tuesday_34 d_Tuesday_begin_12 rfl rfl ?_
  refine r_nmD hf (fun D3 hf => ?_)
  exact r_vret (pc := 15) C d_Tuesday_begin_15 hf
theorem c_Tuesday_begin (Γ : GmT) {a1 : Nat} (h1 : kd a1 = 7) {D : Dt} {rr : Unit} {DD : Dt} (hf : f_Tuesday_begin a1 D = some (rr, DD)) : Mt Γ y_Tuesday_begin b_Tuesday_begin 2 none 3 [.ref (Γ.2.1 32), .ref (Γ.2.1 a1)] D none DD := Mt_of (by decide) (Nat.le_of_ble_eq_true rfl) (fun G C => te_Tuesday_begin C h1 hf)
def f_Tuesday_hoursAlike (v1 : Int32) (D : Dt) : Option (Int32 × Dt) :=
  (if (D 32 5) = 0 then some (0, D) else (if (v1 ^^^ (D 32 4)) = 0 then some (8, D) else bnd (f_J_bitCount (((v1 ^^^ (D 32 4)) &&& (-(v1 ^^^ (D 32 4)))) - 1) D) (fun x1 D2 => some (x1, D2))))
set_option maxHeartbeats 4000000 in
theorem te_Tuesday_hoursAlike {Γ : GmT} {G : Dt → Nat → List (Nat × Value) → List Value → Prop} {rr : Int32} {DD : Dt} (C : Cx Γ "RiverTuesdays$Tuesday" b_Tuesday_hoursAlike 3 2 (some .int) (some (.int rr)) DD G) {v1 : Int32} {D : Dt} (hf : f_Tuesday_hoursAlike v1 D = some (rr, DD)) : G D 0 [(0, .ref (Γ.2.1 32)), (1, .int v1)] [] := by
  unfold f_Tuesday_hoursAlike at hf
  refine r_aload_n (pc := 0) C 0 d_Tuesday_hoursAlike_0 rfl rfl ?_
  refine g_Tuesday_isLed (pc := 1) C k_id32 Lf_Tuesday_34 d_Tuesday_hoursAlike_1 ?_
  refine r_if_ne (pc := 4) C (tgt := 9) d_Tuesday_hoursAlike_4 (by decide) hf (fun c4 hf => ?_) (fun c4 hf => ?_)
  · refine r_iload_n (pc := 9) C 1 d_Tuesday_hoursAlike_9 rfl rfl ?_
    refine r_aload_n (pc := 10) C 0 d_Tuesday_hoursAlike_10 rfl rfl ?_
    refine g_Tuesday_latestPlan (pc := 11) C k_id32 Lf_Tuesday_46 d_Tuesday_hoursAlike_11 ?_
    refine r_ixor (pc := 14) C d_Tuesday_hoursAlike_14 ?_
    refine r_istore_n (pc := 15) (lv' := [(2, .int (v1 ^^^ (D 32 4))), (0, .ref (Γ.2.1 32)), (1, .int v1)]) C d_Tuesday_hoursAlike_15 rfl (Nat.le_of_ble_eq_true rfl) rfl ?_
    refine r_iload_n (pc := 16) C 0 d_Tuesday_hoursAlike_16 rfl rfl ?_
    refine r_if_ne (pc := 17) C (tgt := 25) d_Tuesday_hoursAlike_17 (by decide) hf (fun c17 hf => ?_) (fun c17 hf => ?_)
    · refine r_iload_n (pc := 25) C 0 d_Tuesday_hoursAlike_25 rfl rfl ?_
      refine r_iload_n (pc := 26) C 0 d_Tuesday_hoursAlike_26 rfl rfl ?_
      refine r_ineg (pc := 27) C d_Tuesday_hoursAlike_27 ?_
      refine r_iand (pc := 28) C d_Tuesday_hoursAlike_28 ?_
      refine r_iconst (pc := 29) C (v := 1) d_Tuesday_hoursAlike_29 (by decide) ?_
      refine r_isub (pc := 30) C d_Tuesday_hoursAlike_30 ?_
      refine r_callSi (pc := 31) (As := [.int (((v1 ^^^ (D 32 4)) &&& (-(v1 ^^^ (D 32 4)))) - 1)]) (rest := []) C ok_J_bitCount Lm_Tuesday_50 ⟨by decide, by decide⟩ rfl rfl (Nat.le_of_ble_eq_true rfl) d_Tuesday_hoursAlike_31 hf (fun x D1 hc => c_J_bitCount Γ hc) (fun x1 D2 hf => ?_)
      exact r_iret (pc := 34) C d_Tuesday_hoursAlike_34 hf
    · refine r_bipush (pc := 20) C (v := 8) d_Tuesday_hoursAlike_20 (by decide) ?_
      refine r_goto (pc := 22) C (tgt := 34) d_Tuesday_hoursAlike_22 (by decide) ?_
      exact r_iret (pc := 34) C d_Tuesday_hoursAlike_34 hf
  · refine r_iconst (pc := 7) C (v := 0) d_Tuesday_hoursAlike_7 (by decide) ?_
    exact r_iret (pc := 8) C d_Tuesday_hoursAlike_8 hf
theorem c_Tuesday_hoursAlike (Γ : GmT) {v1 : Int32} {D : Dt} {rr : Int32} {DD : Dt} (hf : f_Tuesday_hoursAlike v1 D = some (rr, DD)) : Mt Γ y_Tuesday_hoursAlike b_Tuesday_hoursAlike 3 (some .int) 2 [.ref (Γ.2.1 32), .int v1] D (some (.int rr)) DD := Mt_of (by decide) (Nat.le_of_ble_eq_true rfl) (fun G C => te_Tuesday_hoursAlike C hf)
def s_Tuesday_leadHour_80 (a1 : Nat) (k80 : Int32 → Nat → Int32 → Dt → Option (Unit × Dt)) (v3 : Int32) (rv4 : Nat) (v5 : Int32) (D : Dt) : Option (Unit × Dt) :=
  (if (D a1 5) ≤ v5 then some ((), D) else (if inb (v3 + 1) 9 = true then (if inb v3 9 = true then (if inb v5 8 = true then (if inb v5 8 = true then (if inb v5 8 = true then nm (wr D (37 + 1 * (v3 + 1).toNatClampNeg) v5.toNatClampNeg (imax (D (37 + 1 * v3.toNatClampNeg) v5.toNatClampNeg) (D (rv4 + 1) v5.toNatClampNeg))) (fun D11 => k80 v3 rv4 (v5 + 1) D11) else none) else none) else none) else none) else none))
def lp_Tuesday_leadHour_80 (a1 : Nat) (n : Nat) : Int32 → Nat → Int32 → Dt → Option (Unit × Dt) := itr (fun _ _ _ _ => none) (s_Tuesday_leadHour_80 a1) n
set_option maxHeartbeats 4000000 in
theorem ts_Tuesday_leadHour_80 {Γ : GmT} {G : Dt → Nat → List (Nat × Value) → List Value → Prop} {rr : Unit} {DD : Dt} {a1 : Nat} (C : Cx Γ "RiverTuesdays$Tuesday" b_Tuesday_leadHour 6 4 none none DD G) (h1 : kd a1 = 0) {k80 : Int32 → Nat → Int32 → Dt → Option (Unit × Dt)} (hk80 : ∀ (v3 : Int32) (rv4 : Nat) (v5 : Int32) (D : Dt), kd rv4 = 7 → k80 v3 rv4 v5 D = some (rr, DD) → G D 80 [(0, .ref (Γ.2.1 32)), (1, .ref (Γ.2.1 a1)), (3, .int v3), (4, .ref (Γ.2.1 rv4)), (5, .int v5)] []) {v3 : Int32} {rv4 : Nat} {v5 : Int32} (hrv4 : kd rv4 = 7) {D : Dt} (hf : s_Tuesday_leadHour_80 a1 k80 v3 rv4 v5 D = some (rr, DD)) : G D 80 [(0, .ref (Γ.2.1 32)), (1, .ref (Γ.2.1 a1)), (3, .int v3), (4, .ref (Γ.2.1 rv4)), (5, .int v5)] [] := by
  unfold s_Tuesday_leadHour_80 at hf
  refine r_iload (pc := 80) C 4 d_Tuesday_leadHour_80 rfl ?_
  refine r_aload_n (pc := 82) C 1 d_Tuesday_leadHour_82 rfl rfl ?_
  refine g_Bed_houses (pc := 83) C h1 Lf_Tuesday_63 d_Tuesday_leadHour_83 ?_
  refine r_icmp_ge (pc := 86) C (tgt := 126) d_Tuesday_leadHour_86 (by decide) hf (fun c86 hf => ?_) (fun c86 hf => ?_)
  · exact r_vret (pc := 126) C d_Tuesday_leadHour_126 hf
  · refine r_aload_n (pc := 89) C 0 d_Tuesday_leadHour_89 rfl rfl ?_
    refine g_Tuesday_markAt (pc := 90) C k_id32 Lf_Tuesday_26 d_Tuesday_leadHour_90 ?_
    refine r_iload_n (pc := 93) C 2 d_Tuesday_leadHour_93 rfl rfl ?_
    refine r_iconst (pc := 94) C (v := 1) d_Tuesday_leadHour_94 (by decide) ?_
    refine r_iadd (pc := 95) C d_Tuesday_leadHour_95 ?_
    refine r_aald17 (pc := 96) C kq_Tuesday_markAt d_Tuesday_leadHour_96 hf (fun hn96 hf => ?_)
    refine r_iload (pc := 97) C 4 d_Tuesday_leadHour_97 rfl ?_
    refine r_aload_n (pc := 99) C 0 d_Tuesday_leadHour_99 rfl rfl ?_
    refine g_Tuesday_markAt (pc := 100) C k_id32 Lf_Tuesday_26 d_Tuesday_leadHour_100 ?_
    refine r_iload_n (pc := 103) C 2 d_Tuesday_leadHour_103 rfl rfl ?_
    refine r_aald17 (pc := 104) C kq_Tuesday_markAt d_Tuesday_leadHour_104 hf (fun hn104 hf => ?_)
    refine r_iload (pc := 105) C 4 d_Tuesday_leadHour_105 rfl ?_
    refine r_iald (pc := 107) C (ke17 _ (inb_lt hn104)) d_Tuesday_leadHour_107 hf (fun hf => ?_)
    refine r_aload (pc := 108) C 3 d_Tuesday_leadHour_108 rfl ?_
    refine g_Waters_ahead (pc := 110) C hrv4 Lf_Tuesday_71 d_Tuesday_leadHour_110 ?_
    refine r_iload (pc := 113) C 4 d_Tuesday_leadHour_113 rfl ?_
    refine r_iald (pc := 115) C (kq_Waters_ahead hrv4) d_Tuesday_leadHour_115 hf (fun hf => ?_)
    refine r_mmax (pc := 116) C Lm_Tuesday_74 (by decide) (Nat.le_of_ble_eq_true rfl) d_Tuesday_leadHour_116 ?_
    refine r_iast (pc := 119) C (ke17 _ (inb_lt hn96)) d_Tuesday_leadHour_119 hf (fun hf => ?_)
    refine r_nmD hf (fun D11 hf => ?_)
    refine r_iinc (pc := 120) C (v := v5 + 1) (lv' := [(5, .int (v5 + 1)), (0, .ref (Γ.2.1 32)), (1, .ref (Γ.2.1 a1)), (3, .int v3), (4, .ref (Γ.2.1 rv4))]) 4 d_Tuesday_leadHour_120 rfl rfl (Nat.le_of_ble_eq_true rfl) rfl ?_
    refine r_goto (pc := 123) C (tgt := 80) d_Tuesday_leadHour_123 (by decide) ?_
    exact r_lv (pc := 80) C [1, 2, 3, 4, 0] rfl (hk80 v3 rv4 (v5 + 1) D11 hrv4 hf)
theorem tl_Tuesday_leadHour_80 {Γ : GmT} {G : Dt → Nat → List (Nat × Value) → List Value → Prop} {rr : Unit} {DD : Dt} {a1 : Nat} (C : Cx Γ "RiverTuesdays$Tuesday" b_Tuesday_leadHour 6 4 none none DD G) (h1 : kd a1 = 0) : ∀ (n : Nat) (v3 : Int32) (rv4 : Nat) (v5 : Int32) (D : Dt), kd rv4 = 7 → lp_Tuesday_leadHour_80 a1 n v3 rv4 v5 D = some (rr, DD) → G D 80 [(0, .ref (Γ.2.1 32)), (1, .ref (Γ.2.1 a1)), (3, .int v3), (4, .ref (Γ.2.1 rv4)), (5, .int v5)] [] := by
  intro n
  induction n with
  | zero =>
    intro v3 rv4 v5 D hrv4 hf
    exact absurd (show (none : Option (Unit × Dt)) = some (rr, DD) from hf) (by simp)
  | succ n ih =>
    intro v3 rv4 v5 D hrv4 hf
    exact ts_Tuesday_leadHour_80 C h1 (k80 := lp_Tuesday_leadHour_80 a1 n) ih hrv4 hf
def f_Tuesday_leadHour (a1 : Nat) (v2 : Int32) (v3 : Int32) (D : Dt) : Option (Unit × Dt) :=
  (if inb (v3 + 1) 9 = true then (if inb v3 9 = true then bnd (f_Waters_takeFrom (46 + 6 * (v3 + 1).toNatClampNeg) (46 + 6 * v3.toNatClampNeg) D) (fun x1 D2 => bnd (f_Waters_pass (46 + 6 * (v3 + 1).toNatClampNeg) a1 ((v2 >>> (v3 &&& 31)) &&& 1) D2) (fun x3 D4 => (if inb v3 9 = true then bnd (f_Waters_harmOfHour (46 + 6 * (v3 + 1).toNatClampNeg) a1 D4) (fun x5 D6 => (if inb (v3 + 1) 9 = true then nm (wr D6 34 (v3 + 1).toNatClampNeg ((D4 34 v3.toNatClampNeg) + x5)) (fun D7 => (if inb v3 9 = true then bnd (f_Waters_sankBits (46 + 6 * (v3 + 1).toNatClampNeg) (D7 a1 5) D7) (fun x8 D9 => (if inb (v3 + 1) 9 = true then nm (wr D9 35 (v3 + 1).toNatClampNeg ((D7 35 v3.toNatClampNeg) ||| x8)) (fun D10 => lp_Tuesday_leadHour_80 a1 FU v3 (46 + 6 * (v3 + 1).toNatClampNeg) 0 D10) else none)) else none)) else none)) else none))) else none) else none)
set_option maxHeartbeats 4000000 in
theorem te_Tuesday_leadHour {Γ : GmT} {G : Dt → Nat → List (Nat × Value) → List Value → Prop} {rr : Unit} {DD : Dt} {a1 : Nat} (C : Cx Γ "RiverTuesdays$Tuesday" b_Tuesday_leadHour 6 4 none none DD G) (h1 : kd a1 = 0) {v2 : Int32} {v3 : Int32} {D : Dt} (hf : f_Tuesday_leadHour a1 v2 v3 D = some (rr, DD)) : G D 0 [(0, .ref (Γ.2.1 32)), (1, .ref (Γ.2.1 a1)), (2, .int v2), (3, .int v3)] [] := by
  unfold f_Tuesday_leadHour at hf
  refine r_aload_n (pc := 0) C 0 d_Tuesday_leadHour_0 rfl rfl ?_
  refine g_Tuesday_behind (pc := 1) C k_id32 Lf_Tuesday_11 d_Tuesday_leadHour_1 ?_
  refine r_iload_n (pc := 4) C 3 d_Tuesday_leadHour_4 rfl rfl ?_
  refine r_iconst (pc := 5) C (v := 1) d_Tuesday_leadHour_5 (by decide) ?_
  refine r_iadd (pc := 6) C d_Tuesday_leadHour_6 ?_
  refine r_aald16 (pc := 7) C kq_Tuesday_behind d_Tuesday_leadHour_7 hf (fun hn7 hf => ?_)
  refine r_astore (pc := 8) (lv' := [(4, .ref (Γ.2.1 (46 + 6 * (v3 + 1).toNatClampNeg))), (0, .ref (Γ.2.1 32)), (1, .ref (Γ.2.1 a1)), (2, .int v2), (3, .int v3)]) C d_Tuesday_leadHour_8 (Nat.le_of_ble_eq_true rfl) rfl ?_
  refine r_aload (pc := 10) C 0 d_Tuesday_leadHour_10 rfl ?_
  refine r_aload_n (pc := 12) C 1 d_Tuesday_leadHour_12 rfl rfl ?_
  refine g_Tuesday_behind (pc := 13) C k_id32 Lf_Tuesday_11 d_Tuesday_leadHour_13 ?_
  refine r_iload_n (pc := 16) C 4 d_Tuesday_leadHour_16 rfl rfl ?_
  refine r_aald16 (pc := 17) C kq_Tuesday_behind d_Tuesday_leadHour_17 hf (fun hn17 hf => ?_)
  refine r_callVv (pc := 18) (As := [.ref (Γ.2.1 (46 + 6 * v3.toNatClampNeg))]) (rest := []) C ok_Waters_takeFrom Lm_Tuesday_30 (ke16 _ (inb_lt hn7)) (by decide) ⟨by decide, by decide⟩ rfl rfl (Nat.le_of_ble_eq_true rfl) d_Tuesday_leadHour_18 hf (fun x D1 hc => c_Waters_takeFrom Γ (ke16 _ (inb_lt hn7)) (ke16 _ (inb_lt hn17)) hc) (fun x1 D2 hf => ?_)
  refine r_aload (pc := 21) C 0 d_Tuesday_leadHour_21 rfl ?_
  refine r_aload_n (pc := 23) C 2 d_Tuesday_leadHour_23 rfl rfl ?_
  refine r_iload_n (pc := 24) C 3 d_Tuesday_leadHour_24 rfl rfl ?_
  refine r_iload_n (pc := 25) C 4 d_Tuesday_leadHour_25 rfl rfl ?_
  refine r_ishr (pc := 26) C d_Tuesday_leadHour_26 ?_
  refine r_iconst (pc := 27) C (v := 1) d_Tuesday_leadHour_27 (by decide) ?_
  refine r_iand (pc := 28) C d_Tuesday_leadHour_28 ?_
  refine r_callVv (pc := 29) (As := [.ref (Γ.2.1 a1), .int ((v2 >>> (v3 &&& 31)) &&& 1)]) (rest := []) C ok_Waters_pass Lm_Tuesday_55 (ke16 _ (inb_lt hn7)) (by decide) ⟨by decide, by decide⟩ rfl rfl (Nat.le_of_ble_eq_true rfl) d_Tuesday_leadHour_29 hf (fun x D1 hc => c_Waters_pass Γ (ke16 _ (inb_lt hn7)) h1 hc) (fun x3 D4 hf => ?_)
  refine r_aload_n (pc := 32) C 1 d_Tuesday_leadHour_32 rfl rfl ?_
  refine g_Tuesday_harmSoFar (pc := 33) C k_id32 Lf_Tuesday_17 d_Tuesday_leadHour_33 ?_
  refine r_iload_n (pc := 36) C 4 d_Tuesday_leadHour_36 rfl rfl ?_
  refine r_iconst (pc := 37) C (v := 1) d_Tuesday_leadHour_37 (by decide) ?_
  refine r_iadd (pc := 38) C d_Tuesday_leadHour_38 ?_
  refine r_aload_n (pc := 39) C 1 d_Tuesday_leadHour_39 rfl rfl ?_
  refine g_Tuesday_harmSoFar (pc := 40) C k_id32 Lf_Tuesday_17 d_Tuesday_leadHour_40 ?_
  refine r_iload_n (pc := 43) C 4 d_Tuesday_leadHour_43 rfl rfl ?_
  refine r_iald (pc := 44) C kq_Tuesday_harmSoFar d_Tuesday_leadHour_44 hf (fun hf => ?_)
  refine r_aload (pc := 45) C 0 d_Tuesday_leadHour_45 rfl ?_
  refine r_aload_n (pc := 47) C 2 d_Tuesday_leadHour_47 rfl rfl ?_
  refine r_callVi (pc := 48) (As := [.ref (Γ.2.1 a1)]) (rest := [.int (D4 34 v3.toNatClampNeg), .int (v3 + 1), .ref (Γ.2.1 34)]) C ok_Waters_harmOfHour Lm_Tuesday_59 (ke16 _ (inb_lt hn7)) (by decide) ⟨by decide, by decide⟩ rfl rfl (Nat.le_of_ble_eq_true rfl) d_Tuesday_leadHour_48 hf (fun x D1 hc => c_Waters_harmOfHour Γ (ke16 _ (inb_lt hn7)) h1 hc) (fun x5 D6 hf => ?_)
  refine r_iadd (pc := 51) C d_Tuesday_leadHour_51 ?_
  refine r_iast (pc := 52) C kq_Tuesday_harmSoFar d_Tuesday_leadHour_52 hf (fun hf => ?_)
  refine r_nmD hf (fun D7 hf => ?_)
  refine r_aload_n (pc := 53) C 1 d_Tuesday_leadHour_53 rfl rfl ?_
  refine g_Tuesday_wetBits (pc := 54) C k_id32 Lf_Tuesday_21 d_Tuesday_leadHour_54 ?_
  refine r_iload_n (pc := 57) C 4 d_Tuesday_leadHour_57 rfl rfl ?_
  refine r_iconst (pc := 58) C (v := 1) d_Tuesday_leadHour_58 (by decide) ?_
  refine r_iadd (pc := 59) C d_Tuesday_leadHour_59 ?_
  refine r_aload_n (pc := 60) C 1 d_Tuesday_leadHour_60 rfl rfl ?_
  refine g_Tuesday_wetBits (pc := 61) C k_id32 Lf_Tuesday_21 d_Tuesday_leadHour_61 ?_
  refine r_iload_n (pc := 64) C 4 d_Tuesday_leadHour_64 rfl rfl ?_
  refine r_iald (pc := 65) C kq_Tuesday_wetBits d_Tuesday_leadHour_65 hf (fun hf => ?_)
  refine r_aload (pc := 66) C 0 d_Tuesday_leadHour_66 rfl ?_
  refine r_aload_n (pc := 68) C 2 d_Tuesday_leadHour_68 rfl rfl ?_
  refine g_Bed_houses (pc := 69) C h1 Lf_Tuesday_63 d_Tuesday_leadHour_69 ?_
  refine r_callVi (pc := 72) (As := [.int (D7 a1 5)]) (rest := [.int (D7 35 v3.toNatClampNeg), .int (v3 + 1), .ref (Γ.2.1 35)]) C ok_Waters_sankBits Lm_Tuesday_68 (ke16 _ (inb_lt hn7)) (by decide) ⟨by decide, by decide⟩ rfl rfl (Nat.le_of_ble_eq_true rfl) d_Tuesday_leadHour_72 hf (fun x D1 hc => c_Waters_sankBits Γ (ke16 _ (inb_lt hn7)) hc) (fun x8 D9 hf => ?_)
  refine r_ior (pc := 75) C d_Tuesday_leadHour_75 ?_
  refine r_iast (pc := 76) C kq_Tuesday_wetBits d_Tuesday_leadHour_76 hf (fun hf => ?_)
  refine r_nmD hf (fun D10 hf => ?_)
  refine r_iconst (pc := 77) C (v := 0) d_Tuesday_leadHour_77 (by decide) ?_
  refine r_istore (pc := 78) (lv' := [(5, .int 0), (4, .ref (Γ.2.1 (46 + 6 * (v3 + 1).toNatClampNeg))), (0, .ref (Γ.2.1 32)), (1, .ref (Γ.2.1 a1)), (2, .int v2), (3, .int v3)]) C d_Tuesday_leadHour_78 (Nat.le_of_ble_eq_true rfl) rfl ?_
  exact r_lv (pc := 80) C [2, 3, 5, 1, 0] rfl (tl_Tuesday_leadHour_80 C h1 FU v3 (46 + 6 * (v3 + 1).toNatClampNeg) 0 D10 (ke16 _ (inb_lt hn7)) hf)
theorem c_Tuesday_leadHour (Γ : GmT) {a1 : Nat} {v2 : Int32} {v3 : Int32} (h1 : kd a1 = 0) {D : Dt} {rr : Unit} {DD : Dt} (hf : f_Tuesday_leadHour a1 v2 v3 D = some (rr, DD)) : Mt Γ y_Tuesday_leadHour b_Tuesday_leadHour 6 none 4 [.ref (Γ.2.1 32), .ref (Γ.2.1 a1), .int v2, .int v3] D none DD := Mt_of (by decide) (Nat.le_of_ble_eq_true rfl) (fun G C => te_Tuesday_leadHour C h1 hf)
def s_Tuesday_lead_6 (a1 : Nat) (k6 : Int32 → Int32 → Dt → Option (Unit × Dt)) (v2 : Int32) (v3 : Int32) (D : Dt) : Option (Unit × Dt) :=
  (if 8 ≤ v3 then nm (wr D 32 4 v2) (fun D3 => nm (wr D3 32 5 1) (fun D4 => some ((), D4))) else bnd (f_Tuesday_leadHour a1 v2 v3 D) (fun x5 D6 => k6 v2 (v3 + 1) D6))
def lp_Tuesday_lead_6 (a1 : Nat) (n : Nat) : Int32 → Int32 → Dt → Option (Unit × Dt) := itr (fun _ _ _ => none) (s_Tuesday_lead_6 a1) n
set_option maxHeartbeats 4000000 in
theorem ts_Tuesday_lead_6 {Γ : GmT} {G : Dt → Nat → List (Nat × Value) → List Value → Prop} {rr : Unit} {DD : Dt} {a1 : Nat} (C : Cx Γ "RiverTuesdays$Tuesday" b_Tuesday_lead 4 5 none none DD G) (h1 : kd a1 = 0) {k6 : Int32 → Int32 → Dt → Option (Unit × Dt)} (hk6 : ∀ (v2 : Int32) (v3 : Int32) (D : Dt), k6 v2 v3 D = some (rr, DD) → G D 6 [(0, .ref (Γ.2.1 32)), (1, .ref (Γ.2.1 a1)), (2, .int v2), (3, .int v3)] []) {v2 : Int32} {v3 : Int32} {D : Dt} (hf : s_Tuesday_lead_6 a1 k6 v2 v3 D = some (rr, DD)) : G D 6 [(0, .ref (Γ.2.1 32)), (1, .ref (Γ.2.1 a1)), (2, .int v2), (3, .int v3)] [] := by
  unfold s_Tuesday_lead_6 at hf
  refine r_iload_n (pc := 6) C 3 d_Tuesday_lead_6 rfl rfl ?_
  refine r_bipush (pc := 7) C (v := 8) d_Tuesday_lead_7 (by decide) ?_
  refine r_icmp_ge (pc := 9) C (tgt := 25) d_Tuesday_lead_9 (by decide) hf (fun c9 hf => ?_) (fun c9 hf => ?_)
  · refine r_aload_n (pc := 25) C 0 d_Tuesday_lead_25 rfl rfl ?_
    refine r_iload_n (pc := 26) C 2 d_Tuesday_lead_26 rfl rfl ?_
    refine p_Tuesday_latestPlan (pc := 27) C k_id32 Lf_Tuesday_46 d_Tuesday_lead_27 ?_
    refine r_nmD hf (fun D3 hf => ?_)
    refine r_aload_n (pc := 30) C 0 d_Tuesday_lead_30 rfl rfl ?_
    refine r_iconst (pc := 31) C (v := 1) d_Tuesday_lead_31 (by decide) ?_
    refine p_Tuesday_isLed (pc := 32) C k_id32 Lf_Tuesday_34 d_Tuesday_lead_32 rfl rfl ?_
    refine r_nmD hf (fun D4 hf => ?_)
    exact r_vret (pc := 35) C d_Tuesday_lead_35 hf
  · refine r_aload_n (pc := 12) C 0 d_Tuesday_lead_12 rfl rfl ?_
    refine r_aload_n (pc := 13) C 1 d_Tuesday_lead_13 rfl rfl ?_
    refine r_iload_n (pc := 14) C 2 d_Tuesday_lead_14 rfl rfl ?_
    refine r_iload_n (pc := 15) C 3 d_Tuesday_lead_15 rfl rfl ?_
    refine r_callVv (pc := 16) (As := [.ref (Γ.2.1 a1), .int v2, .int v3]) (rest := []) C ok_Tuesday_leadHour Lm_Tuesday_42 k_id32 (by decide) ⟨by decide, by decide⟩ rfl rfl (Nat.le_of_ble_eq_true rfl) d_Tuesday_lead_16 hf (fun x D1 hc => c_Tuesday_leadHour Γ h1 hc) (fun x5 D6 hf => ?_)
    refine r_iinc (pc := 19) C (v := v3 + 1) (lv' := [(3, .int (v3 + 1)), (0, .ref (Γ.2.1 32)), (1, .ref (Γ.2.1 a1)), (2, .int v2)]) 3 d_Tuesday_lead_19 rfl rfl (Nat.le_of_ble_eq_true rfl) rfl ?_
    refine r_goto (pc := 22) C (tgt := 6) d_Tuesday_lead_22 (by decide) ?_
    exact r_lv (pc := 6) C [1, 2, 3, 0] rfl (hk6 v2 (v3 + 1) D6 hf)
theorem tl_Tuesday_lead_6 {Γ : GmT} {G : Dt → Nat → List (Nat × Value) → List Value → Prop} {rr : Unit} {DD : Dt} {a1 : Nat} (C : Cx Γ "RiverTuesdays$Tuesday" b_Tuesday_lead 4 5 none none DD G) (h1 : kd a1 = 0) : ∀ (n : Nat) (v2 : Int32) (v3 : Int32) (D : Dt), lp_Tuesday_lead_6 a1 n v2 v3 D = some (rr, DD) → G D 6 [(0, .ref (Γ.2.1 32)), (1, .ref (Γ.2.1 a1)), (2, .int v2), (3, .int v3)] [] := by
  intro n
  induction n with
  | zero =>
    intro v2 v3 D hf
    exact absurd (show (none : Option (Unit × Dt)) = some (rr, DD) from hf) (by simp)
  | succ n ih =>
    intro v2 v3 D hf
    exact ts_Tuesday_lead_6 C h1 (k6 := lp_Tuesday_lead_6 a1 n) ih hf
def f_Tuesday_lead (a1 : Nat) (v2 : Int32) (D : Dt) : Option (Unit × Dt) :=
  bnd (f_Tuesday_hoursAlike v2 D) (fun x1 D2 => lp_Tuesday_lead_6 a1 FU v2 x1 D2)
set_option maxHeartbeats 4000000 in
theorem te_Tuesday_lead {Γ : GmT} {G : Dt → Nat → List (Nat × Value) → List Value → Prop} {rr : Unit} {DD : Dt} {a1 : Nat} (C : Cx Γ "RiverTuesdays$Tuesday" b_Tuesday_lead 4 5 none none DD G) (h1 : kd a1 = 0) {v2 : Int32} {D : Dt} (hf : f_Tuesday_lead a1 v2 D = some (rr, DD)) : G D 0 [(0, .ref (Γ.2.1 32)), (1, .ref (Γ.2.1 a1)), (2, .int v2)] [] := by
  unfold f_Tuesday_lead at hf
  refine r_aload_n (pc := 0) C 0 d_Tuesday_lead_0 rfl rfl ?_
  refine r_iload_n (pc := 1) C 2 d_Tuesday_lead_1 rfl rfl ?_
  refine r_callVi (pc := 2) (As := [.int v2]) (rest := []) C ok_Tuesday_hoursAlike Lm_Tuesday_38 k_id32 (by decide) ⟨by decide, by decide⟩ rfl rfl (Nat.le_of_ble_eq_true rfl) d_Tuesday_lead_2 hf (fun x D1 hc => c_Tuesday_hoursAlike Γ hc) (fun x1 D2 hf => ?_)
  refine r_istore_n (pc := 5) (lv' := [(3, .int x1), (0, .ref (Γ.2.1 32)), (1, .ref (Γ.2.1 a1)), (2, .int v2)]) C d_Tuesday_lead_5 rfl (Nat.le_of_ble_eq_true rfl) rfl ?_
  exact r_lv (pc := 6) C [1, 2, 3, 0] rfl (tl_Tuesday_lead_6 C h1 FU v2 x1 D2 hf)
theorem c_Tuesday_lead (Γ : GmT) {a1 : Nat} {v2 : Int32} (h1 : kd a1 = 0) {D : Dt} {rr : Unit} {DD : Dt} (hf : f_Tuesday_lead a1 v2 D = some (rr, DD)) : Mt Γ y_Tuesday_lead b_Tuesday_lead 4 none 5 [.ref (Γ.2.1 32), .ref (Γ.2.1 a1), .int v2] D none DD := Mt_of (by decide) (Nat.le_of_ble_eq_true rfl) (fun G C => te_Tuesday_lead C h1 hf)
def f_Tuesday_harmDone (D : Dt) : Option (Int32 × Dt) :=
  (if inb 8 9 = true then some (D 34 (8 : Int32).toNatClampNeg, D) else none)
set_option maxHeartbeats 4000000 in
theorem te_Tuesday_harmDone {Γ : GmT} {G : Dt → Nat → List (Nat × Value) → List Value → Prop} {rr : Int32} {DD : Dt} (C : Cx Γ "RiverTuesdays$Tuesday" b_Tuesday_harmDone 1 1 (some .int) (some (.int rr)) DD G) {D : Dt} (hf : f_Tuesday_harmDone D = some (rr, DD)) : G D 0 [(0, .ref (Γ.2.1 32))] [] := by
  unfold f_Tuesday_harmDone at hf
  refine r_aload_n (pc := 0) C 0 d_Tuesday_harmDone_0 rfl rfl ?_
  refine g_Tuesday_harmSoFar (pc := 1) C k_id32 Lf_Tuesday_17 d_Tuesday_harmDone_1 ?_
  refine r_bipush (pc := 4) C (v := 8) d_Tuesday_harmDone_4 (by decide) ?_
  refine r_iald (pc := 6) C kq_Tuesday_harmSoFar d_Tuesday_harmDone_6 hf (fun hf => ?_)
  exact r_iret (pc := 7) C d_Tuesday_harmDone_7 hf
theorem c_Tuesday_harmDone (Γ : GmT) {D : Dt} {rr : Int32} {DD : Dt} (hf : f_Tuesday_harmDone D = some (rr, DD)) : Mt Γ y_Tuesday_harmDone b_Tuesday_harmDone 1 (some .int) 1 [.ref (Γ.2.1 32)] D (some (.int rr)) DD := Mt_of (by decide) (Nat.le_of_ble_eq_true rfl) (fun G C => te_Tuesday_harmDone C hf)
def f_Tuesday_grindings (D : Dt) : Option (Int32 × Dt) :=
  (if inb 8 9 = true then bnd (f_Waters_allFlour (46 + 6 * (8 : Int32).toNatClampNeg) D) (fun x1 D2 => (if inb 0 9 = true then bnd (f_Waters_allFlour (46 + 6 * (0 : Int32).toNatClampNeg) D2) (fun x3 D4 => some (x1 - x3, D4)) else none)) else none)
set_option maxHeartbeats 4000000 in
theorem te_Tuesday_grindings {Γ : GmT} {G : Dt → Nat → List (Nat × Value) → List Value → Prop} {rr : Int32} {DD : Dt} (C : Cx Γ "RiverTuesdays$Tuesday" b_Tuesday_grindings 1 3 (some .int) (some (.int rr)) DD G) {D : Dt} (hf : f_Tuesday_grindings D = some (rr, DD)) : G D 0 [(0, .ref (Γ.2.1 32))] [] := by
  unfold f_Tuesday_grindings at hf
  refine r_aload_n (pc := 0) C 0 d_Tuesday_grindings_0 rfl rfl ?_
  refine g_Tuesday_behind (pc := 1) C k_id32 Lf_Tuesday_11 d_Tuesday_grindings_1 ?_
  refine r_bipush (pc := 4) C (v := 8) d_Tuesday_grindings_4 (by decide) ?_
  refine r_aald16 (pc := 6) C kq_Tuesday_behind d_Tuesday_grindings_6 hf (fun hn6 hf => ?_)
  refine r_callVi (pc := 7) (As := []) (rest := []) C ok_Waters_allFlour Lm_Tuesday_80 (ke16 _ (inb_lt hn6)) (by decide) ⟨by decide, by decide⟩ rfl rfl (Nat.le_of_ble_eq_true rfl) d_Tuesday_grindings_7 hf (fun x D1 hc => c_Waters_allFlour Γ (ke16 _ (inb_lt hn6)) hc) (fun x1 D2 hf => ?_)
  refine r_aload_n (pc := 10) C 0 d_Tuesday_grindings_10 rfl rfl ?_
  refine g_Tuesday_behind (pc := 11) C k_id32 Lf_Tuesday_11 d_Tuesday_grindings_11 ?_
  refine r_iconst (pc := 14) C (v := 0) d_Tuesday_grindings_14 (by decide) ?_
  refine r_aald16 (pc := 15) C kq_Tuesday_behind d_Tuesday_grindings_15 hf (fun hn15 hf => ?_)
  refine r_callVi (pc := 16) (As := []) (rest := [.int x1]) C ok_Waters_allFlour Lm_Tuesday_80 (ke16 _ (inb_lt hn15)) (by decide) ⟨by decide, by decide⟩ rfl rfl (Nat.le_of_ble_eq_true rfl) d_Tuesday_grindings_16 hf (fun x D1 hc => c_Waters_allFlour Γ (ke16 _ (inb_lt hn15)) hc) (fun x3 D4 hf => ?_)
  refine r_isub (pc := 19) C d_Tuesday_grindings_19 ?_
  exact r_iret (pc := 20) C d_Tuesday_grindings_20 hf
theorem c_Tuesday_grindings (Γ : GmT) {D : Dt} {rr : Int32} {DD : Dt} (hf : f_Tuesday_grindings D = some (rr, DD)) : Mt Γ y_Tuesday_grindings b_Tuesday_grindings 1 (some .int) 3 [.ref (Γ.2.1 32)] D (some (.int rr)) DD := Mt_of (by decide) (Nat.le_of_ble_eq_true rfl) (fun G C => te_Tuesday_grindings C hf)
def f_Tuesday_runOut (D : Dt) : Option (Int32 × Dt) :=
  (if inb 8 9 = true then (if inb 0 9 = true then some ((D (46 + 6 * (8 : Int32).toNatClampNeg) 6) - (D (46 + 6 * (0 : Int32).toNatClampNeg) 6), D) else none) else none)
set_option maxHeartbeats 4000000 in
theorem te_Tuesday_runOut {Γ : GmT} {G : Dt → Nat → List (Nat × Value) → List Value → Prop} {rr : Int32} {DD : Dt} (C : Cx Γ "RiverTuesdays$Tuesday" b_Tuesday_runOut 1 1 (some .int) (some (.int rr)) DD G) {D : Dt} (hf : f_Tuesday_runOut D = some (rr, DD)) : G D 0 [(0, .ref (Γ.2.1 32))] [] := by
  unfold f_Tuesday_runOut at hf
  refine r_aload_n (pc := 0) C 0 d_Tuesday_runOut_0 rfl rfl ?_
  refine g_Tuesday_behind (pc := 1) C k_id32 Lf_Tuesday_11 d_Tuesday_runOut_1 ?_
  refine r_bipush (pc := 4) C (v := 8) d_Tuesday_runOut_4 (by decide) ?_
  refine r_aald16 (pc := 6) C kq_Tuesday_behind d_Tuesday_runOut_6 hf (fun hn6 hf => ?_)
  refine g_Waters_out (pc := 7) C (ke16 _ (inb_lt hn6)) Lf_Tuesday_84 d_Tuesday_runOut_7 ?_
  refine r_aload_n (pc := 10) C 0 d_Tuesday_runOut_10 rfl rfl ?_
  refine g_Tuesday_behind (pc := 11) C k_id32 Lf_Tuesday_11 d_Tuesday_runOut_11 ?_
  refine r_iconst (pc := 14) C (v := 0) d_Tuesday_runOut_14 (by decide) ?_
  refine r_aald16 (pc := 15) C kq_Tuesday_behind d_Tuesday_runOut_15 hf (fun hn15 hf => ?_)
  refine g_Waters_out (pc := 16) C (ke16 _ (inb_lt hn15)) Lf_Tuesday_84 d_Tuesday_runOut_16 ?_
  refine r_isub (pc := 19) C d_Tuesday_runOut_19 ?_
  exact r_iret (pc := 20) C d_Tuesday_runOut_20 hf
theorem c_Tuesday_runOut (Γ : GmT) {D : Dt} {rr : Int32} {DD : Dt} (hf : f_Tuesday_runOut D = some (rr, DD)) : Mt Γ y_Tuesday_runOut b_Tuesday_runOut 1 (some .int) 1 [.ref (Γ.2.1 32)] D (some (.int rr)) DD := Mt_of (by decide) (Nat.le_of_ble_eq_true rfl) (fun G C => te_Tuesday_runOut C hf)
def b_Tuesday_cutOffBits_35 (k4 : Int32 → Int32 → Int32 → Dt → Option (Int32 × Dt)) (v1 : Int32) (v3 : Int32) (s0 : Int32) (s1 : Int32) (D : Dt) : Option (Int32 × Dt) :=
  k4 v1 (s1 ||| s0) (v3 + 1) D
set_option maxHeartbeats 4000000 in
theorem tb_Tuesday_cutOffBits_35 {Γ : GmT} {G : Dt → Nat → List (Nat × Value) → List Value → Prop} {rr : Int32} {DD : Dt} (C : Cx Γ "RiverTuesdays$Tuesday" b_Tuesday_cutOffBits 4 1 (some .int) (some (.int rr)) DD G) {k4 : Int32 → Int32 → Int32 → Dt → Option (Int32 × Dt)} (hk4 : ∀ (v1 : Int32) (v2 : Int32) (v3 : Int32) (D : Dt), k4 v1 v2 v3 D = some (rr, DD) → G D 4 [(0, .ref (Γ.2.1 32)), (1, .int v1), (2, .int v2), (3, .int v3)] []) {v1 : Int32} {v3 : Int32} {s0 : Int32} {s1 : Int32} {D : Dt} (hf : b_Tuesday_cutOffBits_35 k4 v1 v3 s0 s1 D = some (rr, DD)) : G D 35 [(0, .ref (Γ.2.1 32)), (1, .int v1), (3, .int v3)] [.int s0, .int s1] := by
  unfold b_Tuesday_cutOffBits_35 at hf
  refine r_ior (pc := 35) C d_Tuesday_cutOffBits_35 ?_
  refine r_istore_n (pc := 36) (lv' := [(2, .int (s1 ||| s0)), (0, .ref (Γ.2.1 32)), (1, .int v1), (3, .int v3)]) C d_Tuesday_cutOffBits_36 rfl (Nat.le_of_ble_eq_true rfl) rfl ?_
  refine r_iinc (pc := 37) C (v := v3 + 1) (lv' := [(3, .int (v3 + 1)), (2, .int (s1 ||| s0)), (0, .ref (Γ.2.1 32)), (1, .int v1)]) 3 d_Tuesday_cutOffBits_37 rfl rfl (Nat.le_of_ble_eq_true rfl) rfl ?_
  refine r_goto (pc := 40) C (tgt := 4) d_Tuesday_cutOffBits_40 (by decide) ?_
  exact r_lv (pc := 4) C [2, 3, 1, 0] rfl (hk4 v1 (s1 ||| s0) (v3 + 1) D hf)
def s_Tuesday_cutOffBits_4 (k4 : Int32 → Int32 → Int32 → Dt → Option (Int32 × Dt)) (v1 : Int32) (v2 : Int32) (v3 : Int32) (D : Dt) : Option (Int32 × Dt) :=
  (if 8 ≤ v3 then some (v2, D) else (if inb (v1 + 1) 9 = true then (if inb v3 8 = true then (if (D ((46 + 6 * (v1 + 1).toNatClampNeg) + 1) v3.toNatClampNeg) < 2 then b_Tuesday_cutOffBits_35 k4 v1 v3 0 v2 D else b_Tuesday_cutOffBits_35 k4 v1 v3 (1 <<< (v3 &&& 31)) v2 D) else none) else none))
def lp_Tuesday_cutOffBits_4 (n : Nat) : Int32 → Int32 → Int32 → Dt → Option (Int32 × Dt) := itr (fun _ _ _ _ => none) (s_Tuesday_cutOffBits_4) n
set_option maxHeartbeats 4000000 in
theorem ts_Tuesday_cutOffBits_4 {Γ : GmT} {G : Dt → Nat → List (Nat × Value) → List Value → Prop} {rr : Int32} {DD : Dt} (C : Cx Γ "RiverTuesdays$Tuesday" b_Tuesday_cutOffBits 4 1 (some .int) (some (.int rr)) DD G) {k4 : Int32 → Int32 → Int32 → Dt → Option (Int32 × Dt)} (hk4 : ∀ (v1 : Int32) (v2 : Int32) (v3 : Int32) (D : Dt), k4 v1 v2 v3 D = some (rr, DD) → G D 4 [(0, .ref (Γ.2.1 32)), (1, .int v1), (2, .int v2), (3, .int v3)] []) {v1 : Int32} {v2 : Int32} {v3 : Int32} {D : Dt} (hf : s_Tuesday_cutOffBits_4 k4 v1 v2 v3 D = some (rr, DD)) : G D 4 [(0, .ref (Γ.2.1 32)), (1, .int v1), (2, .int v2), (3, .int v3)] [] := by
  unfold s_Tuesday_cutOffBits_4 at hf
  refine r_iload_n (pc := 4) C 3 d_Tuesday_cutOffBits_4 rfl rfl ?_
  refine r_bipush (pc := 5) C (v := 8) d_Tuesday_cutOffBits_5 (by decide) ?_
  refine r_icmp_ge (pc := 7) C (tgt := 43) d_Tuesday_cutOffBits_7 (by decide) hf (fun c7 hf => ?_) (fun c7 hf => ?_)
  · refine r_iload_n (pc := 43) C 2 d_Tuesday_cutOffBits_43 rfl rfl ?_
    exact r_iret (pc := 44) C d_Tuesday_cutOffBits_44 hf
  · refine r_iload_n (pc := 10) C 2 d_Tuesday_cutOffBits_10 rfl rfl ?_
    refine r_aload_n (pc := 11) C 0 d_Tuesday_cutOffBits_11 rfl rfl ?_
    refine g_Tuesday_behind (pc := 12) C k_id32 Lf_Tuesday_11 d_Tuesday_cutOffBits_12 ?_
    refine r_iload_n (pc := 15) C 1 d_Tuesday_cutOffBits_15 rfl rfl ?_
    refine r_iconst (pc := 16) C (v := 1) d_Tuesday_cutOffBits_16 (by decide) ?_
    refine r_iadd (pc := 17) C d_Tuesday_cutOffBits_17 ?_
    refine r_aald16 (pc := 18) C kq_Tuesday_behind d_Tuesday_cutOffBits_18 hf (fun hn18 hf => ?_)
    refine g_Waters_ahead (pc := 19) C (ke16 _ (inb_lt hn18)) Lf_Tuesday_71 d_Tuesday_cutOffBits_19 ?_
    refine r_iload_n (pc := 22) C 3 d_Tuesday_cutOffBits_22 rfl rfl ?_
    refine r_iald (pc := 23) C (kq_Waters_ahead (ke16 _ (inb_lt hn18))) d_Tuesday_cutOffBits_23 hf (fun hf => ?_)
    refine r_iconst (pc := 24) C (v := 2) d_Tuesday_cutOffBits_24 (by decide) ?_
    refine r_icmp_lt (pc := 25) C (tgt := 34) d_Tuesday_cutOffBits_25 (by decide) hf (fun c25 hf => ?_) (fun c25 hf => ?_)
    · refine r_iconst (pc := 34) C (v := 0) d_Tuesday_cutOffBits_34 (by decide) ?_
      exact r_lv (pc := 35) C [0, 1, 3] rfl (tb_Tuesday_cutOffBits_35 C hk4 hf)
    · refine r_iconst (pc := 28) C (v := 1) d_Tuesday_cutOffBits_28 (by decide) ?_
      refine r_iload_n (pc := 29) C 3 d_Tuesday_cutOffBits_29 rfl rfl ?_
      refine r_ishl (pc := 30) C d_Tuesday_cutOffBits_30 ?_
      refine r_goto (pc := 31) C (tgt := 35) d_Tuesday_cutOffBits_31 (by decide) ?_
      exact r_lv (pc := 35) C [0, 1, 3] rfl (tb_Tuesday_cutOffBits_35 C hk4 hf)
theorem tl_Tuesday_cutOffBits_4 {Γ : GmT} {G : Dt → Nat → List (Nat × Value) → List Value → Prop} {rr : Int32} {DD : Dt} (C : Cx Γ "RiverTuesdays$Tuesday" b_Tuesday_cutOffBits 4 1 (some .int) (some (.int rr)) DD G) : ∀ (n : Nat) (v1 : Int32) (v2 : Int32) (v3 : Int32) (D : Dt), lp_Tuesday_cutOffBits_4 n v1 v2 v3 D = some (rr, DD) → G D 4 [(0, .ref (Γ.2.1 32)), (1, .int v1), (2, .int v2), (3, .int v3)] [] := by
  intro n
  induction n with
  | zero =>
    intro v1 v2 v3 D hf
    exact absurd (show (none : Option (Int32 × Dt)) = some (rr, DD) from hf) (by simp)
  | succ n ih =>
    intro v1 v2 v3 D hf
    exact ts_Tuesday_cutOffBits_4 C (k4 := lp_Tuesday_cutOffBits_4 n) ih hf
def f_Tuesday_cutOffBits (v1 : Int32) (D : Dt) : Option (Int32 × Dt) :=
  lp_Tuesday_cutOffBits_4 FU v1 0 0 D
set_option maxHeartbeats 4000000 in
theorem te_Tuesday_cutOffBits {Γ : GmT} {G : Dt → Nat → List (Nat × Value) → List Value → Prop} {rr : Int32} {DD : Dt} (C : Cx Γ "RiverTuesdays$Tuesday" b_Tuesday_cutOffBits 4 1 (some .int) (some (.int rr)) DD G) {v1 : Int32} {D : Dt} (hf : f_Tuesday_cutOffBits v1 D = some (rr, DD)) : G D 0 [(0, .ref (Γ.2.1 32)), (1, .int v1)] [] := by
  unfold f_Tuesday_cutOffBits at hf
  refine r_iconst (pc := 0) C (v := 0) d_Tuesday_cutOffBits_0 (by decide) ?_
  refine r_istore_n (pc := 1) (lv' := [(2, .int 0), (0, .ref (Γ.2.1 32)), (1, .int v1)]) C d_Tuesday_cutOffBits_1 rfl (Nat.le_of_ble_eq_true rfl) rfl ?_
  refine r_iconst (pc := 2) C (v := 0) d_Tuesday_cutOffBits_2 (by decide) ?_
  refine r_istore_n (pc := 3) (lv' := [(3, .int 0), (2, .int 0), (0, .ref (Γ.2.1 32)), (1, .int v1)]) C d_Tuesday_cutOffBits_3 rfl (Nat.le_of_ble_eq_true rfl) rfl ?_
  exact r_lv (pc := 4) C [2, 3, 1, 0] rfl (tl_Tuesday_cutOffBits_4 C FU v1 0 0 D hf)
theorem c_Tuesday_cutOffBits (Γ : GmT) {v1 : Int32} {D : Dt} {rr : Int32} {DD : Dt} (hf : f_Tuesday_cutOffBits v1 D = some (rr, DD)) : Mt Γ y_Tuesday_cutOffBits b_Tuesday_cutOffBits 4 (some .int) 1 [.ref (Γ.2.1 32), .int v1] D (some (.int rr)) DD := Mt_of (by decide) (Nat.le_of_ble_eq_true rfl) (fun G C => te_Tuesday_cutOffBits C hf)
def f_Fits_add (v1 : Int32) (a2 : Nat) (D : Dt) : Option (Unit × Dt) :=
  (if 256 ≤ (D 100 3) then some ((), D) else (if inb (D 100 3) 256 = true then nm (wr D 101 (D 100 3).toNatClampNeg v1) (fun D1 => (if ¬ (0 : Int32) < 0 ∧ ¬ ((D1 100 3) * 8) < 0 ∧ ¬ (8 : Int32) < 0 ∧ (0 : Int32).toNatClampNeg + (8 : Int32).toNatClampNeg ≤ (ln a2) ∧ ((D1 100 3) * 8).toNatClampNeg + (8 : Int32).toNatClampNeg ≤ 2048 then nm (st D1 102 (va_cpy (D1 a2) (D1 102) (0 : Int32).toNatClampNeg ((D1 100 3) * 8).toNatClampNeg (8 : Int32).toNatClampNeg)) (fun D2 => nm (wr D2 100 3 ((D2 100 3) + 1)) (fun D3 => some ((), D3))) else none)) else none))
set_option maxHeartbeats 4000000 in
theorem te_Fits_add {Γ : GmT} {G : Dt → Nat → List (Nat × Value) → List Value → Prop} {rr : Unit} {DD : Dt} {a2 : Nat} (C : Cx Γ "RiverTuesdays$Fits" b_Fits_add 3 2 none none DD G) (h2 : kd a2 = 11) {v1 : Int32} {D : Dt} (hf : f_Fits_add v1 a2 D = some (rr, DD)) : G D 0 [(0, .ref (Γ.2.1 100)), (1, .int v1), (2, .ref (Γ.2.1 a2))] [] := by
  unfold f_Fits_add at hf
  refine r_aload_n (pc := 0) C 0 d_Fits_add_0 rfl rfl ?_
  refine g_Fits_size (pc := 1) C k_id100 Lf_Fits_21 d_Fits_add_1 ?_
  refine r_sipush (pc := 4) C (v := 256) d_Fits_add_4 (by decide) ?_
  refine r_icmp_ge (pc := 7) C (tgt := 48) d_Fits_add_7 (by decide) hf (fun c7 hf => ?_) (fun c7 hf => ?_)
  · exact r_vret (pc := 48) C d_Fits_add_48 hf
  · refine r_aload_n (pc := 10) C 0 d_Fits_add_10 rfl rfl ?_
    refine g_Fits_plans (pc := 11) C k_id100 Lf_Fits_9 d_Fits_add_11 ?_
    refine r_aload_n (pc := 14) C 0 d_Fits_add_14 rfl rfl ?_
    refine g_Fits_size (pc := 15) C k_id100 Lf_Fits_21 d_Fits_add_15 ?_
    refine r_iload_n (pc := 18) C 1 d_Fits_add_18 rfl rfl ?_
    refine r_iast (pc := 19) C kq_Fits_plans d_Fits_add_19 hf (fun hf => ?_)
    refine r_nmD hf (fun D1 hf => ?_)
    refine r_aload_n (pc := 20) C 2 d_Fits_add_20 rfl rfl ?_
    refine r_iconst (pc := 21) C (v := 0) d_Fits_add_21 (by decide) ?_
    refine r_aload_n (pc := 22) C 0 d_Fits_add_22 rfl rfl ?_
    refine g_Fits_markOf (pc := 23) C k_id100 Lf_Fits_15 d_Fits_add_23 ?_
    refine r_aload_n (pc := 26) C 0 d_Fits_add_26 rfl rfl ?_
    refine g_Fits_size (pc := 27) C k_id100 Lf_Fits_21 d_Fits_add_27 ?_
    refine r_bipush (pc := 30) C (v := 8) d_Fits_add_30 (by decide) ?_
    refine r_imul (pc := 32) C d_Fits_add_32 ?_
    refine r_bipush (pc := 33) C (v := 8) d_Fits_add_33 (by decide) ?_
    refine r_acopy (pc := 35) C ⟨h2, rfl⟩ kq_Fits_markOf Lm_Fits_25 acw1 acw2 acw3 (by decide) (Nat.le_of_ble_eq_true rfl) d_Fits_add_35 hf (fun hf => ?_)
    refine r_nmD hf (fun D2 hf => ?_)
    refine r_aload_n (pc := 38) C 0 d_Fits_add_38 rfl rfl ?_
    refine r_dup (pc := 39) C d_Fits_add_39 rfl ?_
    refine g_Fits_size (pc := 40) C k_id100 Lf_Fits_21 d_Fits_add_40 ?_
    refine r_iconst (pc := 43) C (v := 1) d_Fits_add_43 (by decide) ?_
    refine r_iadd (pc := 44) C d_Fits_add_44 ?_
    refine p_Fits_size (pc := 45) C k_id100 Lf_Fits_21 d_Fits_add_45 ?_
    refine r_nmD hf (fun D3 hf => ?_)
    exact r_vret (pc := 48) C d_Fits_add_48 hf
theorem c_Fits_add (Γ : GmT) {v1 : Int32} {a2 : Nat} (h2 : kd a2 = 11) {D : Dt} {rr : Unit} {DD : Dt} (hf : f_Fits_add v1 a2 D = some (rr, DD)) : Mt Γ y_Fits_add b_Fits_add 3 none 2 [.ref (Γ.2.1 100), .int v1, .ref (Γ.2.1 a2)] D none DD := Mt_of (by decide) (Nat.le_of_ble_eq_true rfl) (fun G C => te_Fits_add C h2 hf)
def s_Fits_leastPlan_19 (k19 : Int32 → Int32 → Dt → Option (Int32 × Dt)) (v1 : Int32) (v2 : Int32) (D : Dt) : Option (Int32 × Dt) :=
  (if (D 100 3) ≤ v2 then some (v1, D) else (if inb v2 256 = true then nm (imin v1 (D 101 v2.toNatClampNeg)) (fun x2 => k19 x2 (v2 + 1) D) else none))
def lp_Fits_leastPlan_19 (n : Nat) : Int32 → Int32 → Dt → Option (Int32 × Dt) := itr (fun _ _ _ => none) (s_Fits_leastPlan_19) n
set_option maxHeartbeats 4000000 in
theorem ts_Fits_leastPlan_19 {Γ : GmT} {G : Dt → Nat → List (Nat × Value) → List Value → Prop} {rr : Int32} {DD : Dt} (C : Cx Γ "RiverTuesdays$Fits" b_Fits_leastPlan 3 2 (some .int) (some (.int rr)) DD G) {k19 : Int32 → Int32 → Dt → Option (Int32 × Dt)} (hk19 : ∀ (v1 : Int32) (v2 : Int32) (D : Dt), k19 v1 v2 D = some (rr, DD) → G D 19 [(0, .ref (Γ.2.1 100)), (1, .int v1), (2, .int v2)] []) {v1 : Int32} {v2 : Int32} {D : Dt} (hf : s_Fits_leastPlan_19 k19 v1 v2 D = some (rr, DD)) : G D 19 [(0, .ref (Γ.2.1 100)), (1, .int v1), (2, .int v2)] [] := by
  unfold s_Fits_leastPlan_19 at hf
  refine r_iload_n (pc := 19) C 2 d_Fits_leastPlan_19 rfl rfl ?_
  refine r_aload_n (pc := 20) C 0 d_Fits_leastPlan_20 rfl rfl ?_
  refine g_Fits_size (pc := 21) C k_id100 Lf_Fits_21 d_Fits_leastPlan_21 ?_
  refine r_icmp_ge (pc := 24) C (tgt := 44) d_Fits_leastPlan_24 (by decide) hf (fun c24 hf => ?_) (fun c24 hf => ?_)
  · refine r_iload_n (pc := 44) C 1 d_Fits_leastPlan_44 rfl rfl ?_
    exact r_iret (pc := 45) C d_Fits_leastPlan_45 hf
  · refine r_iload_n (pc := 27) C 1 d_Fits_leastPlan_27 rfl rfl ?_
    refine r_aload_n (pc := 28) C 0 d_Fits_leastPlan_28 rfl rfl ?_
    refine g_Fits_plans (pc := 29) C k_id100 Lf_Fits_9 d_Fits_leastPlan_29 ?_
    refine r_iload_n (pc := 32) C 2 d_Fits_leastPlan_32 rfl rfl ?_
    refine r_iald (pc := 33) C kq_Fits_plans d_Fits_leastPlan_33 hf (fun hf => ?_)
    refine r_mmin (pc := 34) C Lm_Fits_31 (by decide) (Nat.le_of_ble_eq_true rfl) d_Fits_leastPlan_34 ?_
    refine r_nmi (pc := 37) hf (fun x2 hf => ?_)
    refine r_istore_n (pc := 37) (lv' := [(1, .int x2), (0, .ref (Γ.2.1 100)), (2, .int v2)]) C d_Fits_leastPlan_37 rfl (Nat.le_of_ble_eq_true rfl) rfl ?_
    refine r_iinc (pc := 38) C (v := v2 + 1) (lv' := [(2, .int (v2 + 1)), (1, .int x2), (0, .ref (Γ.2.1 100))]) 2 d_Fits_leastPlan_38 rfl rfl (Nat.le_of_ble_eq_true rfl) rfl ?_
    refine r_goto (pc := 41) C (tgt := 19) d_Fits_leastPlan_41 (by decide) ?_
    exact r_lv (pc := 19) C [2, 1, 0] rfl (hk19 x2 (v2 + 1) D hf)
theorem tl_Fits_leastPlan_19 {Γ : GmT} {G : Dt → Nat → List (Nat × Value) → List Value → Prop} {rr : Int32} {DD : Dt} (C : Cx Γ "RiverTuesdays$Fits" b_Fits_leastPlan 3 2 (some .int) (some (.int rr)) DD G) : ∀ (n : Nat) (v1 : Int32) (v2 : Int32) (D : Dt), lp_Fits_leastPlan_19 n v1 v2 D = some (rr, DD) → G D 19 [(0, .ref (Γ.2.1 100)), (1, .int v1), (2, .int v2)] [] := by
  intro n
  induction n with
  | zero =>
    intro v1 v2 D hf
    exact absurd (show (none : Option (Int32 × Dt)) = some (rr, DD) from hf) (by simp)
  | succ n ih =>
    intro v1 v2 D hf
    exact ts_Fits_leastPlan_19 C (k19 := lp_Fits_leastPlan_19 n) ih hf
def f_Fits_leastPlan (D : Dt) : Option (Int32 × Dt) :=
  (if (D 100 3) = 0 then some ((-9), D) else (if inb 0 256 = true then nm (D 101 (0 : Int32).toNatClampNeg) (fun x1 => lp_Fits_leastPlan_19 FU x1 1 D) else none))
set_option maxHeartbeats 4000000 in
theorem te_Fits_leastPlan {Γ : GmT} {G : Dt → Nat → List (Nat × Value) → List Value → Prop} {rr : Int32} {DD : Dt} (C : Cx Γ "RiverTuesdays$Fits" b_Fits_leastPlan 3 2 (some .int) (some (.int rr)) DD G) {D : Dt} (hf : f_Fits_leastPlan D = some (rr, DD)) : G D 0 [(0, .ref (Γ.2.1 100))] [] := by
  unfold f_Fits_leastPlan at hf
  refine r_aload_n (pc := 0) C 0 d_Fits_leastPlan_0 rfl rfl ?_
  refine g_Fits_size (pc := 1) C k_id100 Lf_Fits_21 d_Fits_leastPlan_1 ?_
  refine r_if_ne (pc := 4) C (tgt := 10) d_Fits_leastPlan_4 (by decide) hf (fun c4 hf => ?_) (fun c4 hf => ?_)
  · refine r_aload_n (pc := 10) C 0 d_Fits_leastPlan_10 rfl rfl ?_
    refine g_Fits_plans (pc := 11) C k_id100 Lf_Fits_9 d_Fits_leastPlan_11 ?_
    refine r_iconst (pc := 14) C (v := 0) d_Fits_leastPlan_14 (by decide) ?_
    refine r_iald (pc := 15) C kq_Fits_plans d_Fits_leastPlan_15 hf (fun hf => ?_)
    refine r_nmi (pc := 16) hf (fun x1 hf => ?_)
    refine r_istore_n (pc := 16) (lv' := [(1, .int x1), (0, .ref (Γ.2.1 100))]) C d_Fits_leastPlan_16 rfl (Nat.le_of_ble_eq_true rfl) rfl ?_
    refine r_iconst (pc := 17) C (v := 1) d_Fits_leastPlan_17 (by decide) ?_
    refine r_istore_n (pc := 18) (lv' := [(2, .int 1), (1, .int x1), (0, .ref (Γ.2.1 100))]) C d_Fits_leastPlan_18 rfl (Nat.le_of_ble_eq_true rfl) rfl ?_
    exact r_lv (pc := 19) C [2, 1, 0] rfl (tl_Fits_leastPlan_19 C FU x1 1 D hf)
  · refine r_bipush (pc := 7) C (v := (-9)) d_Fits_leastPlan_7 (by decide) ?_
    exact r_iret (pc := 9) C d_Fits_leastPlan_9 hf
theorem c_Fits_leastPlan (Γ : GmT) {D : Dt} {rr : Int32} {DD : Dt} (hf : f_Fits_leastPlan D = some (rr, DD)) : Mt Γ y_Fits_leastPlan b_Fits_leastPlan 3 (some .int) 2 [.ref (Γ.2.1 100)] D (some (.int rr)) DD := Mt_of (by decide) (Nat.le_of_ble_eq_true rfl) (fun G C => te_Fits_leastPlan C hf)
def s_Fits_openInAll_6 (k6 : Int32 → Int32 → Dt → Option (Int32 × Dt)) (v1 : Int32) (v2 : Int32) (D : Dt) : Option (Int32 × Dt) :=
  (if (D 100 3) ≤ v2 then some (v1, D) else (if inb v2 256 = true then nm (v1 &&& (D 101 v2.toNatClampNeg)) (fun x1 => k6 x1 (v2 + 1) D) else none))
def lp_Fits_openInAll_6 (n : Nat) : Int32 → Int32 → Dt → Option (Int32 × Dt) := itr (fun _ _ _ => none) (s_Fits_openInAll_6) n
set_option maxHeartbeats 4000000 in
theorem ts_Fits_openInAll_6 {Γ : GmT} {G : Dt → Nat → List (Nat × Value) → List Value → Prop} {rr : Int32} {DD : Dt} (C : Cx Γ "RiverTuesdays$Fits" b_Fits_openInAll 3 1 (some .int) (some (.int rr)) DD G) {k6 : Int32 → Int32 → Dt → Option (Int32 × Dt)} (hk6 : ∀ (v1 : Int32) (v2 : Int32) (D : Dt), k6 v1 v2 D = some (rr, DD) → G D 6 [(0, .ref (Γ.2.1 100)), (1, .int v1), (2, .int v2)] []) {v1 : Int32} {v2 : Int32} {D : Dt} (hf : s_Fits_openInAll_6 k6 v1 v2 D = some (rr, DD)) : G D 6 [(0, .ref (Γ.2.1 100)), (1, .int v1), (2, .int v2)] [] := by
  unfold s_Fits_openInAll_6 at hf
  refine r_iload_n (pc := 6) C 2 d_Fits_openInAll_6 rfl rfl ?_
  refine r_aload_n (pc := 7) C 0 d_Fits_openInAll_7 rfl rfl ?_
  refine g_Fits_size (pc := 8) C k_id100 Lf_Fits_21 d_Fits_openInAll_8 ?_
  refine r_icmp_ge (pc := 11) C (tgt := 29) d_Fits_openInAll_11 (by decide) hf (fun c11 hf => ?_) (fun c11 hf => ?_)
  · refine r_iload_n (pc := 29) C 1 d_Fits_openInAll_29 rfl rfl ?_
    exact r_iret (pc := 30) C d_Fits_openInAll_30 hf
  · refine r_iload_n (pc := 14) C 1 d_Fits_openInAll_14 rfl rfl ?_
    refine r_aload_n (pc := 15) C 0 d_Fits_openInAll_15 rfl rfl ?_
    refine g_Fits_plans (pc := 16) C k_id100 Lf_Fits_9 d_Fits_openInAll_16 ?_
    refine r_iload_n (pc := 19) C 2 d_Fits_openInAll_19 rfl rfl ?_
    refine r_iald (pc := 20) C kq_Fits_plans d_Fits_openInAll_20 hf (fun hf => ?_)
    refine r_iand (pc := 21) C d_Fits_openInAll_21 ?_
    refine r_nmi (pc := 22) hf (fun x1 hf => ?_)
    refine r_istore_n (pc := 22) (lv' := [(1, .int x1), (0, .ref (Γ.2.1 100)), (2, .int v2)]) C d_Fits_openInAll_22 rfl (Nat.le_of_ble_eq_true rfl) rfl ?_
    refine r_iinc (pc := 23) C (v := v2 + 1) (lv' := [(2, .int (v2 + 1)), (1, .int x1), (0, .ref (Γ.2.1 100))]) 2 d_Fits_openInAll_23 rfl rfl (Nat.le_of_ble_eq_true rfl) rfl ?_
    refine r_goto (pc := 26) C (tgt := 6) d_Fits_openInAll_26 (by decide) ?_
    exact r_lv (pc := 6) C [2, 1, 0] rfl (hk6 x1 (v2 + 1) D hf)
theorem tl_Fits_openInAll_6 {Γ : GmT} {G : Dt → Nat → List (Nat × Value) → List Value → Prop} {rr : Int32} {DD : Dt} (C : Cx Γ "RiverTuesdays$Fits" b_Fits_openInAll 3 1 (some .int) (some (.int rr)) DD G) : ∀ (n : Nat) (v1 : Int32) (v2 : Int32) (D : Dt), lp_Fits_openInAll_6 n v1 v2 D = some (rr, DD) → G D 6 [(0, .ref (Γ.2.1 100)), (1, .int v1), (2, .int v2)] [] := by
  intro n
  induction n with
  | zero =>
    intro v1 v2 D hf
    exact absurd (show (none : Option (Int32 × Dt)) = some (rr, DD) from hf) (by simp)
  | succ n ih =>
    intro v1 v2 D hf
    exact ts_Fits_openInAll_6 C (k6 := lp_Fits_openInAll_6 n) ih hf
def f_Fits_openInAll (D : Dt) : Option (Int32 × Dt) :=
  lp_Fits_openInAll_6 FU 255 0 D
set_option maxHeartbeats 4000000 in
theorem te_Fits_openInAll {Γ : GmT} {G : Dt → Nat → List (Nat × Value) → List Value → Prop} {rr : Int32} {DD : Dt} (C : Cx Γ "RiverTuesdays$Fits" b_Fits_openInAll 3 1 (some .int) (some (.int rr)) DD G) {D : Dt} (hf : f_Fits_openInAll D = some (rr, DD)) : G D 0 [(0, .ref (Γ.2.1 100))] [] := by
  unfold f_Fits_openInAll at hf
  refine r_sipush (pc := 0) C (v := 255) d_Fits_openInAll_0 (by decide) ?_
  refine r_istore_n (pc := 3) (lv' := [(1, .int 255), (0, .ref (Γ.2.1 100))]) C d_Fits_openInAll_3 rfl (Nat.le_of_ble_eq_true rfl) rfl ?_
  refine r_iconst (pc := 4) C (v := 0) d_Fits_openInAll_4 (by decide) ?_
  refine r_istore_n (pc := 5) (lv' := [(2, .int 0), (1, .int 255), (0, .ref (Γ.2.1 100))]) C d_Fits_openInAll_5 rfl (Nat.le_of_ble_eq_true rfl) rfl ?_
  exact r_lv (pc := 6) C [2, 1, 0] rfl (tl_Fits_openInAll_6 C FU 255 0 D hf)
theorem c_Fits_openInAll (Γ : GmT) {D : Dt} {rr : Int32} {DD : Dt} (hf : f_Fits_openInAll D = some (rr, DD)) : Mt Γ y_Fits_openInAll b_Fits_openInAll 3 (some .int) 1 [.ref (Γ.2.1 100)] D (some (.int rr)) DD := Mt_of (by decide) (Nat.le_of_ble_eq_true rfl) (fun G C => te_Fits_openInAll C hf)
def s_Fits_shutInAll_6 (k6 : Int32 → Int32 → Dt → Option (Int32 × Dt)) (v1 : Int32) (v2 : Int32) (D : Dt) : Option (Int32 × Dt) :=
  (if (D 100 3) ≤ v2 then some (v1, D) else (if inb v2 256 = true then nm (v1 &&& ((D 101 v2.toNatClampNeg) ^^^ (-1))) (fun x1 => k6 x1 (v2 + 1) D) else none))
def lp_Fits_shutInAll_6 (n : Nat) : Int32 → Int32 → Dt → Option (Int32 × Dt) := itr (fun _ _ _ => none) (s_Fits_shutInAll_6) n
set_option maxHeartbeats 4000000 in
theorem ts_Fits_shutInAll_6 {Γ : GmT} {G : Dt → Nat → List (Nat × Value) → List Value → Prop} {rr : Int32} {DD : Dt} (C : Cx Γ "RiverTuesdays$Fits" b_Fits_shutInAll 3 1 (some .int) (some (.int rr)) DD G) {k6 : Int32 → Int32 → Dt → Option (Int32 × Dt)} (hk6 : ∀ (v1 : Int32) (v2 : Int32) (D : Dt), k6 v1 v2 D = some (rr, DD) → G D 6 [(0, .ref (Γ.2.1 100)), (1, .int v1), (2, .int v2)] []) {v1 : Int32} {v2 : Int32} {D : Dt} (hf : s_Fits_shutInAll_6 k6 v1 v2 D = some (rr, DD)) : G D 6 [(0, .ref (Γ.2.1 100)), (1, .int v1), (2, .int v2)] [] := by
  unfold s_Fits_shutInAll_6 at hf
  refine r_iload_n (pc := 6) C 2 d_Fits_shutInAll_6 rfl rfl ?_
  refine r_aload_n (pc := 7) C 0 d_Fits_shutInAll_7 rfl rfl ?_
  refine g_Fits_size (pc := 8) C k_id100 Lf_Fits_21 d_Fits_shutInAll_8 ?_
  refine r_icmp_ge (pc := 11) C (tgt := 31) d_Fits_shutInAll_11 (by decide) hf (fun c11 hf => ?_) (fun c11 hf => ?_)
  · refine r_iload_n (pc := 31) C 1 d_Fits_shutInAll_31 rfl rfl ?_
    exact r_iret (pc := 32) C d_Fits_shutInAll_32 hf
  · refine r_iload_n (pc := 14) C 1 d_Fits_shutInAll_14 rfl rfl ?_
    refine r_aload_n (pc := 15) C 0 d_Fits_shutInAll_15 rfl rfl ?_
    refine g_Fits_plans (pc := 16) C k_id100 Lf_Fits_9 d_Fits_shutInAll_16 ?_
    refine r_iload_n (pc := 19) C 2 d_Fits_shutInAll_19 rfl rfl ?_
    refine r_iald (pc := 20) C kq_Fits_plans d_Fits_shutInAll_20 hf (fun hf => ?_)
    refine r_iconst (pc := 21) C (v := (-1)) d_Fits_shutInAll_21 (by decide) ?_
    refine r_ixor (pc := 22) C d_Fits_shutInAll_22 ?_
    refine r_iand (pc := 23) C d_Fits_shutInAll_23 ?_
    refine r_nmi (pc := 24) hf (fun x1 hf => ?_)
    refine r_istore_n (pc := 24) (lv' := [(1, .int x1), (0, .ref (Γ.2.1 100)), (2, .int v2)]) C d_Fits_shutInAll_24 rfl (Nat.le_of_ble_eq_true rfl) rfl ?_
    refine r_iinc (pc := 25) C (v := v2 + 1) (lv' := [(2, .int (v2 + 1)), (1, .int x1), (0, .ref (Γ.2.1 100))]) 2 d_Fits_shutInAll_25 rfl rfl (Nat.le_of_ble_eq_true rfl) rfl ?_
    refine r_goto (pc := 28) C (tgt := 6) d_Fits_shutInAll_28 (by decide) ?_
    exact r_lv (pc := 6) C [2, 1, 0] rfl (hk6 x1 (v2 + 1) D hf)
theorem tl_Fits_shutInAll_6 {Γ : GmT} {G : Dt → Nat → List (Nat × Value) → List Value → Prop} {rr : Int32} {DD : Dt} (C : Cx Γ "RiverTuesdays$Fits" b_Fits_shutInAll 3 1 (some .int) (some (.int rr)) DD G) : ∀ (n : Nat) (v1 : Int32) (v2 : Int32) (D : Dt), lp_Fits_shutInAll_6 n v1 v2 D = some (rr, DD) → G D 6 [(0, .ref (Γ.2.1 100)), (1, .int v1), (2, .int v2)] [] := by
  intro n
  induction n with
  | zero =>
    intro v1 v2 D hf
    exact absurd (show (none : Option (Int32 × Dt)) = some (rr, DD) from hf) (by simp)
  | succ n ih =>
    intro v1 v2 D hf
    exact ts_Fits_shutInAll_6 C (k6 := lp_Fits_shutInAll_6 n) ih hf
def f_Fits_shutInAll (D : Dt) : Option (Int32 × Dt) :=
  lp_Fits_shutInAll_6 FU 255 0 D
set_option maxHeartbeats 4000000 in
theorem te_Fits_shutInAll {Γ : GmT} {G : Dt → Nat → List (Nat × Value) → List Value → Prop} {rr : Int32} {DD : Dt} (C : Cx Γ "RiverTuesdays$Fits" b_Fits_shutInAll 3 1 (some .int) (some (.int rr)) DD G) {D : Dt} (hf : f_Fits_shutInAll D = some (rr, DD)) : G D 0 [(0, .ref (Γ.2.1 100))] [] := by
  unfold f_Fits_shutInAll at hf
  refine r_sipush (pc := 0) C (v := 255) d_Fits_shutInAll_0 (by decide) ?_
  refine r_istore_n (pc := 3) (lv' := [(1, .int 255), (0, .ref (Γ.2.1 100))]) C d_Fits_shutInAll_3 rfl (Nat.le_of_ble_eq_true rfl) rfl ?_
  refine r_iconst (pc := 4) C (v := 0) d_Fits_shutInAll_4 (by decide) ?_
  refine r_istore_n (pc := 5) (lv' := [(2, .int 0), (1, .int 255), (0, .ref (Γ.2.1 100))]) C d_Fits_shutInAll_5 rfl (Nat.le_of_ble_eq_true rfl) rfl ?_
  exact r_lv (pc := 6) C [2, 1, 0] rfl (tl_Fits_shutInAll_6 C FU 255 0 D hf)
theorem c_Fits_shutInAll (Γ : GmT) {D : Dt} {rr : Int32} {DD : Dt} (hf : f_Fits_shutInAll D = some (rr, DD)) : Mt Γ y_Fits_shutInAll b_Fits_shutInAll 3 (some .int) 1 [.ref (Γ.2.1 100)] D (some (.int rr)) DD := Mt_of (by decide) (Nat.le_of_ble_eq_true rfl) (fun G C => te_Fits_shutInAll C hf)
def f_Fits_tallyPlace (v1 : Int32) (v2 : Int32) (D : Dt) : Option (Int32 × Dt) :=
  (if inb ((v1 * 8) + v2) 2048 = true then some (imin (imax (D 102 ((v1 * 8) + v2).toNatClampNeg) 0) 999, D) else none)
set_option maxHeartbeats 4000000 in
theorem te_Fits_tallyPlace {Γ : GmT} {G : Dt → Nat → List (Nat × Value) → List Value → Prop} {rr : Int32} {DD : Dt} (C : Cx Γ "RiverTuesdays$Fits" b_Fits_tallyPlace 3 2 (some .int) (some (.int rr)) DD G) {v1 : Int32} {v2 : Int32} {D : Dt} (hf : f_Fits_tallyPlace v1 v2 D = some (rr, DD)) : G D 0 [(0, .ref (Γ.2.1 100)), (1, .int v1), (2, .int v2)] [] := by
  unfold f_Fits_tallyPlace at hf
  refine r_aload_n (pc := 0) C 0 d_Fits_tallyPlace_0 rfl rfl ?_
  refine g_Fits_markOf (pc := 1) C k_id100 Lf_Fits_15 d_Fits_tallyPlace_1 ?_
  refine r_iload_n (pc := 4) C 1 d_Fits_tallyPlace_4 rfl rfl ?_
  refine r_bipush (pc := 5) C (v := 8) d_Fits_tallyPlace_5 (by decide) ?_
  refine r_imul (pc := 7) C d_Fits_tallyPlace_7 ?_
  refine r_iload_n (pc := 8) C 2 d_Fits_tallyPlace_8 rfl rfl ?_
  refine r_iadd (pc := 9) C d_Fits_tallyPlace_9 ?_
  refine r_iald (pc := 10) C kq_Fits_markOf d_Fits_tallyPlace_10 hf (fun hf => ?_)
  refine r_iconst (pc := 11) C (v := 0) d_Fits_tallyPlace_11 (by decide) ?_
  refine r_mmax (pc := 12) C Lm_Fits_40 (by decide) (Nat.le_of_ble_eq_true rfl) d_Fits_tallyPlace_12 ?_
  refine r_sipush (pc := 15) C (v := 999) d_Fits_tallyPlace_15 (by decide) ?_
  refine r_mmin (pc := 18) C Lm_Fits_31 (by decide) (Nat.le_of_ble_eq_true rfl) d_Fits_tallyPlace_18 ?_
  exact r_iret (pc := 21) C d_Fits_tallyPlace_21 hf
theorem c_Fits_tallyPlace (Γ : GmT) {v1 : Int32} {v2 : Int32} {D : Dt} {rr : Int32} {DD : Dt} (hf : f_Fits_tallyPlace v1 v2 D = some (rr, DD)) : Mt Γ y_Fits_tallyPlace b_Fits_tallyPlace 3 (some .int) 2 [.ref (Γ.2.1 100), .int v1, .int v2] D (some (.int rr)) DD := Mt_of (by decide) (Nat.le_of_ble_eq_true rfl) (fun G C => te_Fits_tallyPlace C hf)
def s_Fits_mostAlike_32 (k32 : Int32 → Int32 → Int32 → Dt → Option (Int32 × Dt)) (v1 : Int32) (v2 : Int32) (v3 : Int32) (D : Dt) : Option (Int32 × Dt) :=
  (if (D 100 3) ≤ v3 then some (v2, D) else bnd (f_Fits_tallyPlace v3 v1 D) (fun x1 D2 => (if inb x1 1000 = true then (if inb x1 1000 = true then nm (wr D2 103 x1.toNatClampNeg ((D2 103 x1.toNatClampNeg) + 1)) (fun D3 => (if inb x1 1000 = true then nm (imax v2 (D3 103 x1.toNatClampNeg)) (fun x4 => k32 v1 x4 (v3 + 1) D3) else none)) else none) else none)))
def lp_Fits_mostAlike_32 (n : Nat) : Int32 → Int32 → Int32 → Dt → Option (Int32 × Dt) := itr (fun _ _ _ _ => none) (s_Fits_mostAlike_32) n
set_option maxHeartbeats 4000000 in
theorem ts_Fits_mostAlike_32 {Γ : GmT} {G : Dt → Nat → List (Nat × Value) → List Value → Prop} {rr : Int32} {DD : Dt} (C : Cx Γ "RiverTuesdays$Fits" b_Fits_mostAlike 5 3 (some .int) (some (.int rr)) DD G) {k32 : Int32 → Int32 → Int32 → Dt → Option (Int32 × Dt)} (hk32 : ∀ (v1 : Int32) (v2 : Int32) (v3 : Int32) (D : Dt), k32 v1 v2 v3 D = some (rr, DD) → G D 32 [(0, .ref (Γ.2.1 100)), (1, .int v1), (2, .int v2), (3, .int v3)] []) {v1 : Int32} {v2 : Int32} {v3 : Int32} {D : Dt} (hf : s_Fits_mostAlike_32 k32 v1 v2 v3 D = some (rr, DD)) : G D 32 [(0, .ref (Γ.2.1 100)), (1, .int v1), (2, .int v2), (3, .int v3)] [] := by
  unfold s_Fits_mostAlike_32 at hf
  refine r_iload_n (pc := 32) C 3 d_Fits_mostAlike_32 rfl rfl ?_
  refine r_aload_n (pc := 33) C 0 d_Fits_mostAlike_33 rfl rfl ?_
  refine g_Fits_size (pc := 34) C k_id100 Lf_Fits_21 d_Fits_mostAlike_34 ?_
  refine r_icmp_ge (pc := 37) C (tgt := 77) d_Fits_mostAlike_37 (by decide) hf (fun c37 hf => ?_) (fun c37 hf => ?_)
  · refine r_iload_n (pc := 77) C 2 d_Fits_mostAlike_77 rfl rfl ?_
    exact r_iret (pc := 78) C d_Fits_mostAlike_78 hf
  · refine r_aload_n (pc := 40) C 0 d_Fits_mostAlike_40 rfl rfl ?_
    refine r_iload_n (pc := 41) C 3 d_Fits_mostAlike_41 rfl rfl ?_
    refine r_iload_n (pc := 42) C 1 d_Fits_mostAlike_42 rfl rfl ?_
    refine r_callVi (pc := 43) (As := [.int v3, .int v1]) (rest := []) C ok_Fits_tallyPlace Lm_Fits_37 k_id100 (by decide) ⟨by decide, by decide⟩ rfl rfl (Nat.le_of_ble_eq_true rfl) d_Fits_mostAlike_43 hf (fun x D1 hc => c_Fits_tallyPlace Γ hc) (fun x1 D2 hf => ?_)
    refine r_istore (pc := 46) (lv' := [(4, .int x1), (0, .ref (Γ.2.1 100)), (1, .int v1), (2, .int v2), (3, .int v3)]) C d_Fits_mostAlike_46 (Nat.le_of_ble_eq_true rfl) rfl ?_
    refine r_aload_n (pc := 48) C 1 d_Fits_mostAlike_48 rfl rfl ?_
    refine g_Fits_tally (pc := 49) C k_id100 Lf_Fits_18 d_Fits_mostAlike_49 ?_
    refine r_iload (pc := 52) C 0 d_Fits_mostAlike_52 rfl ?_
    refine r_dup2 (pc := 54) C d_Fits_mostAlike_54 rfl rfl ?_
    refine r_iald (pc := 55) C kq_Fits_tally d_Fits_mostAlike_55 hf (fun hf => ?_)
    refine r_iconst (pc := 56) C (v := 1) d_Fits_mostAlike_56 (by decide) ?_
    refine r_iadd (pc := 57) C d_Fits_mostAlike_57 ?_
    refine r_iast (pc := 58) C kq_Fits_tally d_Fits_mostAlike_58 hf (fun hf => ?_)
    refine r_nmD hf (fun D3 hf => ?_)
    refine r_iload_n (pc := 59) C 3 d_Fits_mostAlike_59 rfl rfl ?_
    refine r_aload_n (pc := 60) C 1 d_Fits_mostAlike_60 rfl rfl ?_
    refine g_Fits_tally (pc := 61) C k_id100 Lf_Fits_18 d_Fits_mostAlike_61 ?_
    refine r_iload (pc := 64) C 0 d_Fits_mostAlike_64 rfl ?_
    refine r_iald (pc := 66) C kq_Fits_tally d_Fits_mostAlike_66 hf (fun hf => ?_)
    refine r_mmax (pc := 67) C Lm_Fits_40 (by decide) (Nat.le_of_ble_eq_true rfl) d_Fits_mostAlike_67 ?_
    refine r_nmi (pc := 70) hf (fun x4 hf => ?_)
    refine r_istore_n (pc := 70) (lv' := [(2, .int x4), (4, .int x1), (0, .ref (Γ.2.1 100)), (1, .int v1), (3, .int v3)]) C d_Fits_mostAlike_70 rfl (Nat.le_of_ble_eq_true rfl) rfl ?_
    refine r_iinc (pc := 71) C (v := v3 + 1) (lv' := [(3, .int (v3 + 1)), (2, .int x4), (4, .int x1), (0, .ref (Γ.2.1 100)), (1, .int v1)]) 4 d_Fits_mostAlike_71 rfl rfl (Nat.le_of_ble_eq_true rfl) rfl ?_
    refine r_goto (pc := 74) C (tgt := 32) d_Fits_mostAlike_74 (by decide) ?_
    exact r_lv (pc := 32) C [3, 4, 1, 0] rfl (hk32 v1 x4 (v3 + 1) D3 hf)
theorem tl_Fits_mostAlike_32 {Γ : GmT} {G : Dt → Nat → List (Nat × Value) → List Value → Prop} {rr : Int32} {DD : Dt} (C : Cx Γ "RiverTuesdays$Fits" b_Fits_mostAlike 5 3 (some .int) (some (.int rr)) DD G) : ∀ (n : Nat) (v1 : Int32) (v2 : Int32) (v3 : Int32) (D : Dt), lp_Fits_mostAlike_32 n v1 v2 v3 D = some (rr, DD) → G D 32 [(0, .ref (Γ.2.1 100)), (1, .int v1), (2, .int v2), (3, .int v3)] [] := by
  intro n
  induction n with
  | zero =>
    intro v1 v2 v3 D hf
    exact absurd (show (none : Option (Int32 × Dt)) = some (rr, DD) from hf) (by simp)
  | succ n ih =>
    intro v1 v2 v3 D hf
    exact ts_Fits_mostAlike_32 C (k32 := lp_Fits_mostAlike_32 n) ih hf
def s_Fits_mostAlike_2 (k2 : Int32 → Int32 → Dt → Option (Int32 × Dt)) (v1 : Int32) (v2 : Int32) (D : Dt) : Option (Int32 × Dt) :=
  (if (D 100 3) ≤ v2 then lp_Fits_mostAlike_32 FU v1 0 0 D else bnd (f_Fits_tallyPlace v2 v1 D) (fun x5 D6 => (if inb x5 1000 = true then nm (wr D6 103 x5.toNatClampNeg 0) (fun D7 => k2 v1 (v2 + 1) D7) else none)))
def lp_Fits_mostAlike_2 (n : Nat) : Int32 → Int32 → Dt → Option (Int32 × Dt) := itr (fun _ _ _ => none) (s_Fits_mostAlike_2) n
set_option maxHeartbeats 4000000 in
theorem ts_Fits_mostAlike_2 {Γ : GmT} {G : Dt → Nat → List (Nat × Value) → List Value → Prop} {rr : Int32} {DD : Dt} (C : Cx Γ "RiverTuesdays$Fits" b_Fits_mostAlike 5 3 (some .int) (some (.int rr)) DD G) {k2 : Int32 → Int32 → Dt → Option (Int32 × Dt)} (hk2 : ∀ (v1 : Int32) (v2 : Int32) (D : Dt), k2 v1 v2 D = some (rr, DD) → G D 2 [(0, .ref (Γ.2.1 100)), (1, .int v1), (2, .int v2)] []) {v1 : Int32} {v2 : Int32} {D : Dt} (hf : s_Fits_mostAlike_2 k2 v1 v2 D = some (rr, DD)) : G D 2 [(0, .ref (Γ.2.1 100)), (1, .int v1), (2, .int v2)] [] := by
  unfold s_Fits_mostAlike_2 at hf
  refine r_iload_n (pc := 2) C 2 d_Fits_mostAlike_2 rfl rfl ?_
  refine r_aload_n (pc := 3) C 0 d_Fits_mostAlike_3 rfl rfl ?_
  refine g_Fits_size (pc := 4) C k_id100 Lf_Fits_21 d_Fits_mostAlike_4 ?_
  refine r_icmp_ge (pc := 7) C (tgt := 28) d_Fits_mostAlike_7 (by decide) hf (fun c7 hf => ?_) (fun c7 hf => ?_)
  · refine r_iconst (pc := 28) C (v := 0) d_Fits_mostAlike_28 (by decide) ?_
    refine r_istore_n (pc := 29) (lv' := [(2, .int 0), (0, .ref (Γ.2.1 100)), (1, .int v1)]) C d_Fits_mostAlike_29 rfl (Nat.le_of_ble_eq_true rfl) rfl ?_
    refine r_iconst (pc := 30) C (v := 0) d_Fits_mostAlike_30 (by decide) ?_
    refine r_istore_n (pc := 31) (lv' := [(3, .int 0), (2, .int 0), (0, .ref (Γ.2.1 100)), (1, .int v1)]) C d_Fits_mostAlike_31 rfl (Nat.le_of_ble_eq_true rfl) rfl ?_
    exact r_lv (pc := 32) C [2, 3, 1, 0] rfl (tl_Fits_mostAlike_32 C FU v1 0 0 D hf)
  · refine r_aload_n (pc := 10) C 0 d_Fits_mostAlike_10 rfl rfl ?_
    refine g_Fits_tally (pc := 11) C k_id100 Lf_Fits_18 d_Fits_mostAlike_11 ?_
    refine r_aload_n (pc := 14) C 0 d_Fits_mostAlike_14 rfl rfl ?_
    refine r_iload_n (pc := 15) C 2 d_Fits_mostAlike_15 rfl rfl ?_
    refine r_iload_n (pc := 16) C 1 d_Fits_mostAlike_16 rfl rfl ?_
    refine r_callVi (pc := 17) (As := [.int v2, .int v1]) (rest := [.ref (Γ.2.1 103)]) C ok_Fits_tallyPlace Lm_Fits_37 k_id100 (by decide) ⟨by decide, by decide⟩ rfl rfl (Nat.le_of_ble_eq_true rfl) d_Fits_mostAlike_17 hf (fun x D1 hc => c_Fits_tallyPlace Γ hc) (fun x5 D6 hf => ?_)
    refine r_iconst (pc := 20) C (v := 0) d_Fits_mostAlike_20 (by decide) ?_
    refine r_iast (pc := 21) C kq_Fits_tally d_Fits_mostAlike_21 hf (fun hf => ?_)
    refine r_nmD hf (fun D7 hf => ?_)
    refine r_iinc (pc := 22) C (v := v2 + 1) (lv' := [(2, .int (v2 + 1)), (0, .ref (Γ.2.1 100)), (1, .int v1)]) 2 d_Fits_mostAlike_22 rfl rfl (Nat.le_of_ble_eq_true rfl) rfl ?_
    refine r_goto (pc := 25) C (tgt := 2) d_Fits_mostAlike_25 (by decide) ?_
    exact r_lv (pc := 2) C [1, 2, 0] rfl (hk2 v1 (v2 + 1) D7 hf)
theorem tl_Fits_mostAlike_2 {Γ : GmT} {G : Dt → Nat → List (Nat × Value) → List Value → Prop} {rr : Int32} {DD : Dt} (C : Cx Γ "RiverTuesdays$Fits" b_Fits_mostAlike 5 3 (some .int) (some (.int rr)) DD G) : ∀ (n : Nat) (v1 : Int32) (v2 : Int32) (D : Dt), lp_Fits_mostAlike_2 n v1 v2 D = some (rr, DD) → G D 2 [(0, .ref (Γ.2.1 100)), (1, .int v1), (2, .int v2)] [] := by
  intro n
  induction n with
  | zero =>
    intro v1 v2 D hf
    exact absurd (show (none : Option (Int32 × Dt)) = some (rr, DD) from hf) (by simp)
  | succ n ih =>
    intro v1 v2 D hf
    exact ts_Fits_mostAlike_2 C (k2 := lp_Fits_mostAlike_2 n) ih hf
def f_Fits_mostAlike (v1 : Int32) (D : Dt) : Option (Int32 × Dt) :=
  lp_Fits_mostAlike_2 FU v1 0 D
set_option maxHeartbeats 4000000 in
theorem te_Fits_mostAlike {Γ : GmT} {G : Dt → Nat → List (Nat × Value) → List Value → Prop} {rr : Int32} {DD : Dt} (C : Cx Γ "RiverTuesdays$Fits" b_Fits_mostAlike 5 3 (some .int) (some (.int rr)) DD G) {v1 : Int32} {D : Dt} (hf : f_Fits_mostAlike v1 D = some (rr, DD)) : G D 0 [(0, .ref (Γ.2.1 100)), (1, .int v1)] [] := by
  unfold f_Fits_mostAlike at hf
  refine r_iconst (pc := 0) C (v := 0) d_Fits_mostAlike_0 (by decide) ?_
  refine r_istore_n (pc := 1) (lv' := [(2, .int 0), (0, .ref (Γ.2.1 100)), (1, .int v1)]) C d_Fits_mostAlike_1 rfl (Nat.le_of_ble_eq_true rfl) rfl ?_
  exact r_lv (pc := 2) C [1, 2, 0] rfl (tl_Fits_mostAlike_2 C FU v1 0 D hf)
theorem c_Fits_mostAlike (Γ : GmT) {v1 : Int32} {D : Dt} {rr : Int32} {DD : Dt} (hf : f_Fits_mostAlike v1 D = some (rr, DD)) : Mt Γ y_Fits_mostAlike b_Fits_mostAlike 5 (some .int) 3 [.ref (Γ.2.1 100), .int v1] D (some (.int rr)) DD := Mt_of (by decide) (Nat.le_of_ble_eq_true rfl) (fun G C => te_Fits_mostAlike C hf)
def s_Jobs_takeFrom_15 (a1 : Nat) (a2 : Nat) (k15 : Int32 → Dt → Option (Unit × Dt)) (v3 : Int32) (D : Dt) : Option (Unit × Dt) :=
  (if (D 104 4) ≤ v3 then some ((), D) else (if inb v3 60 = true then (if inb v3 6 = true then nm (wr D 105 v3.toNatClampNeg (D (a1 + 1) v3.toNatClampNeg)) (fun D2 => (if inb v3 60 = true then (if inb v3 6 = true then nm (wr D2 106 v3.toNatClampNeg (D2 (a2 + 1) v3.toNatClampNeg)) (fun D3 => (if inb v3 6 = true then nm (wr D3 107 v3.toNatClampNeg v3) (fun D4 => k15 (v3 + 1) D4) else none)) else none) else none)) else none) else none))
def lp_Jobs_takeFrom_15 (a1 : Nat) (a2 : Nat) (n : Nat) : Int32 → Dt → Option (Unit × Dt) := itr (fun _ _ => none) (s_Jobs_takeFrom_15 a1 a2) n
set_option maxHeartbeats 4000000 in
theorem ts_Jobs_takeFrom_15 {Γ : GmT} {G : Dt → Nat → List (Nat × Value) → List Value → Prop} {rr : Unit} {DD : Dt} {a1 : Nat} {a2 : Nat} (C : Cx Γ "RiverTuesdays$Jobs" b_Jobs_takeFrom 4 2 none none DD G) (h1 : kd a1 = 3) (h2 : kd a2 = 3) {k15 : Int32 → Dt → Option (Unit × Dt)} (hk15 : ∀ (v3 : Int32) (D : Dt), k15 v3 D = some (rr, DD) → G D 15 [(0, .ref (Γ.2.1 104)), (1, .ref (Γ.2.1 a1)), (2, .ref (Γ.2.1 a2)), (3, .int v3)] []) {v3 : Int32} {D : Dt} (hf : s_Jobs_takeFrom_15 a1 a2 k15 v3 D = some (rr, DD)) : G D 15 [(0, .ref (Γ.2.1 104)), (1, .ref (Γ.2.1 a1)), (2, .ref (Γ.2.1 a2)), (3, .int v3)] [] := by
  unfold s_Jobs_takeFrom_15 at hf
  refine r_iload_n (pc := 15) C 3 d_Jobs_takeFrom_15 rfl rfl ?_
  refine r_aload_n (pc := 16) C 0 d_Jobs_takeFrom_16 rfl rfl ?_
  refine g_Jobs_size (pc := 17) C k_id104 Lf_Jobs_36 d_Jobs_takeFrom_17 ?_
  refine r_icmp_ge (pc := 20) C (tgt := 60) d_Jobs_takeFrom_20 (by decide) hf (fun c20 hf => ?_) (fun c20 hf => ?_)
  · exact r_vret (pc := 60) C d_Jobs_takeFrom_60 hf
  · refine r_aload_n (pc := 23) C 0 d_Jobs_takeFrom_23 rfl rfl ?_
    refine g_Jobs_takes (pc := 24) C k_id104 Lf_Jobs_9 d_Jobs_takeFrom_24 ?_
    refine r_iload_n (pc := 27) C 3 d_Jobs_takeFrom_27 rfl rfl ?_
    refine r_aload_n (pc := 28) C 1 d_Jobs_takeFrom_28 rfl rfl ?_
    refine g_Row_places (pc := 29) C h1 Lf_Jobs_37 d_Jobs_takeFrom_29 ?_
    refine r_iload_n (pc := 32) C 3 d_Jobs_takeFrom_32 rfl rfl ?_
    refine r_iald (pc := 33) C (kq_Row_places h1) d_Jobs_takeFrom_33 hf (fun hf => ?_)
    refine r_iast (pc := 34) C kq_Jobs_takes d_Jobs_takeFrom_34 hf (fun hf => ?_)
    refine r_nmD hf (fun D2 hf => ?_)
    refine r_aload_n (pc := 35) C 0 d_Jobs_takeFrom_35 rfl rfl ?_
    refine g_Jobs_due (pc := 36) C k_id104 Lf_Jobs_15 d_Jobs_takeFrom_36 ?_
    refine r_iload_n (pc := 39) C 3 d_Jobs_takeFrom_39 rfl rfl ?_
    refine r_aload_n (pc := 40) C 2 d_Jobs_takeFrom_40 rfl rfl ?_
    refine g_Row_places (pc := 41) C h2 Lf_Jobs_37 d_Jobs_takeFrom_41 ?_
    refine r_iload_n (pc := 44) C 3 d_Jobs_takeFrom_44 rfl rfl ?_
    refine r_iald (pc := 45) C (kq_Row_places h2) d_Jobs_takeFrom_45 hf (fun hf => ?_)
    refine r_iast (pc := 46) C kq_Jobs_due d_Jobs_takeFrom_46 hf (fun hf => ?_)
    refine r_nmD hf (fun D3 hf => ?_)
    refine r_aload_n (pc := 47) C 0 d_Jobs_takeFrom_47 rfl rfl ?_
    refine g_Jobs_order (pc := 48) C k_id104 Lf_Jobs_18 d_Jobs_takeFrom_48 ?_
    refine r_iload_n (pc := 51) C 3 d_Jobs_takeFrom_51 rfl rfl ?_
    refine r_iload_n (pc := 52) C 3 d_Jobs_takeFrom_52 rfl rfl ?_
    refine r_iast (pc := 53) C kq_Jobs_order d_Jobs_takeFrom_53 hf (fun hf => ?_)
    refine r_nmD hf (fun D4 hf => ?_)
    refine r_iinc (pc := 54) C (v := v3 + 1) (lv' := [(3, .int (v3 + 1)), (0, .ref (Γ.2.1 104)), (1, .ref (Γ.2.1 a1)), (2, .ref (Γ.2.1 a2))]) 3 d_Jobs_takeFrom_54 rfl rfl (Nat.le_of_ble_eq_true rfl) rfl ?_
    refine r_goto (pc := 57) C (tgt := 15) d_Jobs_takeFrom_57 (by decide) ?_
    exact r_lv (pc := 15) C [1, 2, 3, 0] rfl (hk15 (v3 + 1) D4 hf)
theorem tl_Jobs_takeFrom_15 {Γ : GmT} {G : Dt → Nat → List (Nat × Value) → List Value → Prop} {rr : Unit} {DD : Dt} {a1 : Nat} {a2 : Nat} (C : Cx Γ "RiverTuesdays$Jobs" b_Jobs_takeFrom 4 2 none none DD G) (h1 : kd a1 = 3) (h2 : kd a2 = 3) : ∀ (n : Nat) (v3 : Int32) (D : Dt), lp_Jobs_takeFrom_15 a1 a2 n v3 D = some (rr, DD) → G D 15 [(0, .ref (Γ.2.1 104)), (1, .ref (Γ.2.1 a1)), (2, .ref (Γ.2.1 a2)), (3, .int v3)] [] := by
  intro n
  induction n with
  | zero =>
    intro v3 D hf
    exact absurd (show (none : Option (Unit × Dt)) = some (rr, DD) from hf) (by simp)
  | succ n ih =>
    intro v3 D hf
    exact ts_Jobs_takeFrom_15 C h1 h2 (k15 := lp_Jobs_takeFrom_15 a1 a2 n) ih hf
def f_Jobs_takeFrom (a1 : Nat) (a2 : Nat) (D : Dt) : Option (Unit × Dt) :=
  nm (wr D 104 4 (imin (D a1 1) 6)) (fun D1 => lp_Jobs_takeFrom_15 a1 a2 FU 0 D1)
set_option maxHeartbeats 4000000 in
theorem te_Jobs_takeFrom {Γ : GmT} {G : Dt → Nat → List (Nat × Value) → List Value → Prop} {rr : Unit} {DD : Dt} {a1 : Nat} {a2 : Nat} (C : Cx Γ "RiverTuesdays$Jobs" b_Jobs_takeFrom 4 2 none none DD G) (h1 : kd a1 = 3) (h2 : kd a2 = 3) {D : Dt} (hf : f_Jobs_takeFrom a1 a2 D = some (rr, DD)) : G D 0 [(0, .ref (Γ.2.1 104)), (1, .ref (Γ.2.1 a1)), (2, .ref (Γ.2.1 a2))] [] := by
  unfold f_Jobs_takeFrom at hf
  refine r_aload_n (pc := 0) C 0 d_Jobs_takeFrom_0 rfl rfl ?_
  refine r_aload_n (pc := 1) C 1 d_Jobs_takeFrom_1 rfl rfl ?_
  refine g_Row_size (pc := 2) C h1 Lf_Jobs_24 d_Jobs_takeFrom_2 ?_
  refine r_bipush (pc := 5) C (v := 6) d_Jobs_takeFrom_5 (by decide) ?_
  refine r_mmin (pc := 7) C Lm_Jobs_30 (by decide) (Nat.le_of_ble_eq_true rfl) d_Jobs_takeFrom_7 ?_
  refine p_Jobs_size (pc := 10) C k_id104 Lf_Jobs_36 d_Jobs_takeFrom_10 ?_
  refine r_nmD hf (fun D1 hf => ?_)
  refine r_iconst (pc := 13) C (v := 0) d_Jobs_takeFrom_13 (by decide) ?_
  refine r_istore_n (pc := 14) (lv' := [(3, .int 0), (0, .ref (Γ.2.1 104)), (1, .ref (Γ.2.1 a1)), (2, .ref (Γ.2.1 a2))]) C d_Jobs_takeFrom_14 rfl (Nat.le_of_ble_eq_true rfl) rfl ?_
  exact r_lv (pc := 15) C [1, 2, 3, 0] rfl (tl_Jobs_takeFrom_15 C h1 h2 FU 0 D1 hf)
theorem c_Jobs_takeFrom (Γ : GmT) {a1 : Nat} {a2 : Nat} (h1 : kd a1 = 3) (h2 : kd a2 = 3) {D : Dt} {rr : Unit} {DD : Dt} (hf : f_Jobs_takeFrom a1 a2 D = some (rr, DD)) : Mt Γ y_Jobs_takeFrom b_Jobs_takeFrom 4 none 2 [.ref (Γ.2.1 104), .ref (Γ.2.1 a1), .ref (Γ.2.1 a2)] D none DD := Mt_of (by decide) (Nat.le_of_ble_eq_true rfl) (fun G C => te_Jobs_takeFrom C h1 h2 hf)
def f_Jobs_swap (v1 : Int32) (v2 : Int32) (D : Dt) : Option (Unit × Dt) :=
  (if inb v1 6 = true then (if inb v2 6 = true then (if inb v1 6 = true then nm (wr D 107 v1.toNatClampNeg (D 107 v2.toNatClampNeg)) (fun D1 => (if inb v2 6 = true then nm (wr D1 107 v2.toNatClampNeg (D 107 v1.toNatClampNeg)) (fun D2 => some ((), D2)) else none)) else none) else none) else none)
set_option maxHeartbeats 4000000 in
theorem te_Jobs_swap {Γ : GmT} {G : Dt → Nat → List (Nat × Value) → List Value → Prop} {rr : Unit} {DD : Dt} (C : Cx Γ "RiverTuesdays$Jobs" b_Jobs_swap 4 1 none none DD G) {v1 : Int32} {v2 : Int32} {D : Dt} (hf : f_Jobs_swap v1 v2 D = some (rr, DD)) : G D 0 [(0, .ref (Γ.2.1 104)), (1, .int v1), (2, .int v2)] [] := by
  unfold f_Jobs_swap at hf
  refine r_aload_n (pc := 0) C 0 d_Jobs_swap_0 rfl rfl ?_
  refine g_Jobs_order (pc := 1) C k_id104 Lf_Jobs_18 d_Jobs_swap_1 ?_
  refine r_iload_n (pc := 4) C 1 d_Jobs_swap_4 rfl rfl ?_
  refine r_iald (pc := 5) C kq_Jobs_order d_Jobs_swap_5 hf (fun hf => ?_)
  refine r_istore_n (pc := 6) (lv' := [(3, .int (D 107 v1.toNatClampNeg)), (0, .ref (Γ.2.1 104)), (1, .int v1), (2, .int v2)]) C d_Jobs_swap_6 rfl (Nat.le_of_ble_eq_true rfl) rfl ?_
  refine r_aload_n (pc := 7) C 1 d_Jobs_swap_7 rfl rfl ?_
  refine g_Jobs_order (pc := 8) C k_id104 Lf_Jobs_18 d_Jobs_swap_8 ?_
  refine r_iload_n (pc := 11) C 2 d_Jobs_swap_11 rfl rfl ?_
  refine r_aload_n (pc := 12) C 1 d_Jobs_swap_12 rfl rfl ?_
  refine g_Jobs_order (pc := 13) C k_id104 Lf_Jobs_18 d_Jobs_swap_13 ?_
  refine r_iload_n (pc := 16) C 3 d_Jobs_swap_16 rfl rfl ?_
  refine r_iald (pc := 17) C kq_Jobs_order d_Jobs_swap_17 hf (fun hf => ?_)
  refine r_iast (pc := 18) C kq_Jobs_order d_Jobs_swap_18 hf (fun hf => ?_)
  refine r_nmD hf (fun D1 hf => ?_)
  refine r_aload_n (pc := 19) C 1 d_Jobs_swap_19 rfl rfl ?_
  refine g_Jobs_order (pc := 20) C k_id104 Lf_Jobs_18 d_Jobs_swap_20 ?_
  refine r_iload_n (pc := 23) C 3 d_Jobs_swap_23 rfl rfl ?_
  refine r_iload_n (pc := 24) C 0 d_Jobs_swap_24 rfl rfl ?_
  refine r_iast (pc := 25) C kq_Jobs_order d_Jobs_swap_25 hf (fun hf => ?_)
  refine r_nmD hf (fun D2 hf => ?_)
  exact r_vret (pc := 26) C d_Jobs_swap_26 hf
theorem c_Jobs_swap (Γ : GmT) {v1 : Int32} {v2 : Int32} {D : Dt} {rr : Unit} {DD : Dt} (hf : f_Jobs_swap v1 v2 D = some (rr, DD)) : Mt Γ y_Jobs_swap b_Jobs_swap 4 none 1 [.ref (Γ.2.1 104), .int v1, .int v2] D none DD := Mt_of (by decide) (Nat.le_of_ble_eq_true rfl) (fun G C => te_Jobs_swap C hf)
def s_Jobs_goToNextOrder_91 (k91 : Int32 → Int32 → Dt → Option (Int32 × Dt)) (v3 : Int32) (v4 : Int32) (D : Dt) : Option (Int32 × Dt) :=
  (if v4 ≤ v3 then some (1, D) else bnd (f_Jobs_swap v3 v4 D) (fun x3 D4 => k91 (v3 + 1) (v4 + (-1)) D4))
def lp_Jobs_goToNextOrder_91 (n : Nat) : Int32 → Int32 → Dt → Option (Int32 × Dt) := itr (fun _ _ _ => none) (s_Jobs_goToNextOrder_91) n
set_option maxHeartbeats 4000000 in
theorem ts_Jobs_goToNextOrder_91 {Γ : GmT} {G : Dt → Nat → List (Nat × Value) → List Value → Prop} {rr : Int32} {DD : Dt} (C : Cx Γ "RiverTuesdays$Jobs" b_Jobs_goToNextOrder 5 2 (some .boolean) (some (.int rr)) DD G) {k91 : Int32 → Int32 → Dt → Option (Int32 × Dt)} (hk91 : ∀ (v3 : Int32) (v4 : Int32) (D : Dt), k91 v3 v4 D = some (rr, DD) → G D 91 [(0, .ref (Γ.2.1 104)), (3, .int v3), (4, .int v4)] []) {v3 : Int32} {v4 : Int32} {D : Dt} (hf : s_Jobs_goToNextOrder_91 k91 v3 v4 D = some (rr, DD)) : G D 91 [(0, .ref (Γ.2.1 104)), (3, .int v3), (4, .int v4)] [] := by
  unfold s_Jobs_goToNextOrder_91 at hf
  refine r_iload_n (pc := 91) C 1 d_Jobs_goToNextOrder_91 rfl rfl ?_
  refine r_iload (pc := 92) C 2 d_Jobs_goToNextOrder_92 rfl ?_
  refine r_icmp_ge (pc := 94) C (tgt := 113) d_Jobs_goToNextOrder_94 (by decide) hf (fun c94 hf => ?_) (fun c94 hf => ?_)
  · refine r_iconst (pc := 113) C (v := 1) d_Jobs_goToNextOrder_113 (by decide) ?_
    exact r_zret (pc := 114) C d_Jobs_goToNextOrder_114 rfl hf
  · refine r_aload_n (pc := 97) C 0 d_Jobs_goToNextOrder_97 rfl rfl ?_
    refine r_iload_n (pc := 98) C 1 d_Jobs_goToNextOrder_98 rfl rfl ?_
    refine r_iload (pc := 99) C 2 d_Jobs_goToNextOrder_99 rfl ?_
    refine r_callVv (pc := 101) (As := [.int v3, .int v4]) (rest := []) C ok_Jobs_swap Lm_Jobs_58 k_id104 (by decide) ⟨by decide, by decide⟩ rfl rfl (Nat.le_of_ble_eq_true rfl) d_Jobs_goToNextOrder_101 hf (fun x D1 hc => c_Jobs_swap Γ hc) (fun x3 D4 hf => ?_)
    refine r_iinc (pc := 104) C (v := v3 + 1) (lv' := [(3, .int (v3 + 1)), (0, .ref (Γ.2.1 104)), (4, .int v4)]) 1 d_Jobs_goToNextOrder_104 rfl rfl (Nat.le_of_ble_eq_true rfl) rfl ?_
    refine r_iinc (pc := 107) C (v := v4 + (-1)) (lv' := [(4, .int (v4 + (-1))), (3, .int (v3 + 1)), (0, .ref (Γ.2.1 104))]) 2 d_Jobs_goToNextOrder_107 rfl rfl (Nat.le_of_ble_eq_true rfl) rfl ?_
    refine r_goto (pc := 110) C (tgt := 91) d_Jobs_goToNextOrder_110 (by decide) ?_
    exact r_lv (pc := 91) C [2, 1, 0] rfl (hk91 (v3 + 1) (v4 + (-1)) D4 hf)
theorem tl_Jobs_goToNextOrder_91 {Γ : GmT} {G : Dt → Nat → List (Nat × Value) → List Value → Prop} {rr : Int32} {DD : Dt} (C : Cx Γ "RiverTuesdays$Jobs" b_Jobs_goToNextOrder 5 2 (some .boolean) (some (.int rr)) DD G) : ∀ (n : Nat) (v3 : Int32) (v4 : Int32) (D : Dt), lp_Jobs_goToNextOrder_91 n v3 v4 D = some (rr, DD) → G D 91 [(0, .ref (Γ.2.1 104)), (3, .int v3), (4, .int v4)] [] := by
  intro n
  induction n with
  | zero =>
    intro v3 v4 D hf
    exact absurd (show (none : Option (Int32 × Dt)) = some (rr, DD) from hf) (by simp)
  | succ n ih =>
    intro v3 v4 D hf
    exact ts_Jobs_goToNextOrder_91 C (k91 := lp_Jobs_goToNextOrder_91 n) ih hf
def b_Jobs_goToNextOrder_73 (v1 : Int32) (v2 : Int32) (D : Dt) : Option (Int32 × Dt) :=
  bnd (f_Jobs_swap v1 v2 D) (fun x1 D2 => lp_Jobs_goToNextOrder_91 FU (v1 + 1) ((D2 104 4) - 1) D2)
set_option maxHeartbeats 4000000 in
theorem tb_Jobs_goToNextOrder_73 {Γ : GmT} {G : Dt → Nat → List (Nat × Value) → List Value → Prop} {rr : Int32} {DD : Dt} (C : Cx Γ "RiverTuesdays$Jobs" b_Jobs_goToNextOrder 5 2 (some .boolean) (some (.int rr)) DD G) {v1 : Int32} {v2 : Int32} {D : Dt} (hf : b_Jobs_goToNextOrder_73 v1 v2 D = some (rr, DD)) : G D 73 [(0, .ref (Γ.2.1 104)), (1, .int v1), (2, .int v2)] [] := by
  unfold b_Jobs_goToNextOrder_73 at hf
  refine r_aload_n (pc := 73) C 0 d_Jobs_goToNextOrder_73 rfl rfl ?_
  refine r_iload_n (pc := 74) C 1 d_Jobs_goToNextOrder_74 rfl rfl ?_
  refine r_iload_n (pc := 75) C 2 d_Jobs_goToNextOrder_75 rfl rfl ?_
  refine r_callVv (pc := 76) (As := [.int v1, .int v2]) (rest := []) C ok_Jobs_swap Lm_Jobs_58 k_id104 (by decide) ⟨by decide, by decide⟩ rfl rfl (Nat.le_of_ble_eq_true rfl) d_Jobs_goToNextOrder_76 hf (fun x D1 hc => c_Jobs_swap Γ hc) (fun x1 D2 hf => ?_)
  refine r_iload_n (pc := 79) C 1 d_Jobs_goToNextOrder_79 rfl rfl ?_
  refine r_iconst (pc := 80) C (v := 1) d_Jobs_goToNextOrder_80 (by decide) ?_
  refine r_iadd (pc := 81) C d_Jobs_goToNextOrder_81 ?_
  refine r_istore_n (pc := 82) (lv' := [(3, .int (v1 + 1)), (0, .ref (Γ.2.1 104)), (1, .int v1), (2, .int v2)]) C d_Jobs_goToNextOrder_82 rfl (Nat.le_of_ble_eq_true rfl) rfl ?_
  refine r_aload_n (pc := 83) C 1 d_Jobs_goToNextOrder_83 rfl rfl ?_
  refine g_Jobs_size (pc := 84) C k_id104 Lf_Jobs_36 d_Jobs_goToNextOrder_84 ?_
  refine r_iconst (pc := 87) C (v := 1) d_Jobs_goToNextOrder_87 (by decide) ?_
  refine r_isub (pc := 88) C d_Jobs_goToNextOrder_88 ?_
  refine r_istore (pc := 89) (lv' := [(4, .int ((D2 104 4) - 1)), (3, .int (v1 + 1)), (0, .ref (Γ.2.1 104)), (1, .int v1), (2, .int v2)]) C d_Jobs_goToNextOrder_89 (Nat.le_of_ble_eq_true rfl) rfl ?_
  exact r_lv (pc := 91) C [2, 1, 0] rfl (tl_Jobs_goToNextOrder_91 C FU (v1 + 1) ((D2 104 4) - 1) D2 hf)
def s_Jobs_goToNextOrder_47 (k47 : Int32 → Int32 → Dt → Option (Int32 × Dt)) (v1 : Int32) (v2 : Int32) (D : Dt) : Option (Int32 × Dt) :=
  (if v2 ≤ v1 then b_Jobs_goToNextOrder_73 v1 v2 D else (if inb v2 6 = true then (if inb v1 6 = true then (if (D 107 v1.toNatClampNeg) ≤ (D 107 v2.toNatClampNeg) then b_Jobs_goToNextOrder_73 v1 v2 D else k47 v1 (v2 + (-1)) D) else none) else none))
def lp_Jobs_goToNextOrder_47 (n : Nat) : Int32 → Int32 → Dt → Option (Int32 × Dt) := itr (fun _ _ _ => none) (s_Jobs_goToNextOrder_47) n
set_option maxHeartbeats 4000000 in
theorem ts_Jobs_goToNextOrder_47 {Γ : GmT} {G : Dt → Nat → List (Nat × Value) → List Value → Prop} {rr : Int32} {DD : Dt} (C : Cx Γ "RiverTuesdays$Jobs" b_Jobs_goToNextOrder 5 2 (some .boolean) (some (.int rr)) DD G) {k47 : Int32 → Int32 → Dt → Option (Int32 × Dt)} (hk47 : ∀ (v1 : Int32) (v2 : Int32) (D : Dt), k47 v1 v2 D = some (rr, DD) → G D 47 [(0, .ref (Γ.2.1 104)), (1, .int v1), (2, .int v2)] []) {v1 : Int32} {v2 : Int32} {D : Dt} (hf : s_Jobs_goToNextOrder_47 k47 v1 v2 D = some (rr, DD)) : G D 47 [(0, .ref (Γ.2.1 104)), (1, .int v1), (2, .int v2)] [] := by
  unfold s_Jobs_goToNextOrder_47 at hf
  refine r_iload_n (pc := 47) C 2 d_Jobs_goToNextOrder_47 rfl rfl ?_
  refine r_iload_n (pc := 48) C 1 d_Jobs_goToNextOrder_48 rfl rfl ?_
  refine r_icmp_le (pc := 49) C (tgt := 73) d_Jobs_goToNextOrder_49 (by decide) hf (fun c49 hf => ?_) (fun c49 hf => ?_)
  · exact r_lv (pc := 73) C [0, 1, 2] rfl (tb_Jobs_goToNextOrder_73 C hf)
  · refine r_aload_n (pc := 52) C 0 d_Jobs_goToNextOrder_52 rfl rfl ?_
    refine g_Jobs_order (pc := 53) C k_id104 Lf_Jobs_18 d_Jobs_goToNextOrder_53 ?_
    refine r_iload_n (pc := 56) C 2 d_Jobs_goToNextOrder_56 rfl rfl ?_
    refine r_iald (pc := 57) C kq_Jobs_order d_Jobs_goToNextOrder_57 hf (fun hf => ?_)
    refine r_aload_n (pc := 58) C 0 d_Jobs_goToNextOrder_58 rfl rfl ?_
    refine g_Jobs_order (pc := 59) C k_id104 Lf_Jobs_18 d_Jobs_goToNextOrder_59 ?_
    refine r_iload_n (pc := 62) C 1 d_Jobs_goToNextOrder_62 rfl rfl ?_
    refine r_iald (pc := 63) C kq_Jobs_order d_Jobs_goToNextOrder_63 hf (fun hf => ?_)
    refine r_icmp_ge (pc := 64) C (tgt := 73) d_Jobs_goToNextOrder_64 (by decide) hf (fun c64 hf => ?_) (fun c64 hf => ?_)
    · exact r_lv (pc := 73) C [0, 1, 2] rfl (tb_Jobs_goToNextOrder_73 C hf)
    · refine r_iinc (pc := 67) C (v := v2 + (-1)) (lv' := [(2, .int (v2 + (-1))), (0, .ref (Γ.2.1 104)), (1, .int v1)]) 2 d_Jobs_goToNextOrder_67 rfl rfl (Nat.le_of_ble_eq_true rfl) rfl ?_
      refine r_goto (pc := 70) C (tgt := 47) d_Jobs_goToNextOrder_70 (by decide) ?_
      exact r_lv (pc := 47) C [1, 2, 0] rfl (hk47 v1 (v2 + (-1)) D hf)
theorem tl_Jobs_goToNextOrder_47 {Γ : GmT} {G : Dt → Nat → List (Nat × Value) → List Value → Prop} {rr : Int32} {DD : Dt} (C : Cx Γ "RiverTuesdays$Jobs" b_Jobs_goToNextOrder 5 2 (some .boolean) (some (.int rr)) DD G) : ∀ (n : Nat) (v1 : Int32) (v2 : Int32) (D : Dt), lp_Jobs_goToNextOrder_47 n v1 v2 D = some (rr, DD) → G D 47 [(0, .ref (Γ.2.1 104)), (1, .int v1), (2, .int v2)] [] := by
  intro n
  induction n with
  | zero =>
    intro v1 v2 D hf
    exact absurd (show (none : Option (Int32 × Dt)) = some (rr, DD) from hf) (by simp)
  | succ n ih =>
    intro v1 v2 D hf
    exact ts_Jobs_goToNextOrder_47 C (k47 := lp_Jobs_goToNextOrder_47 n) ih hf
def b_Jobs_goToNextOrder_34 (v1 : Int32) (D : Dt) : Option (Int32 × Dt) :=
  (if 0 ≤ v1 then lp_Jobs_goToNextOrder_47 FU v1 ((D 104 4) - 1) D else some (0, D))
set_option maxHeartbeats 4000000 in
theorem tb_Jobs_goToNextOrder_34 {Γ : GmT} {G : Dt → Nat → List (Nat × Value) → List Value → Prop} {rr : Int32} {DD : Dt} (C : Cx Γ "RiverTuesdays$Jobs" b_Jobs_goToNextOrder 5 2 (some .boolean) (some (.int rr)) DD G) {v1 : Int32} {D : Dt} (hf : b_Jobs_goToNextOrder_34 v1 D = some (rr, DD)) : G D 34 [(0, .ref (Γ.2.1 104)), (1, .int v1)] [] := by
  unfold b_Jobs_goToNextOrder_34 at hf
  refine r_iload_n (pc := 34) C 1 d_Jobs_goToNextOrder_34 rfl rfl ?_
  refine r_if_ge (pc := 35) C (tgt := 40) d_Jobs_goToNextOrder_35 (by decide) hf (fun c35 hf => ?_) (fun c35 hf => ?_)
  · refine r_aload_n (pc := 40) C 0 d_Jobs_goToNextOrder_40 rfl rfl ?_
    refine g_Jobs_size (pc := 41) C k_id104 Lf_Jobs_36 d_Jobs_goToNextOrder_41 ?_
    refine r_iconst (pc := 44) C (v := 1) d_Jobs_goToNextOrder_44 (by decide) ?_
    refine r_isub (pc := 45) C d_Jobs_goToNextOrder_45 ?_
    refine r_istore_n (pc := 46) (lv' := [(2, .int ((D 104 4) - 1)), (0, .ref (Γ.2.1 104)), (1, .int v1)]) C d_Jobs_goToNextOrder_46 rfl (Nat.le_of_ble_eq_true rfl) rfl ?_
    exact r_lv (pc := 47) C [1, 2, 0] rfl (tl_Jobs_goToNextOrder_47 C FU v1 ((D 104 4) - 1) D hf)
  · refine r_iconst (pc := 38) C (v := 0) d_Jobs_goToNextOrder_38 (by decide) ?_
    exact r_zret (pc := 39) C d_Jobs_goToNextOrder_39 rfl hf
def s_Jobs_goToNextOrder_7 (k7 : Int32 → Dt → Option (Int32 × Dt)) (v1 : Int32) (D : Dt) : Option (Int32 × Dt) :=
  (if v1 < 0 then b_Jobs_goToNextOrder_34 v1 D else (if inb v1 6 = true then (if inb (v1 + 1) 6 = true then (if (D 107 v1.toNatClampNeg) ≤ (D 107 (v1 + 1).toNatClampNeg) then b_Jobs_goToNextOrder_34 v1 D else k7 (v1 + (-1)) D) else none) else none))
def lp_Jobs_goToNextOrder_7 (n : Nat) : Int32 → Dt → Option (Int32 × Dt) := itr (fun _ _ => none) (s_Jobs_goToNextOrder_7) n
set_option maxHeartbeats 4000000 in
theorem ts_Jobs_goToNextOrder_7 {Γ : GmT} {G : Dt → Nat → List (Nat × Value) → List Value → Prop} {rr : Int32} {DD : Dt} (C : Cx Γ "RiverTuesdays$Jobs" b_Jobs_goToNextOrder 5 2 (some .boolean) (some (.int rr)) DD G) {k7 : Int32 → Dt → Option (Int32 × Dt)} (hk7 : ∀ (v1 : Int32) (D : Dt), k7 v1 D = some (rr, DD) → G D 7 [(0, .ref (Γ.2.1 104)), (1, .int v1)] []) {v1 : Int32} {D : Dt} (hf : s_Jobs_goToNextOrder_7 k7 v1 D = some (rr, DD)) : G D 7 [(0, .ref (Γ.2.1 104)), (1, .int v1)] [] := by
  unfold s_Jobs_goToNextOrder_7 at hf
  refine r_iload_n (pc := 7) C 1 d_Jobs_goToNextOrder_7 rfl rfl ?_
  refine r_if_lt (pc := 8) C (tgt := 34) d_Jobs_goToNextOrder_8 (by decide) hf (fun c8 hf => ?_) (fun c8 hf => ?_)
  · exact r_lv (pc := 34) C [0, 1] rfl (tb_Jobs_goToNextOrder_34 C hf)
  · refine r_aload_n (pc := 11) C 0 d_Jobs_goToNextOrder_11 rfl rfl ?_
    refine g_Jobs_order (pc := 12) C k_id104 Lf_Jobs_18 d_Jobs_goToNextOrder_12 ?_
    refine r_iload_n (pc := 15) C 1 d_Jobs_goToNextOrder_15 rfl rfl ?_
    refine r_iald (pc := 16) C kq_Jobs_order d_Jobs_goToNextOrder_16 hf (fun hf => ?_)
    refine r_aload_n (pc := 17) C 0 d_Jobs_goToNextOrder_17 rfl rfl ?_
    refine g_Jobs_order (pc := 18) C k_id104 Lf_Jobs_18 d_Jobs_goToNextOrder_18 ?_
    refine r_iload_n (pc := 21) C 1 d_Jobs_goToNextOrder_21 rfl rfl ?_
    refine r_iconst (pc := 22) C (v := 1) d_Jobs_goToNextOrder_22 (by decide) ?_
    refine r_iadd (pc := 23) C d_Jobs_goToNextOrder_23 ?_
    refine r_iald (pc := 24) C kq_Jobs_order d_Jobs_goToNextOrder_24 hf (fun hf => ?_)
    refine r_icmp_le (pc := 25) C (tgt := 34) d_Jobs_goToNextOrder_25 (by decide) hf (fun c25 hf => ?_) (fun c25 hf => ?_)
    · exact r_lv (pc := 34) C [0, 1] rfl (tb_Jobs_goToNextOrder_34 C hf)
    · refine r_iinc (pc := 28) C (v := v1 + (-1)) (lv' := [(1, .int (v1 + (-1))), (0, .ref (Γ.2.1 104))]) 1 d_Jobs_goToNextOrder_28 rfl rfl (Nat.le_of_ble_eq_true rfl) rfl ?_
      refine r_goto (pc := 31) C (tgt := 7) d_Jobs_goToNextOrder_31 (by decide) ?_
      exact r_lv (pc := 7) C [1, 0] rfl (hk7 (v1 + (-1)) D hf)
theorem tl_Jobs_goToNextOrder_7 {Γ : GmT} {G : Dt → Nat → List (Nat × Value) → List Value → Prop} {rr : Int32} {DD : Dt} (C : Cx Γ "RiverTuesdays$Jobs" b_Jobs_goToNextOrder 5 2 (some .boolean) (some (.int rr)) DD G) : ∀ (n : Nat) (v1 : Int32) (D : Dt), lp_Jobs_goToNextOrder_7 n v1 D = some (rr, DD) → G D 7 [(0, .ref (Γ.2.1 104)), (1, .int v1)] [] := by
  intro n
  induction n with
  | zero =>
    intro v1 D hf
    exact absurd (show (none : Option (Int32 × Dt)) = some (rr, DD) from hf) (by simp)
  | succ n ih =>
    intro v1 D hf
    exact ts_Jobs_goToNextOrder_7 C (k7 := lp_Jobs_goToNextOrder_7 n) ih hf
def f_Jobs_goToNextOrder (D : Dt) : Option (Int32 × Dt) :=
  lp_Jobs_goToNextOrder_7 FU ((D 104 4) - 2) D
set_option maxHeartbeats 4000000 in
theorem te_Jobs_goToNextOrder {Γ : GmT} {G : Dt → Nat → List (Nat × Value) → List Value → Prop} {rr : Int32} {DD : Dt} (C : Cx Γ "RiverTuesdays$Jobs" b_Jobs_goToNextOrder 5 2 (some .boolean) (some (.int rr)) DD G) {D : Dt} (hf : f_Jobs_goToNextOrder D = some (rr, DD)) : G D 0 [(0, .ref (Γ.2.1 104))] [] := by
  unfold f_Jobs_goToNextOrder at hf
  refine r_aload_n (pc := 0) C 0 d_Jobs_goToNextOrder_0 rfl rfl ?_
  refine g_Jobs_size (pc := 1) C k_id104 Lf_Jobs_36 d_Jobs_goToNextOrder_1 ?_
  refine r_iconst (pc := 4) C (v := 2) d_Jobs_goToNextOrder_4 (by decide) ?_
  refine r_isub (pc := 5) C d_Jobs_goToNextOrder_5 ?_
  refine r_istore_n (pc := 6) (lv' := [(1, .int ((D 104 4) - 2)), (0, .ref (Γ.2.1 104))]) C d_Jobs_goToNextOrder_6 rfl (Nat.le_of_ble_eq_true rfl) rfl ?_
  exact r_lv (pc := 7) C [1, 0] rfl (tl_Jobs_goToNextOrder_7 C FU ((D 104 4) - 2) D hf)
theorem c_Jobs_goToNextOrder (Γ : GmT) {D : Dt} {rr : Int32} {DD : Dt} (hf : f_Jobs_goToNextOrder D = some (rr, DD)) : Mt Γ y_Jobs_goToNextOrder b_Jobs_goToNextOrder 5 (some .boolean) 2 [.ref (Γ.2.1 104)] D (some (.int rr)) DD := Mt_of (by decide) (Nat.le_of_ble_eq_true rfl) (fun G C => te_Jobs_goToNextOrder C hf)
def s_Jobs_lateTogether_6 (k6 : Int32 → Int32 → Int32 → Dt → Option (Int32 × Dt)) (v1 : Int32) (v2 : Int32) (v3 : Int32) (D : Dt) : Option (Int32 × Dt) :=
  (if (D 104 4) ≤ v3 then some (v2, D) else (if inb v3 6 = true then (if inb (D 107 v3.toNatClampNeg) 6 = true then nm (v1 + (D 105 (D 107 v3.toNatClampNeg).toNatClampNeg)) (fun x1 => (if inb v3 6 = true then (if inb (D 107 v3.toNatClampNeg) 6 = true then nm (v2 + (imax (x1 - (D 106 (D 107 v3.toNatClampNeg).toNatClampNeg)) 0)) (fun x2 => k6 x1 x2 (v3 + 1) D) else none) else none)) else none) else none))
def lp_Jobs_lateTogether_6 (n : Nat) : Int32 → Int32 → Int32 → Dt → Option (Int32 × Dt) := itr (fun _ _ _ _ => none) (s_Jobs_lateTogether_6) n
set_option maxHeartbeats 4000000 in
theorem ts_Jobs_lateTogether_6 {Γ : GmT} {G : Dt → Nat → List (Nat × Value) → List Value → Prop} {rr : Int32} {DD : Dt} (C : Cx Γ "RiverTuesdays$Jobs" b_Jobs_lateTogether 4 2 (some .int) (some (.int rr)) DD G) {k6 : Int32 → Int32 → Int32 → Dt → Option (Int32 × Dt)} (hk6 : ∀ (v1 : Int32) (v2 : Int32) (v3 : Int32) (D : Dt), k6 v1 v2 v3 D = some (rr, DD) → G D 6 [(0, .ref (Γ.2.1 104)), (1, .int v1), (2, .int v2), (3, .int v3)] []) {v1 : Int32} {v2 : Int32} {v3 : Int32} {D : Dt} (hf : s_Jobs_lateTogether_6 k6 v1 v2 v3 D = some (rr, DD)) : G D 6 [(0, .ref (Γ.2.1 104)), (1, .int v1), (2, .int v2), (3, .int v3)] [] := by
  unfold s_Jobs_lateTogether_6 at hf
  refine r_iload_n (pc := 6) C 3 d_Jobs_lateTogether_6 rfl rfl ?_
  refine r_aload_n (pc := 7) C 0 d_Jobs_lateTogether_7 rfl rfl ?_
  refine g_Jobs_size (pc := 8) C k_id104 Lf_Jobs_36 d_Jobs_lateTogether_8 ?_
  refine r_icmp_ge (pc := 11) C (tgt := 54) d_Jobs_lateTogether_11 (by decide) hf (fun c11 hf => ?_) (fun c11 hf => ?_)
  · refine r_iload_n (pc := 54) C 2 d_Jobs_lateTogether_54 rfl rfl ?_
    exact r_iret (pc := 55) C d_Jobs_lateTogether_55 hf
  · refine r_iload_n (pc := 14) C 1 d_Jobs_lateTogether_14 rfl rfl ?_
    refine r_aload_n (pc := 15) C 0 d_Jobs_lateTogether_15 rfl rfl ?_
    refine g_Jobs_takes (pc := 16) C k_id104 Lf_Jobs_9 d_Jobs_lateTogether_16 ?_
    refine r_aload_n (pc := 19) C 0 d_Jobs_lateTogether_19 rfl rfl ?_
    refine g_Jobs_order (pc := 20) C k_id104 Lf_Jobs_18 d_Jobs_lateTogether_20 ?_
    refine r_iload_n (pc := 23) C 3 d_Jobs_lateTogether_23 rfl rfl ?_
    refine r_iald (pc := 24) C kq_Jobs_order d_Jobs_lateTogether_24 hf (fun hf => ?_)
    refine r_iald (pc := 25) C kq_Jobs_takes d_Jobs_lateTogether_25 hf (fun hf => ?_)
    refine r_iadd (pc := 26) C d_Jobs_lateTogether_26 ?_
    refine r_nmi (pc := 27) hf (fun x1 hf => ?_)
    refine r_istore_n (pc := 27) (lv' := [(1, .int x1), (0, .ref (Γ.2.1 104)), (2, .int v2), (3, .int v3)]) C d_Jobs_lateTogether_27 rfl (Nat.le_of_ble_eq_true rfl) rfl ?_
    refine r_iload_n (pc := 28) C 2 d_Jobs_lateTogether_28 rfl rfl ?_
    refine r_iload_n (pc := 29) C 0 d_Jobs_lateTogether_29 rfl rfl ?_
    refine r_aload_n (pc := 30) C 1 d_Jobs_lateTogether_30 rfl rfl ?_
    refine g_Jobs_due (pc := 31) C k_id104 Lf_Jobs_15 d_Jobs_lateTogether_31 ?_
    refine r_aload_n (pc := 34) C 1 d_Jobs_lateTogether_34 rfl rfl ?_
    refine g_Jobs_order (pc := 35) C k_id104 Lf_Jobs_18 d_Jobs_lateTogether_35 ?_
    refine r_iload_n (pc := 38) C 3 d_Jobs_lateTogether_38 rfl rfl ?_
    refine r_iald (pc := 39) C kq_Jobs_order d_Jobs_lateTogether_39 hf (fun hf => ?_)
    refine r_iald (pc := 40) C kq_Jobs_due d_Jobs_lateTogether_40 hf (fun hf => ?_)
    refine r_isub (pc := 41) C d_Jobs_lateTogether_41 ?_
    refine r_iconst (pc := 42) C (v := 0) d_Jobs_lateTogether_42 (by decide) ?_
    refine r_mmax (pc := 43) C Lm_Jobs_55 (by decide) (Nat.le_of_ble_eq_true rfl) d_Jobs_lateTogether_43 ?_
    refine r_iadd (pc := 46) C d_Jobs_lateTogether_46 ?_
    refine r_nmi (pc := 47) hf (fun x2 hf => ?_)
    refine r_istore_n (pc := 47) (lv' := [(2, .int x2), (1, .int x1), (0, .ref (Γ.2.1 104)), (3, .int v3)]) C d_Jobs_lateTogether_47 rfl (Nat.le_of_ble_eq_true rfl) rfl ?_
    refine r_iinc (pc := 48) C (v := v3 + 1) (lv' := [(3, .int (v3 + 1)), (2, .int x2), (1, .int x1), (0, .ref (Γ.2.1 104))]) 3 d_Jobs_lateTogether_48 rfl rfl (Nat.le_of_ble_eq_true rfl) rfl ?_
    refine r_goto (pc := 51) C (tgt := 6) d_Jobs_lateTogether_51 (by decide) ?_
    exact r_lv (pc := 6) C [3, 2, 1, 0] rfl (hk6 x1 x2 (v3 + 1) D hf)
theorem tl_Jobs_lateTogether_6 {Γ : GmT} {G : Dt → Nat → List (Nat × Value) → List Value → Prop} {rr : Int32} {DD : Dt} (C : Cx Γ "RiverTuesdays$Jobs" b_Jobs_lateTogether 4 2 (some .int) (some (.int rr)) DD G) : ∀ (n : Nat) (v1 : Int32) (v2 : Int32) (v3 : Int32) (D : Dt), lp_Jobs_lateTogether_6 n v1 v2 v3 D = some (rr, DD) → G D 6 [(0, .ref (Γ.2.1 104)), (1, .int v1), (2, .int v2), (3, .int v3)] [] := by
  intro n
  induction n with
  | zero =>
    intro v1 v2 v3 D hf
    exact absurd (show (none : Option (Int32 × Dt)) = some (rr, DD) from hf) (by simp)
  | succ n ih =>
    intro v1 v2 v3 D hf
    exact ts_Jobs_lateTogether_6 C (k6 := lp_Jobs_lateTogether_6 n) ih hf
def f_Jobs_lateTogether (D : Dt) : Option (Int32 × Dt) :=
  lp_Jobs_lateTogether_6 FU 0 0 0 D
set_option maxHeartbeats 4000000 in
theorem te_Jobs_lateTogether {Γ : GmT} {G : Dt → Nat → List (Nat × Value) → List Value → Prop} {rr : Int32} {DD : Dt} (C : Cx Γ "RiverTuesdays$Jobs" b_Jobs_lateTogether 4 2 (some .int) (some (.int rr)) DD G) {D : Dt} (hf : f_Jobs_lateTogether D = some (rr, DD)) : G D 0 [(0, .ref (Γ.2.1 104))] [] := by
  unfold f_Jobs_lateTogether at hf
  refine r_iconst (pc := 0) C (v := 0) d_Jobs_lateTogether_0 (by decide) ?_
  refine r_istore_n (pc := 1) (lv' := [(1, .int 0), (0, .ref (Γ.2.1 104))]) C d_Jobs_lateTogether_1 rfl (Nat.le_of_ble_eq_true rfl) rfl ?_
  refine r_iconst (pc := 2) C (v := 0) d_Jobs_lateTogether_2 (by decide) ?_
  refine r_istore_n (pc := 3) (lv' := [(2, .int 0), (1, .int 0), (0, .ref (Γ.2.1 104))]) C d_Jobs_lateTogether_3 rfl (Nat.le_of_ble_eq_true rfl) rfl ?_
  refine r_iconst (pc := 4) C (v := 0) d_Jobs_lateTogether_4 (by decide) ?_
  refine r_istore_n (pc := 5) (lv' := [(3, .int 0), (2, .int 0), (1, .int 0), (0, .ref (Γ.2.1 104))]) C d_Jobs_lateTogether_5 rfl (Nat.le_of_ble_eq_true rfl) rfl ?_
  exact r_lv (pc := 6) C [3, 2, 1, 0] rfl (tl_Jobs_lateTogether_6 C FU 0 0 0 D hf)
theorem c_Jobs_lateTogether (Γ : GmT) {D : Dt} {rr : Int32} {DD : Dt} (hf : f_Jobs_lateTogether D = some (rr, DD)) : Mt Γ y_Jobs_lateTogether b_Jobs_lateTogether 4 (some .int) 2 [.ref (Γ.2.1 104)] D (some (.int rr)) DD := Mt_of (by decide) (Nat.le_of_ble_eq_true rfl) (fun G C => te_Jobs_lateTogether C hf)
def b_Jobs_findBestOrder_50 (k7 : Int32 → Int32 → Int32 → Dt → Option (Int32 × Dt)) (v1 : Int32) (v3 : Int32) (D : Dt) : Option (Int32 × Dt) :=
  bnd (f_Jobs_goToNextOrder D) (fun x3 D4 => k7 v1 x3 (v3 + 1) D4)
set_option maxHeartbeats 4000000 in
theorem tb_Jobs_findBestOrder_50 {Γ : GmT} {G : Dt → Nat → List (Nat × Value) → List Value → Prop} {rr : Int32} {DD : Dt} (C : Cx Γ "RiverTuesdays$Jobs" b_Jobs_findBestOrder 5 3 (some .int) (some (.int rr)) DD G) {k7 : Int32 → Int32 → Int32 → Dt → Option (Int32 × Dt)} (hk7 : ∀ (v1 : Int32) (v2 : Int32) (v3 : Int32) (D : Dt), k7 v1 v2 v3 D = some (rr, DD) → G D 7 [(0, .ref (Γ.2.1 104)), (1, .int v1), (2, .int v2), (3, .int v3)] []) {v1 : Int32} {v3 : Int32} {D : Dt} (hf : b_Jobs_findBestOrder_50 k7 v1 v3 D = some (rr, DD)) : G D 50 [(0, .ref (Γ.2.1 104)), (1, .int v1), (3, .int v3)] [] := by
  unfold b_Jobs_findBestOrder_50 at hf
  refine r_aload_n (pc := 50) C 0 d_Jobs_findBestOrder_50 rfl rfl ?_
  refine r_callVi (pc := 51) (As := []) (rest := []) C ok_Jobs_goToNextOrder Lm_Jobs_51 k_id104 (by decide) ⟨by decide, by decide⟩ rfl rfl (Nat.le_of_ble_eq_true rfl) d_Jobs_findBestOrder_51 hf (fun x D1 hc => c_Jobs_goToNextOrder Γ hc) (fun x3 D4 hf => ?_)
  refine r_istore_n (pc := 54) (lv' := [(2, .int x3), (0, .ref (Γ.2.1 104)), (1, .int v1), (3, .int v3)]) C d_Jobs_findBestOrder_54 rfl (Nat.le_of_ble_eq_true rfl) rfl ?_
  refine r_iinc (pc := 55) C (v := v3 + 1) (lv' := [(3, .int (v3 + 1)), (2, .int x3), (0, .ref (Γ.2.1 104)), (1, .int v1)]) 3 d_Jobs_findBestOrder_55 rfl rfl (Nat.le_of_ble_eq_true rfl) rfl ?_
  refine r_goto (pc := 58) C (tgt := 7) d_Jobs_findBestOrder_58 (by decide) ?_
  exact r_lv (pc := 7) C [2, 3, 1, 0] rfl (hk7 v1 x3 (v3 + 1) D4 hf)
def s_Jobs_findBestOrder_7 (k7 : Int32 → Int32 → Int32 → Dt → Option (Int32 × Dt)) (v1 : Int32) (v2 : Int32) (v3 : Int32) (D : Dt) : Option (Int32 × Dt) :=
  (if 720 ≤ v3 then some (v1, D) else (if v2 = 0 then some (v1, D) else bnd (f_Jobs_lateTogether D) (fun x1 D2 => (if v1 ≤ x1 then b_Jobs_findBestOrder_50 k7 v1 v3 D2 else (if ¬ (0 : Int32) < 0 ∧ ¬ (0 : Int32) < 0 ∧ ¬ (D2 104 4) < 0 ∧ (0 : Int32).toNatClampNeg + (D2 104 4).toNatClampNeg ≤ 6 ∧ (0 : Int32).toNatClampNeg + (D2 104 4).toNatClampNeg ≤ 6 then nm (st D2 108 (va_cpy (D2 107) (D2 108) (0 : Int32).toNatClampNeg (0 : Int32).toNatClampNeg (D2 104 4).toNatClampNeg)) (fun D5 => b_Jobs_findBestOrder_50 k7 x1 v3 D5) else none)))))
def lp_Jobs_findBestOrder_7 (n : Nat) : Int32 → Int32 → Int32 → Dt → Option (Int32 × Dt) := itr (fun _ _ _ _ => none) (s_Jobs_findBestOrder_7) n
set_option maxHeartbeats 4000000 in
theorem ts_Jobs_findBestOrder_7 {Γ : GmT} {G : Dt → Nat → List (Nat × Value) → List Value → Prop} {rr : Int32} {DD : Dt} (C : Cx Γ "RiverTuesdays$Jobs" b_Jobs_findBestOrder 5 3 (some .int) (some (.int rr)) DD G) {k7 : Int32 → Int32 → Int32 → Dt → Option (Int32 × Dt)} (hk7 : ∀ (v1 : Int32) (v2 : Int32) (v3 : Int32) (D : Dt), k7 v1 v2 v3 D = some (rr, DD) → G D 7 [(0, .ref (Γ.2.1 104)), (1, .int v1), (2, .int v2), (3, .int v3)] []) {v1 : Int32} {v2 : Int32} {v3 : Int32} {D : Dt} (hf : s_Jobs_findBestOrder_7 k7 v1 v2 v3 D = some (rr, DD)) : G D 7 [(0, .ref (Γ.2.1 104)), (1, .int v1), (2, .int v2), (3, .int v3)] [] := by
  unfold s_Jobs_findBestOrder_7 at hf
  refine r_iload_n (pc := 7) C 3 d_Jobs_findBestOrder_7 rfl rfl ?_
  refine r_sipush (pc := 8) C (v := 720) d_Jobs_findBestOrder_8 (by decide) ?_
  refine r_icmp_ge (pc := 11) C (tgt := 61) d_Jobs_findBestOrder_11 (by decide) hf (fun c11 hf => ?_) (fun c11 hf => ?_)
  · refine r_iload_n (pc := 61) C 1 d_Jobs_findBestOrder_61 rfl rfl ?_
    exact r_iret (pc := 62) C d_Jobs_findBestOrder_62 hf
  · refine r_iload_n (pc := 14) C 2 d_Jobs_findBestOrder_14 rfl rfl ?_
    refine r_if_eq (pc := 15) C (tgt := 61) d_Jobs_findBestOrder_15 (by decide) hf (fun c15 hf => ?_) (fun c15 hf => ?_)
    · refine r_iload_n (pc := 61) C 1 d_Jobs_findBestOrder_61 rfl rfl ?_
      exact r_iret (pc := 62) C d_Jobs_findBestOrder_62 hf
    · refine r_aload_n (pc := 18) C 0 d_Jobs_findBestOrder_18 rfl rfl ?_
      refine r_callVi (pc := 19) (As := []) (rest := []) C ok_Jobs_lateTogether Lm_Jobs_41 k_id104 (by decide) ⟨by decide, by decide⟩ rfl rfl (Nat.le_of_ble_eq_true rfl) d_Jobs_findBestOrder_19 hf (fun x D1 hc => c_Jobs_lateTogether Γ hc) (fun x1 D2 hf => ?_)
      refine r_istore (pc := 22) (lv' := [(4, .int x1), (0, .ref (Γ.2.1 104)), (1, .int v1), (2, .int v2), (3, .int v3)]) C d_Jobs_findBestOrder_22 (Nat.le_of_ble_eq_true rfl) rfl ?_
      refine r_iload (pc := 24) C 0 d_Jobs_findBestOrder_24 rfl ?_
      refine r_iload_n (pc := 26) C 2 d_Jobs_findBestOrder_26 rfl rfl ?_
      refine r_icmp_ge (pc := 27) C (tgt := 50) d_Jobs_findBestOrder_27 (by decide) hf (fun c27 hf => ?_) (fun c27 hf => ?_)
      · exact r_lv (pc := 50) C [1, 2, 4] rfl (tb_Jobs_findBestOrder_50 C hk7 hf)
      · refine r_iload (pc := 30) C 0 d_Jobs_findBestOrder_30 rfl ?_
        refine r_istore_n (pc := 32) (lv' := [(1, .int x1), (4, .int x1), (0, .ref (Γ.2.1 104)), (2, .int v2), (3, .int v3)]) C d_Jobs_findBestOrder_32 rfl (Nat.le_of_ble_eq_true rfl) rfl ?_
        refine r_aload_n (pc := 33) C 2 d_Jobs_findBestOrder_33 rfl rfl ?_
        refine g_Jobs_order (pc := 34) C k_id104 Lf_Jobs_18 d_Jobs_findBestOrder_34 ?_
        refine r_iconst (pc := 37) C (v := 0) d_Jobs_findBestOrder_37 (by decide) ?_
        refine r_aload_n (pc := 38) C 2 d_Jobs_findBestOrder_38 rfl rfl ?_
        refine g_Jobs_bestOrder (pc := 39) C k_id104 Lf_Jobs_21 d_Jobs_findBestOrder_39 ?_
        refine r_iconst (pc := 42) C (v := 0) d_Jobs_findBestOrder_42 (by decide) ?_
        refine r_aload_n (pc := 43) C 2 d_Jobs_findBestOrder_43 rfl rfl ?_
        refine g_Jobs_size (pc := 44) C k_id104 Lf_Jobs_36 d_Jobs_findBestOrder_44 ?_
        refine r_acopy (pc := 47) C kq_Jobs_order kq_Jobs_bestOrder Lm_Jobs_45 acw1 acw2 acw3 (by decide) (Nat.le_of_ble_eq_true rfl) d_Jobs_findBestOrder_47 hf (fun hf => ?_)
        refine r_nmD hf (fun D5 hf => ?_)
        exact r_lv (pc := 50) C [2, 0, 4] rfl (tb_Jobs_findBestOrder_50 C hk7 hf)
theorem tl_Jobs_findBestOrder_7 {Γ : GmT} {G : Dt → Nat → List (Nat × Value) → List Value → Prop} {rr : Int32} {DD : Dt} (C : Cx Γ "RiverTuesdays$Jobs" b_Jobs_findBestOrder 5 3 (some .int) (some (.int rr)) DD G) : ∀ (n : Nat) (v1 : Int32) (v2 : Int32) (v3 : Int32) (D : Dt), lp_Jobs_findBestOrder_7 n v1 v2 v3 D = some (rr, DD) → G D 7 [(0, .ref (Γ.2.1 104)), (1, .int v1), (2, .int v2), (3, .int v3)] [] := by
  intro n
  induction n with
  | zero =>
    intro v1 v2 v3 D hf
    exact absurd (show (none : Option (Int32 × Dt)) = some (rr, DD) from hf) (by simp)
  | succ n ih =>
    intro v1 v2 v3 D hf
    exact ts_Jobs_findBestOrder_7 C (k7 := lp_Jobs_findBestOrder_7 n) ih hf
def f_Jobs_findBestOrder (D : Dt) : Option (Int32 × Dt) :=
  lp_Jobs_findBestOrder_7 FU 1000000000 1 0 D
set_option maxHeartbeats 4000000 in
theorem te_Jobs_findBestOrder {Γ : GmT} {G : Dt → Nat → List (Nat × Value) → List Value → Prop} {rr : Int32} {DD : Dt} (C : Cx Γ "RiverTuesdays$Jobs" b_Jobs_findBestOrder 5 3 (some .int) (some (.int rr)) DD G) {D : Dt} (hf : f_Jobs_findBestOrder D = some (rr, DD)) : G D 0 [(0, .ref (Γ.2.1 104))] [] := by
  unfold f_Jobs_findBestOrder at hf
  refine r_ldc (pc := 0) C Lc_Jobs_40 d_Jobs_findBestOrder_0 ?_
  refine r_istore_n (pc := 2) (lv' := [(1, .int 1000000000), (0, .ref (Γ.2.1 104))]) C d_Jobs_findBestOrder_2 rfl (Nat.le_of_ble_eq_true rfl) rfl ?_
  refine r_iconst (pc := 3) C (v := 1) d_Jobs_findBestOrder_3 (by decide) ?_
  refine r_istore_n (pc := 4) (lv' := [(2, .int 1), (1, .int 1000000000), (0, .ref (Γ.2.1 104))]) C d_Jobs_findBestOrder_4 rfl (Nat.le_of_ble_eq_true rfl) rfl ?_
  refine r_iconst (pc := 5) C (v := 0) d_Jobs_findBestOrder_5 (by decide) ?_
  refine r_istore_n (pc := 6) (lv' := [(3, .int 0), (2, .int 1), (1, .int 1000000000), (0, .ref (Γ.2.1 104))]) C d_Jobs_findBestOrder_6 rfl (Nat.le_of_ble_eq_true rfl) rfl ?_
  exact r_lv (pc := 7) C [3, 2, 1, 0] rfl (tl_Jobs_findBestOrder_7 C FU 1000000000 1 0 D hf)
theorem c_Jobs_findBestOrder (Γ : GmT) {D : Dt} {rr : Int32} {DD : Dt} (hf : f_Jobs_findBestOrder D = some (rr, DD)) : Mt Γ y_Jobs_findBestOrder b_Jobs_findBestOrder 5 (some .int) 3 [.ref (Γ.2.1 104)] D (some (.int rr)) DD := Mt_of (by decide) (Nat.le_of_ble_eq_true rfl) (fun G C => te_Jobs_findBestOrder C hf)
def b_Jobs_isInTime_52 (k4 : Int32 → Int32 → Int32 → Dt → Option (Int32 × Dt)) (v1 : Int32) (v2 : Int32) (v3 : Int32) (D : Dt) : Option (Int32 × Dt) :=
  k4 v1 v2 (v3 + 1) D
set_option maxHeartbeats 4000000 in
theorem tb_Jobs_isInTime_52 {Γ : GmT} {G : Dt → Nat → List (Nat × Value) → List Value → Prop} {rr : Int32} {DD : Dt} (C : Cx Γ "RiverTuesdays$Jobs" b_Jobs_isInTime 5 2 (some .boolean) (some (.int rr)) DD G) {k4 : Int32 → Int32 → Int32 → Dt → Option (Int32 × Dt)} (hk4 : ∀ (v1 : Int32) (v2 : Int32) (v3 : Int32) (D : Dt), k4 v1 v2 v3 D = some (rr, DD) → G D 4 [(0, .ref (Γ.2.1 104)), (1, .int v1), (2, .int v2), (3, .int v3)] []) {v1 : Int32} {v2 : Int32} {v3 : Int32} {D : Dt} (hf : b_Jobs_isInTime_52 k4 v1 v2 v3 D = some (rr, DD)) : G D 52 [(0, .ref (Γ.2.1 104)), (1, .int v1), (2, .int v2), (3, .int v3)] [] := by
  unfold b_Jobs_isInTime_52 at hf
  refine r_iinc (pc := 52) C (v := v3 + 1) (lv' := [(3, .int (v3 + 1)), (0, .ref (Γ.2.1 104)), (1, .int v1), (2, .int v2)]) 3 d_Jobs_isInTime_52 rfl rfl (Nat.le_of_ble_eq_true rfl) rfl ?_
  refine r_goto (pc := 55) C (tgt := 4) d_Jobs_isInTime_55 (by decide) ?_
  exact r_lv (pc := 4) C [1, 2, 3, 0] rfl (hk4 v1 v2 (v3 + 1) D hf)
def s_Jobs_isInTime_4 (k4 : Int32 → Int32 → Int32 → Dt → Option (Int32 × Dt)) (v1 : Int32) (v2 : Int32) (v3 : Int32) (D : Dt) : Option (Int32 × Dt) :=
  (if (D 104 4) ≤ v3 then some (1, D) else (if inb v3 6 = true then bnd (f_Root_hasBit v1 (D 107 v3.toNatClampNeg) D) (fun x1 D2 => (if x1 = 0 then b_Jobs_isInTime_52 k4 v1 v2 v3 D2 else (if inb (D 107 v3.toNatClampNeg) 6 = true then nm (v2 + (D2 105 (D 107 v3.toNatClampNeg).toNatClampNeg)) (fun x3 => (if inb (D 107 v3.toNatClampNeg) 6 = true then (if x3 ≤ (D2 106 (D 107 v3.toNatClampNeg).toNatClampNeg) then b_Jobs_isInTime_52 k4 v1 x3 v3 D2 else some (0, D2)) else none)) else none))) else none))
def lp_Jobs_isInTime_4 (n : Nat) : Int32 → Int32 → Int32 → Dt → Option (Int32 × Dt) := itr (fun _ _ _ _ => none) (s_Jobs_isInTime_4) n
set_option maxHeartbeats 4000000 in
theorem ts_Jobs_isInTime_4 {Γ : GmT} {G : Dt → Nat → List (Nat × Value) → List Value → Prop} {rr : Int32} {DD : Dt} (C : Cx Γ "RiverTuesdays$Jobs" b_Jobs_isInTime 5 2 (some .boolean) (some (.int rr)) DD G) {k4 : Int32 → Int32 → Int32 → Dt → Option (Int32 × Dt)} (hk4 : ∀ (v1 : Int32) (v2 : Int32) (v3 : Int32) (D : Dt), k4 v1 v2 v3 D = some (rr, DD) → G D 4 [(0, .ref (Γ.2.1 104)), (1, .int v1), (2, .int v2), (3, .int v3)] []) {v1 : Int32} {v2 : Int32} {v3 : Int32} {D : Dt} (hf : s_Jobs_isInTime_4 k4 v1 v2 v3 D = some (rr, DD)) : G D 4 [(0, .ref (Γ.2.1 104)), (1, .int v1), (2, .int v2), (3, .int v3)] [] := by
  unfold s_Jobs_isInTime_4 at hf
  refine r_iload_n (pc := 4) C 3 d_Jobs_isInTime_4 rfl rfl ?_
  refine r_aload_n (pc := 5) C 0 d_Jobs_isInTime_5 rfl rfl ?_
  refine g_Jobs_size (pc := 6) C k_id104 Lf_Jobs_36 d_Jobs_isInTime_6 ?_
  refine r_icmp_ge (pc := 9) C (tgt := 58) d_Jobs_isInTime_9 (by decide) hf (fun c9 hf => ?_) (fun c9 hf => ?_)
  · refine r_iconst (pc := 58) C (v := 1) d_Jobs_isInTime_58 (by decide) ?_
    exact r_zret (pc := 59) C d_Jobs_isInTime_59 rfl hf
  · refine r_aload_n (pc := 12) C 0 d_Jobs_isInTime_12 rfl rfl ?_
    refine g_Jobs_order (pc := 13) C k_id104 Lf_Jobs_18 d_Jobs_isInTime_13 ?_
    refine r_iload_n (pc := 16) C 3 d_Jobs_isInTime_16 rfl rfl ?_
    refine r_iald (pc := 17) C kq_Jobs_order d_Jobs_isInTime_17 hf (fun hf => ?_)
    refine r_istore (pc := 18) (lv' := [(4, .int (D 107 v3.toNatClampNeg)), (0, .ref (Γ.2.1 104)), (1, .int v1), (2, .int v2), (3, .int v3)]) C d_Jobs_isInTime_18 (Nat.le_of_ble_eq_true rfl) rfl ?_
    refine r_iload_n (pc := 20) C 2 d_Jobs_isInTime_20 rfl rfl ?_
    refine r_iload (pc := 21) C 0 d_Jobs_isInTime_21 rfl ?_
    refine r_callNi (pc := 23) (As := [.int v1, .int (D 107 v3.toNatClampNeg)]) (rest := []) C ok_Root_hasBit (fun U h => h.2.2.1) ⟨by decide, by decide⟩ rfl rfl (Nat.le_of_ble_eq_true rfl) d_Jobs_isInTime_23 hf (fun x D1 hc => c_Root_hasBit Γ hc) (fun x1 D2 hf => ?_)
    refine r_if_eq (pc := 26) C (tgt := 52) d_Jobs_isInTime_26 (by decide) hf (fun c26 hf => ?_) (fun c26 hf => ?_)
    · exact r_lv (pc := 52) C [1, 2, 3, 4] rfl (tb_Jobs_isInTime_52 C hk4 hf)
    · refine r_iload_n (pc := 29) C 3 d_Jobs_isInTime_29 rfl rfl ?_
      refine r_aload_n (pc := 30) C 1 d_Jobs_isInTime_30 rfl rfl ?_
      refine g_Jobs_takes (pc := 31) C k_id104 Lf_Jobs_9 d_Jobs_isInTime_31 ?_
      refine r_iload (pc := 34) C 0 d_Jobs_isInTime_34 rfl ?_
      refine r_iald (pc := 36) C kq_Jobs_takes d_Jobs_isInTime_36 hf (fun hf => ?_)
      refine r_iadd (pc := 37) C d_Jobs_isInTime_37 ?_
      refine r_nmi (pc := 38) hf (fun x3 hf => ?_)
      refine r_istore_n (pc := 38) (lv' := [(2, .int x3), (4, .int (D 107 v3.toNatClampNeg)), (0, .ref (Γ.2.1 104)), (1, .int v1), (3, .int v3)]) C d_Jobs_isInTime_38 rfl (Nat.le_of_ble_eq_true rfl) rfl ?_
      refine r_iload_n (pc := 39) C 0 d_Jobs_isInTime_39 rfl rfl ?_
      refine r_aload_n (pc := 40) C 2 d_Jobs_isInTime_40 rfl rfl ?_
      refine g_Jobs_due (pc := 41) C k_id104 Lf_Jobs_15 d_Jobs_isInTime_41 ?_
      refine r_iload (pc := 44) C 1 d_Jobs_isInTime_44 rfl ?_
      refine r_iald (pc := 46) C kq_Jobs_due d_Jobs_isInTime_46 hf (fun hf => ?_)
      refine r_icmp_le (pc := 47) C (tgt := 52) d_Jobs_isInTime_47 (by decide) hf (fun c47 hf => ?_) (fun c47 hf => ?_)
      · exact r_lv (pc := 52) C [2, 3, 0, 4] rfl (tb_Jobs_isInTime_52 C hk4 hf)
      · refine r_iconst (pc := 50) C (v := 0) d_Jobs_isInTime_50 (by decide) ?_
        exact r_zret (pc := 51) C d_Jobs_isInTime_51 rfl hf
theorem tl_Jobs_isInTime_4 {Γ : GmT} {G : Dt → Nat → List (Nat × Value) → List Value → Prop} {rr : Int32} {DD : Dt} (C : Cx Γ "RiverTuesdays$Jobs" b_Jobs_isInTime 5 2 (some .boolean) (some (.int rr)) DD G) : ∀ (n : Nat) (v1 : Int32) (v2 : Int32) (v3 : Int32) (D : Dt), lp_Jobs_isInTime_4 n v1 v2 v3 D = some (rr, DD) → G D 4 [(0, .ref (Γ.2.1 104)), (1, .int v1), (2, .int v2), (3, .int v3)] [] := by
  intro n
  induction n with
  | zero =>
    intro v1 v2 v3 D hf
    exact absurd (show (none : Option (Int32 × Dt)) = some (rr, DD) from hf) (by simp)
  | succ n ih =>
    intro v1 v2 v3 D hf
    exact ts_Jobs_isInTime_4 C (k4 := lp_Jobs_isInTime_4 n) ih hf
def f_Jobs_isInTime (v1 : Int32) (D : Dt) : Option (Int32 × Dt) :=
  lp_Jobs_isInTime_4 FU v1 0 0 D
set_option maxHeartbeats 4000000 in
theorem te_Jobs_isInTime {Γ : GmT} {G : Dt → Nat → List (Nat × Value) → List Value → Prop} {rr : Int32} {DD : Dt} (C : Cx Γ "RiverTuesdays$Jobs" b_Jobs_isInTime 5 2 (some .boolean) (some (.int rr)) DD G) {v1 : Int32} {D : Dt} (hf : f_Jobs_isInTime v1 D = some (rr, DD)) : G D 0 [(0, .ref (Γ.2.1 104)), (1, .int v1)] [] := by
  unfold f_Jobs_isInTime at hf
  refine r_iconst (pc := 0) C (v := 0) d_Jobs_isInTime_0 (by decide) ?_
  refine r_istore_n (pc := 1) (lv' := [(2, .int 0), (0, .ref (Γ.2.1 104)), (1, .int v1)]) C d_Jobs_isInTime_1 rfl (Nat.le_of_ble_eq_true rfl) rfl ?_
  refine r_iconst (pc := 2) C (v := 0) d_Jobs_isInTime_2 (by decide) ?_
  refine r_istore_n (pc := 3) (lv' := [(3, .int 0), (2, .int 0), (0, .ref (Γ.2.1 104)), (1, .int v1)]) C d_Jobs_isInTime_3 rfl (Nat.le_of_ble_eq_true rfl) rfl ?_
  exact r_lv (pc := 4) C [2, 3, 1, 0] rfl (tl_Jobs_isInTime_4 C FU v1 0 0 D hf)
theorem c_Jobs_isInTime (Γ : GmT) {v1 : Int32} {D : Dt} {rr : Int32} {DD : Dt} (hf : f_Jobs_isInTime v1 D = some (rr, DD)) : Mt Γ y_Jobs_isInTime b_Jobs_isInTime 5 (some .boolean) 2 [.ref (Γ.2.1 104), .int v1] D (some (.int rr)) DD := Mt_of (by decide) (Nat.le_of_ble_eq_true rfl) (fun G C => te_Jobs_isInTime C hf)
def b_Jobs_orderByDue_57 (k2 : Int32 → Dt → Option (Unit × Dt)) (v1 : Int32) (D : Dt) : Option (Unit × Dt) :=
  k2 (v1 + 1) D
set_option maxHeartbeats 4000000 in
theorem tb_Jobs_orderByDue_57 {Γ : GmT} {G : Dt → Nat → List (Nat × Value) → List Value → Prop} {rr : Unit} {DD : Dt} (C : Cx Γ "RiverTuesdays$Jobs" b_Jobs_orderByDue 3 2 none none DD G) {k2 : Int32 → Dt → Option (Unit × Dt)} (hk2 : ∀ (v1 : Int32) (D : Dt), k2 v1 D = some (rr, DD) → G D 2 [(0, .ref (Γ.2.1 104)), (1, .int v1)] []) {v1 : Int32} {D : Dt} (hf : b_Jobs_orderByDue_57 k2 v1 D = some (rr, DD)) : G D 57 [(0, .ref (Γ.2.1 104)), (1, .int v1)] [] := by
  unfold b_Jobs_orderByDue_57 at hf
  refine r_iinc (pc := 57) C (v := v1 + 1) (lv' := [(1, .int (v1 + 1)), (0, .ref (Γ.2.1 104))]) 1 d_Jobs_orderByDue_57 rfl rfl (Nat.le_of_ble_eq_true rfl) rfl ?_
  refine r_goto (pc := 60) C (tgt := 2) d_Jobs_orderByDue_60 (by decide) ?_
  exact r_lv (pc := 2) C [1, 0] rfl (hk2 (v1 + 1) D hf)
def s_Jobs_orderByDue_12 (k2 : Int32 → Dt → Option (Unit × Dt)) (k12 : Int32 → Int32 → Dt → Option (Unit × Dt)) (v1 : Int32) (v2 : Int32) (D : Dt) : Option (Unit × Dt) :=
  (if v2 ≤ 0 then b_Jobs_orderByDue_57 k2 v1 D else (if inb (v2 - 1) 6 = true then (if inb (D 107 (v2 - 1).toNatClampNeg) 6 = true then (if inb v2 6 = true then (if inb (D 107 v2.toNatClampNeg) 6 = true then (if (D 106 (D 107 (v2 - 1).toNatClampNeg).toNatClampNeg) ≤ (D 106 (D 107 v2.toNatClampNeg).toNatClampNeg) then b_Jobs_orderByDue_57 k2 v1 D else bnd (f_Jobs_swap (v2 - 1) v2 D) (fun x1 D2 => k12 v1 (v2 + (-1)) D2)) else none) else none) else none) else none))
def lp_Jobs_orderByDue_12 (k2 : Int32 → Dt → Option (Unit × Dt)) (n : Nat) : Int32 → Int32 → Dt → Option (Unit × Dt) := itr (fun _ _ _ => none) (s_Jobs_orderByDue_12 k2) n
set_option maxHeartbeats 4000000 in
theorem ts_Jobs_orderByDue_12 {Γ : GmT} {G : Dt → Nat → List (Nat × Value) → List Value → Prop} {rr : Unit} {DD : Dt} (C : Cx Γ "RiverTuesdays$Jobs" b_Jobs_orderByDue 3 2 none none DD G) {k2 : Int32 → Dt → Option (Unit × Dt)} (hk2 : ∀ (v1 : Int32) (D : Dt), k2 v1 D = some (rr, DD) → G D 2 [(0, .ref (Γ.2.1 104)), (1, .int v1)] []) {k12 : Int32 → Int32 → Dt → Option (Unit × Dt)} (hk12 : ∀ (v1 : Int32) (v2 : Int32) (D : Dt), k12 v1 v2 D = some (rr, DD) → G D 12 [(0, .ref (Γ.2.1 104)), (1, .int v1), (2, .int v2)] []) {v1 : Int32} {v2 : Int32} {D : Dt} (hf : s_Jobs_orderByDue_12 k2 k12 v1 v2 D = some (rr, DD)) : G D 12 [(0, .ref (Γ.2.1 104)), (1, .int v1), (2, .int v2)] [] := by
  unfold s_Jobs_orderByDue_12 at hf
  refine r_iload_n (pc := 12) C 2 d_Jobs_orderByDue_12 rfl rfl ?_
  refine r_if_le (pc := 13) C (tgt := 57) d_Jobs_orderByDue_13 (by decide) hf (fun c13 hf => ?_) (fun c13 hf => ?_)
  · exact r_lv (pc := 57) C [0, 1] rfl (tb_Jobs_orderByDue_57 C hk2 hf)
  · refine r_aload_n (pc := 16) C 0 d_Jobs_orderByDue_16 rfl rfl ?_
    refine g_Jobs_due (pc := 17) C k_id104 Lf_Jobs_15 d_Jobs_orderByDue_17 ?_
    refine r_aload_n (pc := 20) C 0 d_Jobs_orderByDue_20 rfl rfl ?_
    refine g_Jobs_order (pc := 21) C k_id104 Lf_Jobs_18 d_Jobs_orderByDue_21 ?_
    refine r_iload_n (pc := 24) C 2 d_Jobs_orderByDue_24 rfl rfl ?_
    refine r_iconst (pc := 25) C (v := 1) d_Jobs_orderByDue_25 (by decide) ?_
    refine r_isub (pc := 26) C d_Jobs_orderByDue_26 ?_
    refine r_iald (pc := 27) C kq_Jobs_order d_Jobs_orderByDue_27 hf (fun hf => ?_)
    refine r_iald (pc := 28) C kq_Jobs_due d_Jobs_orderByDue_28 hf (fun hf => ?_)
    refine r_aload_n (pc := 29) C 0 d_Jobs_orderByDue_29 rfl rfl ?_
    refine g_Jobs_due (pc := 30) C k_id104 Lf_Jobs_15 d_Jobs_orderByDue_30 ?_
    refine r_aload_n (pc := 33) C 0 d_Jobs_orderByDue_33 rfl rfl ?_
    refine g_Jobs_order (pc := 34) C k_id104 Lf_Jobs_18 d_Jobs_orderByDue_34 ?_
    refine r_iload_n (pc := 37) C 2 d_Jobs_orderByDue_37 rfl rfl ?_
    refine r_iald (pc := 38) C kq_Jobs_order d_Jobs_orderByDue_38 hf (fun hf => ?_)
    refine r_iald (pc := 39) C kq_Jobs_due d_Jobs_orderByDue_39 hf (fun hf => ?_)
    refine r_icmp_le (pc := 40) C (tgt := 57) d_Jobs_orderByDue_40 (by decide) hf (fun c40 hf => ?_) (fun c40 hf => ?_)
    · exact r_lv (pc := 57) C [0, 1] rfl (tb_Jobs_orderByDue_57 C hk2 hf)
    · refine r_aload_n (pc := 43) C 0 d_Jobs_orderByDue_43 rfl rfl ?_
      refine r_iload_n (pc := 44) C 2 d_Jobs_orderByDue_44 rfl rfl ?_
      refine r_iconst (pc := 45) C (v := 1) d_Jobs_orderByDue_45 (by decide) ?_
      refine r_isub (pc := 46) C d_Jobs_orderByDue_46 ?_
      refine r_iload_n (pc := 47) C 2 d_Jobs_orderByDue_47 rfl rfl ?_
      refine r_callVv (pc := 48) (As := [.int (v2 - 1), .int v2]) (rest := []) C ok_Jobs_swap Lm_Jobs_58 k_id104 (by decide) ⟨by decide, by decide⟩ rfl rfl (Nat.le_of_ble_eq_true rfl) d_Jobs_orderByDue_48 hf (fun x D1 hc => c_Jobs_swap Γ hc) (fun x1 D2 hf => ?_)
      refine r_iinc (pc := 51) C (v := v2 + (-1)) (lv' := [(2, .int (v2 + (-1))), (0, .ref (Γ.2.1 104)), (1, .int v1)]) 2 d_Jobs_orderByDue_51 rfl rfl (Nat.le_of_ble_eq_true rfl) rfl ?_
      refine r_goto (pc := 54) C (tgt := 12) d_Jobs_orderByDue_54 (by decide) ?_
      exact r_lv (pc := 12) C [1, 2, 0] rfl (hk12 v1 (v2 + (-1)) D2 hf)
theorem tl_Jobs_orderByDue_12 {Γ : GmT} {G : Dt → Nat → List (Nat × Value) → List Value → Prop} {rr : Unit} {DD : Dt} (C : Cx Γ "RiverTuesdays$Jobs" b_Jobs_orderByDue 3 2 none none DD G) {k2 : Int32 → Dt → Option (Unit × Dt)} (hk2 : ∀ (v1 : Int32) (D : Dt), k2 v1 D = some (rr, DD) → G D 2 [(0, .ref (Γ.2.1 104)), (1, .int v1)] []) : ∀ (n : Nat) (v1 : Int32) (v2 : Int32) (D : Dt), lp_Jobs_orderByDue_12 k2 n v1 v2 D = some (rr, DD) → G D 12 [(0, .ref (Γ.2.1 104)), (1, .int v1), (2, .int v2)] [] := by
  intro n
  induction n with
  | zero =>
    intro v1 v2 D hf
    exact absurd (show (none : Option (Unit × Dt)) = some (rr, DD) from hf) (by simp)
  | succ n ih =>
    intro v1 v2 D hf
    exact ts_Jobs_orderByDue_12 C hk2 (k12 := lp_Jobs_orderByDue_12 k2 n) ih hf
def s_Jobs_orderByDue_2 (k2 : Int32 → Dt → Option (Unit × Dt)) (v1 : Int32) (D : Dt) : Option (Unit × Dt) :=
  (if (D 104 4) ≤ v1 then some ((), D) else lp_Jobs_orderByDue_12 k2 FU v1 v1 D)
def lp_Jobs_orderByDue_2 (n : Nat) : Int32 → Dt → Option (Unit × Dt) := itr (fun _ _ => none) (s_Jobs_orderByDue_2) n
set_option maxHeartbeats 4000000 in
theorem ts_Jobs_orderByDue_2 {Γ : GmT} {G : Dt → Nat → List (Nat × Value) → List Value → Prop} {rr : Unit} {DD : Dt} (C : Cx Γ "RiverTuesdays$Jobs" b_Jobs_orderByDue 3 2 none none DD G) {k2 : Int32 → Dt → Option (Unit × Dt)} (hk2 : ∀ (v1 : Int32) (D : Dt), k2 v1 D = some (rr, DD) → G D 2 [(0, .ref (Γ.2.1 104)), (1, .int v1)] []) {v1 : Int32} {D : Dt} (hf : s_Jobs_orderByDue_2 k2 v1 D = some (rr, DD)) : G D 2 [(0, .ref (Γ.2.1 104)), (1, .int v1)] [] := by
  unfold s_Jobs_orderByDue_2 at hf
  refine r_iload_n (pc := 2) C 1 d_Jobs_orderByDue_2 rfl rfl ?_
  refine r_aload_n (pc := 3) C 0 d_Jobs_orderByDue_3 rfl rfl ?_
  refine g_Jobs_size (pc := 4) C k_id104 Lf_Jobs_36 d_Jobs_orderByDue_4 ?_
  refine r_icmp_ge (pc := 7) C (tgt := 63) d_Jobs_orderByDue_7 (by decide) hf (fun c7 hf => ?_) (fun c7 hf => ?_)
  · exact r_vret (pc := 63) C d_Jobs_orderByDue_63 hf
  · refine r_iload_n (pc := 10) C 1 d_Jobs_orderByDue_10 rfl rfl ?_
    refine r_istore_n (pc := 11) (lv' := [(2, .int v1), (0, .ref (Γ.2.1 104)), (1, .int v1)]) C d_Jobs_orderByDue_11 rfl (Nat.le_of_ble_eq_true rfl) rfl ?_
    exact r_lv (pc := 12) C [1, 2, 0] rfl (tl_Jobs_orderByDue_12 C hk2 FU v1 v1 D hf)
theorem tl_Jobs_orderByDue_2 {Γ : GmT} {G : Dt → Nat → List (Nat × Value) → List Value → Prop} {rr : Unit} {DD : Dt} (C : Cx Γ "RiverTuesdays$Jobs" b_Jobs_orderByDue 3 2 none none DD G) : ∀ (n : Nat) (v1 : Int32) (D : Dt), lp_Jobs_orderByDue_2 n v1 D = some (rr, DD) → G D 2 [(0, .ref (Γ.2.1 104)), (1, .int v1)] [] := by
  intro n
  induction n with
  | zero =>
    intro v1 D hf
    exact absurd (show (none : Option (Unit × Dt)) = some (rr, DD) from hf) (by simp)
  | succ n ih =>
    intro v1 D hf
    exact ts_Jobs_orderByDue_2 C (k2 := lp_Jobs_orderByDue_2 n) ih hf
def f_Jobs_orderByDue (D : Dt) : Option (Unit × Dt) :=
  lp_Jobs_orderByDue_2 FU 1 D
set_option maxHeartbeats 4000000 in
theorem te_Jobs_orderByDue {Γ : GmT} {G : Dt → Nat → List (Nat × Value) → List Value → Prop} {rr : Unit} {DD : Dt} (C : Cx Γ "RiverTuesdays$Jobs" b_Jobs_orderByDue 3 2 none none DD G) {D : Dt} (hf : f_Jobs_orderByDue D = some (rr, DD)) : G D 0 [(0, .ref (Γ.2.1 104))] [] := by
  unfold f_Jobs_orderByDue at hf
  refine r_iconst (pc := 0) C (v := 1) d_Jobs_orderByDue_0 (by decide) ?_
  refine r_istore_n (pc := 1) (lv' := [(1, .int 1), (0, .ref (Γ.2.1 104))]) C d_Jobs_orderByDue_1 rfl (Nat.le_of_ble_eq_true rfl) rfl ?_
  exact r_lv (pc := 2) C [1, 0] rfl (tl_Jobs_orderByDue_2 C FU 1 D hf)
theorem c_Jobs_orderByDue (Γ : GmT) {D : Dt} {rr : Unit} {DD : Dt} (hf : f_Jobs_orderByDue D = some (rr, DD)) : Mt Γ y_Jobs_orderByDue b_Jobs_orderByDue 3 none 2 [.ref (Γ.2.1 104)] D none DD := Mt_of (by decide) (Nat.le_of_ble_eq_true rfl) (fun G C => te_Jobs_orderByDue C hf)
def b_Jobs_findMostInTime_39 (k8 : Int32 → Int32 → Dt → Option (Int32 × Dt)) (v1 : Int32) (v2 : Int32) (D : Dt) : Option (Int32 × Dt) :=
  k8 v1 (v2 + 1) D
set_option maxHeartbeats 4000000 in
theorem tb_Jobs_findMostInTime_39 {Γ : GmT} {G : Dt → Nat → List (Nat × Value) → List Value → Prop} {rr : Int32} {DD : Dt} (C : Cx Γ "RiverTuesdays$Jobs" b_Jobs_findMostInTime 3 3 (some .int) (some (.int rr)) DD G) {k8 : Int32 → Int32 → Dt → Option (Int32 × Dt)} (hk8 : ∀ (v1 : Int32) (v2 : Int32) (D : Dt), k8 v1 v2 D = some (rr, DD) → G D 8 [(0, .ref (Γ.2.1 104)), (1, .int v1), (2, .int v2)] []) {v1 : Int32} {v2 : Int32} {D : Dt} (hf : b_Jobs_findMostInTime_39 k8 v1 v2 D = some (rr, DD)) : G D 39 [(0, .ref (Γ.2.1 104)), (1, .int v1), (2, .int v2)] [] := by
  unfold b_Jobs_findMostInTime_39 at hf
  refine r_iinc (pc := 39) C (v := v2 + 1) (lv' := [(2, .int (v2 + 1)), (0, .ref (Γ.2.1 104)), (1, .int v1)]) 2 d_Jobs_findMostInTime_39 rfl rfl (Nat.le_of_ble_eq_true rfl) rfl ?_
  refine r_goto (pc := 42) C (tgt := 8) d_Jobs_findMostInTime_42 (by decide) ?_
  exact r_lv (pc := 8) C [1, 2, 0] rfl (hk8 v1 (v2 + 1) D hf)
def s_Jobs_findMostInTime_8 (k8 : Int32 → Int32 → Dt → Option (Int32 × Dt)) (v1 : Int32) (v2 : Int32) (D : Dt) : Option (Int32 × Dt) :=
  (if (1 <<< ((D 104 4) &&& 31)) ≤ v2 then some (v1, D) else bnd (f_J_bitCount v2 D) (fun x3 D4 => bnd (f_J_bitCount v1 D4) (fun x5 D6 => (if x3 ≤ x5 then b_Jobs_findMostInTime_39 k8 v1 v2 D6 else bnd (f_Jobs_isInTime v2 D6) (fun x7 D8 => (if x7 = 0 then b_Jobs_findMostInTime_39 k8 v1 v2 D8 else b_Jobs_findMostInTime_39 k8 v2 v2 D8))))))
def lp_Jobs_findMostInTime_8 (n : Nat) : Int32 → Int32 → Dt → Option (Int32 × Dt) := itr (fun _ _ _ => none) (s_Jobs_findMostInTime_8) n
set_option maxHeartbeats 4000000 in
theorem ts_Jobs_findMostInTime_8 {Γ : GmT} {G : Dt → Nat → List (Nat × Value) → List Value → Prop} {rr : Int32} {DD : Dt} (C : Cx Γ "RiverTuesdays$Jobs" b_Jobs_findMostInTime 3 3 (some .int) (some (.int rr)) DD G) {k8 : Int32 → Int32 → Dt → Option (Int32 × Dt)} (hk8 : ∀ (v1 : Int32) (v2 : Int32) (D : Dt), k8 v1 v2 D = some (rr, DD) → G D 8 [(0, .ref (Γ.2.1 104)), (1, .int v1), (2, .int v2)] []) {v1 : Int32} {v2 : Int32} {D : Dt} (hf : s_Jobs_findMostInTime_8 k8 v1 v2 D = some (rr, DD)) : G D 8 [(0, .ref (Γ.2.1 104)), (1, .int v1), (2, .int v2)] [] := by
  unfold s_Jobs_findMostInTime_8 at hf
  refine r_iload_n (pc := 8) C 2 d_Jobs_findMostInTime_8 rfl rfl ?_
  refine r_iconst (pc := 9) C (v := 1) d_Jobs_findMostInTime_9 (by decide) ?_
  refine r_aload_n (pc := 10) C 0 d_Jobs_findMostInTime_10 rfl rfl ?_
  refine g_Jobs_size (pc := 11) C k_id104 Lf_Jobs_36 d_Jobs_findMostInTime_11 ?_
  refine r_ishl (pc := 14) C d_Jobs_findMostInTime_14 ?_
  refine r_icmp_ge (pc := 15) C (tgt := 45) d_Jobs_findMostInTime_15 (by decide) hf (fun c15 hf => ?_) (fun c15 hf => ?_)
  · refine r_iload_n (pc := 45) C 1 d_Jobs_findMostInTime_45 rfl rfl ?_
    exact r_iret (pc := 46) C d_Jobs_findMostInTime_46 hf
  · refine r_iload_n (pc := 18) C 2 d_Jobs_findMostInTime_18 rfl rfl ?_
    refine r_callSi (pc := 19) (As := [.int v2]) (rest := []) C ok_J_bitCount Lm_Jobs_65 ⟨by decide, by decide⟩ rfl rfl (Nat.le_of_ble_eq_true rfl) d_Jobs_findMostInTime_19 hf (fun x D1 hc => c_J_bitCount Γ hc) (fun x3 D4 hf => ?_)
    refine r_iload_n (pc := 22) C 1 d_Jobs_findMostInTime_22 rfl rfl ?_
    refine r_callSi (pc := 23) (As := [.int v1]) (rest := [.int x3]) C ok_J_bitCount Lm_Jobs_65 ⟨by decide, by decide⟩ rfl rfl (Nat.le_of_ble_eq_true rfl) d_Jobs_findMostInTime_23 hf (fun x D1 hc => c_J_bitCount Γ hc) (fun x5 D6 hf => ?_)
    refine r_icmp_le (pc := 26) C (tgt := 39) d_Jobs_findMostInTime_26 (by decide) hf (fun c26 hf => ?_) (fun c26 hf => ?_)
    · exact r_lv (pc := 39) C [0, 1, 2] rfl (tb_Jobs_findMostInTime_39 C hk8 hf)
    · refine r_aload_n (pc := 29) C 0 d_Jobs_findMostInTime_29 rfl rfl ?_
      refine r_iload_n (pc := 30) C 2 d_Jobs_findMostInTime_30 rfl rfl ?_
      refine r_callVi (pc := 31) (As := [.int v2]) (rest := []) C ok_Jobs_isInTime Lm_Jobs_71 k_id104 (by decide) ⟨by decide, by decide⟩ rfl rfl (Nat.le_of_ble_eq_true rfl) d_Jobs_findMostInTime_31 hf (fun x D1 hc => c_Jobs_isInTime Γ hc) (fun x7 D8 hf => ?_)
      refine r_if_eq (pc := 34) C (tgt := 39) d_Jobs_findMostInTime_34 (by decide) hf (fun c34 hf => ?_) (fun c34 hf => ?_)
      · exact r_lv (pc := 39) C [0, 1, 2] rfl (tb_Jobs_findMostInTime_39 C hk8 hf)
      · refine r_iload_n (pc := 37) C 2 d_Jobs_findMostInTime_37 rfl rfl ?_
        refine r_istore_n (pc := 38) (lv' := [(1, .int v2), (0, .ref (Γ.2.1 104)), (2, .int v2)]) C d_Jobs_findMostInTime_38 rfl (Nat.le_of_ble_eq_true rfl) rfl ?_
        exact r_lv (pc := 39) C [1, 0, 2] rfl (tb_Jobs_findMostInTime_39 C hk8 hf)
theorem tl_Jobs_findMostInTime_8 {Γ : GmT} {G : Dt → Nat → List (Nat × Value) → List Value → Prop} {rr : Int32} {DD : Dt} (C : Cx Γ "RiverTuesdays$Jobs" b_Jobs_findMostInTime 3 3 (some .int) (some (.int rr)) DD G) : ∀ (n : Nat) (v1 : Int32) (v2 : Int32) (D : Dt), lp_Jobs_findMostInTime_8 n v1 v2 D = some (rr, DD) → G D 8 [(0, .ref (Γ.2.1 104)), (1, .int v1), (2, .int v2)] [] := by
  intro n
  induction n with
  | zero =>
    intro v1 v2 D hf
    exact absurd (show (none : Option (Int32 × Dt)) = some (rr, DD) from hf) (by simp)
  | succ n ih =>
    intro v1 v2 D hf
    exact ts_Jobs_findMostInTime_8 C (k8 := lp_Jobs_findMostInTime_8 n) ih hf
def f_Jobs_findMostInTime (D : Dt) : Option (Int32 × Dt) :=
  bnd (f_Jobs_orderByDue D) (fun x1 D2 => lp_Jobs_findMostInTime_8 FU 0 1 D2)
set_option maxHeartbeats 4000000 in
theorem te_Jobs_findMostInTime {Γ : GmT} {G : Dt → Nat → List (Nat × Value) → List Value → Prop} {rr : Int32} {DD : Dt} (C : Cx Γ "RiverTuesdays$Jobs" b_Jobs_findMostInTime 3 3 (some .int) (some (.int rr)) DD G) {D : Dt} (hf : f_Jobs_findMostInTime D = some (rr, DD)) : G D 0 [(0, .ref (Γ.2.1 104))] [] := by
  unfold f_Jobs_findMostInTime at hf
  refine r_aload_n (pc := 0) C 0 d_Jobs_findMostInTime_0 rfl rfl ?_
  refine r_callVv (pc := 1) (As := []) (rest := []) C ok_Jobs_orderByDue Lm_Jobs_62 k_id104 (by decide) ⟨by decide, by decide⟩ rfl rfl (Nat.le_of_ble_eq_true rfl) d_Jobs_findMostInTime_1 hf (fun x D1 hc => c_Jobs_orderByDue Γ hc) (fun x1 D2 hf => ?_)
  refine r_iconst (pc := 4) C (v := 0) d_Jobs_findMostInTime_4 (by decide) ?_
  refine r_istore_n (pc := 5) (lv' := [(1, .int 0), (0, .ref (Γ.2.1 104))]) C d_Jobs_findMostInTime_5 rfl (Nat.le_of_ble_eq_true rfl) rfl ?_
  refine r_iconst (pc := 6) C (v := 1) d_Jobs_findMostInTime_6 (by decide) ?_
  refine r_istore_n (pc := 7) (lv' := [(2, .int 1), (1, .int 0), (0, .ref (Γ.2.1 104))]) C d_Jobs_findMostInTime_7 rfl (Nat.le_of_ble_eq_true rfl) rfl ?_
  exact r_lv (pc := 8) C [2, 1, 0] rfl (tl_Jobs_findMostInTime_8 C FU 0 1 D2 hf)
theorem c_Jobs_findMostInTime (Γ : GmT) {D : Dt} {rr : Int32} {DD : Dt} (hf : f_Jobs_findMostInTime D = some (rr, DD)) : Mt Γ y_Jobs_findMostInTime b_Jobs_findMostInTime 3 (some .int) 3 [.ref (Γ.2.1 104)] D (some (.int rr)) DD := Mt_of (by decide) (Nat.le_of_ble_eq_true rfl) (fun G C => te_Jobs_findMostInTime C hf)
