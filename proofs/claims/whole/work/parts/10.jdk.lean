/-! 10.jdk: printed by wip/whole/gen/gmeth.py out of the bytecode -/
abbrev b_J_bitCount : ByteArray := prog_12_method_49_code
abbrev y_J_bitCount : MethodName := ⟨"java/lang/Integer", "bitCount", "(I)I"⟩
theorem ok_J_bitCount : okS y_J_bitCount b_J_bitCount 1 (some .int) 1 := ⟨mGW (List.mem_of_getElem? (i := 686) (by decide +kernel)) rfl, mGW (List.mem_of_getElem? (i := 87) (by decide +kernel)) rfl, mGW (List.mem_of_getElem? (i := 687) (by decide +kernel)) rfl, ⟨by decide, by decide, by decide +kernel⟩⟩
theorem d_J_bitCount_0 : decode b_J_bitCount 0 = .ok (.iload_n 0, 1) := by decide +kernel
theorem d_J_bitCount_1 : decode b_J_bitCount 1 = .ok (.iload_n 0, 1) := by decide +kernel
theorem d_J_bitCount_2 : decode b_J_bitCount 2 = .ok (.iconst 1, 1) := by decide +kernel
theorem d_J_bitCount_3 : decode b_J_bitCount 3 = .ok (.iushr, 1) := by decide +kernel
theorem d_J_bitCount_4 : decode b_J_bitCount 4 = .ok (.ldc_w 265, 3) := by decide +kernel
theorem d_J_bitCount_7 : decode b_J_bitCount 7 = .ok (.iand, 1) := by decide +kernel
theorem d_J_bitCount_8 : decode b_J_bitCount 8 = .ok (.isub, 1) := by decide +kernel
theorem d_J_bitCount_9 : decode b_J_bitCount 9 = .ok (.istore_n 0, 1) := by decide +kernel
theorem d_J_bitCount_10 : decode b_J_bitCount 10 = .ok (.iload_n 0, 1) := by decide +kernel
theorem d_J_bitCount_11 : decode b_J_bitCount 11 = .ok (.ldc_w 266, 3) := by decide +kernel
theorem d_J_bitCount_14 : decode b_J_bitCount 14 = .ok (.iand, 1) := by decide +kernel
theorem d_J_bitCount_15 : decode b_J_bitCount 15 = .ok (.iload_n 0, 1) := by decide +kernel
theorem d_J_bitCount_16 : decode b_J_bitCount 16 = .ok (.iconst 2, 1) := by decide +kernel
theorem d_J_bitCount_17 : decode b_J_bitCount 17 = .ok (.iushr, 1) := by decide +kernel
theorem d_J_bitCount_18 : decode b_J_bitCount 18 = .ok (.ldc_w 266, 3) := by decide +kernel
theorem d_J_bitCount_21 : decode b_J_bitCount 21 = .ok (.iand, 1) := by decide +kernel
theorem d_J_bitCount_22 : decode b_J_bitCount 22 = .ok (.iadd, 1) := by decide +kernel
theorem d_J_bitCount_23 : decode b_J_bitCount 23 = .ok (.istore_n 0, 1) := by decide +kernel
theorem d_J_bitCount_24 : decode b_J_bitCount 24 = .ok (.iload_n 0, 1) := by decide +kernel
theorem d_J_bitCount_25 : decode b_J_bitCount 25 = .ok (.iload_n 0, 1) := by decide +kernel
theorem d_J_bitCount_26 : decode b_J_bitCount 26 = .ok (.iconst 4, 1) := by decide +kernel
theorem d_J_bitCount_27 : decode b_J_bitCount 27 = .ok (.iushr, 1) := by decide +kernel
theorem d_J_bitCount_28 : decode b_J_bitCount 28 = .ok (.iadd, 1) := by decide +kernel
theorem d_J_bitCount_29 : decode b_J_bitCount 29 = .ok (.ldc_w 267, 3) := by decide +kernel
theorem d_J_bitCount_32 : decode b_J_bitCount 32 = .ok (.iand, 1) := by decide +kernel
theorem d_J_bitCount_33 : decode b_J_bitCount 33 = .ok (.istore_n 0, 1) := by decide +kernel
theorem d_J_bitCount_34 : decode b_J_bitCount 34 = .ok (.iload_n 0, 1) := by decide +kernel
theorem d_J_bitCount_35 : decode b_J_bitCount 35 = .ok (.iload_n 0, 1) := by decide +kernel
theorem d_J_bitCount_36 : decode b_J_bitCount 36 = .ok (.bipush 8, 2) := by decide +kernel
theorem d_J_bitCount_38 : decode b_J_bitCount 38 = .ok (.iushr, 1) := by decide +kernel
theorem d_J_bitCount_39 : decode b_J_bitCount 39 = .ok (.iadd, 1) := by decide +kernel
theorem d_J_bitCount_40 : decode b_J_bitCount 40 = .ok (.istore_n 0, 1) := by decide +kernel
theorem d_J_bitCount_41 : decode b_J_bitCount 41 = .ok (.iload_n 0, 1) := by decide +kernel
theorem d_J_bitCount_42 : decode b_J_bitCount 42 = .ok (.iload_n 0, 1) := by decide +kernel
theorem d_J_bitCount_43 : decode b_J_bitCount 43 = .ok (.bipush 16, 2) := by decide +kernel
theorem d_J_bitCount_45 : decode b_J_bitCount 45 = .ok (.iushr, 1) := by decide +kernel
theorem d_J_bitCount_46 : decode b_J_bitCount 46 = .ok (.iadd, 1) := by decide +kernel
theorem d_J_bitCount_47 : decode b_J_bitCount 47 = .ok (.istore_n 0, 1) := by decide +kernel
theorem d_J_bitCount_48 : decode b_J_bitCount 48 = .ok (.iload_n 0, 1) := by decide +kernel
theorem d_J_bitCount_49 : decode b_J_bitCount 49 = .ok (.bipush 63, 2) := by decide +kernel
theorem d_J_bitCount_51 : decode b_J_bitCount 51 = .ok (.iand, 1) := by decide +kernel
theorem d_J_bitCount_52 : decode b_J_bitCount 52 = .ok (.ireturn, 1) := by decide +kernel
abbrev b_J_fillI : ByteArray := prog_15_method_103_code
abbrev y_J_fillI : MethodName := ⟨"java/util/Arrays", "fill", "([II)V"⟩
theorem ok_J_fillI : okS y_J_fillI b_J_fillI 4 none 2 := ⟨mGW (List.mem_of_getElem? (i := 395) (by decide +kernel)) rfl, mGW (List.mem_of_getElem? (i := 84) (by decide +kernel)) rfl, mGW (List.mem_of_getElem? (i := 396) (by decide +kernel)) rfl, ⟨by decide, by decide, by decide +kernel⟩⟩
theorem d_J_fillI_0 : decode b_J_fillI 0 = .ok (.iconst 0, 1) := by decide +kernel
theorem d_J_fillI_1 : decode b_J_fillI 1 = .ok (.istore_n 2, 1) := by decide +kernel
theorem d_J_fillI_2 : decode b_J_fillI 2 = .ok (.aload_n 0, 1) := by decide +kernel
theorem d_J_fillI_3 : decode b_J_fillI 3 = .ok (.arraylength, 1) := by decide +kernel
theorem d_J_fillI_4 : decode b_J_fillI 4 = .ok (.istore_n 3, 1) := by decide +kernel
theorem d_J_fillI_5 : decode b_J_fillI 5 = .ok (.iload_n 2, 1) := by decide +kernel
theorem d_J_fillI_6 : decode b_J_fillI 6 = .ok (.iload_n 3, 1) := by decide +kernel
theorem d_J_fillI_7 : decode b_J_fillI 7 = .ok (.if_icmp .ge 13, 3) := by decide +kernel
theorem d_J_fillI_10 : decode b_J_fillI 10 = .ok (.aload_n 0, 1) := by decide +kernel
theorem d_J_fillI_11 : decode b_J_fillI 11 = .ok (.iload_n 2, 1) := by decide +kernel
theorem d_J_fillI_12 : decode b_J_fillI 12 = .ok (.iload_n 1, 1) := by decide +kernel
theorem d_J_fillI_13 : decode b_J_fillI 13 = .ok (.iastore, 1) := by decide +kernel
theorem d_J_fillI_14 : decode b_J_fillI 14 = .ok (.iinc 2 1, 3) := by decide +kernel
theorem d_J_fillI_17 : decode b_J_fillI 17 = .ok (.goto (-12), 3) := by decide +kernel
theorem d_J_fillI_20 : decode b_J_fillI 20 = .ok (.return_, 1) := by decide +kernel
abbrev b_J_fillB : ByteArray := prog_15_method_109_code
abbrev y_J_fillB : MethodName := ⟨"java/util/Arrays", "fill", "([BB)V"⟩
theorem ok_J_fillB : okS y_J_fillB b_J_fillB 4 none 2 := ⟨mGW (List.mem_of_getElem? (i := 456) (by decide +kernel)) rfl, mGW (List.mem_of_getElem? (i := 84) (by decide +kernel)) rfl, mGW (List.mem_of_getElem? (i := 457) (by decide +kernel)) rfl, ⟨by decide, by decide, by decide +kernel⟩⟩
theorem d_J_fillB_0 : decode b_J_fillB 0 = .ok (.iconst 0, 1) := by decide +kernel
theorem d_J_fillB_1 : decode b_J_fillB 1 = .ok (.istore_n 2, 1) := by decide +kernel
theorem d_J_fillB_2 : decode b_J_fillB 2 = .ok (.aload_n 0, 1) := by decide +kernel
theorem d_J_fillB_3 : decode b_J_fillB 3 = .ok (.arraylength, 1) := by decide +kernel
theorem d_J_fillB_4 : decode b_J_fillB 4 = .ok (.istore_n 3, 1) := by decide +kernel
theorem d_J_fillB_5 : decode b_J_fillB 5 = .ok (.iload_n 2, 1) := by decide +kernel
theorem d_J_fillB_6 : decode b_J_fillB 6 = .ok (.iload_n 3, 1) := by decide +kernel
theorem d_J_fillB_7 : decode b_J_fillB 7 = .ok (.if_icmp .ge 13, 3) := by decide +kernel
theorem d_J_fillB_10 : decode b_J_fillB 10 = .ok (.aload_n 0, 1) := by decide +kernel
theorem d_J_fillB_11 : decode b_J_fillB 11 = .ok (.iload_n 2, 1) := by decide +kernel
theorem d_J_fillB_12 : decode b_J_fillB 12 = .ok (.iload_n 1, 1) := by decide +kernel
theorem d_J_fillB_13 : decode b_J_fillB 13 = .ok (.bastore, 1) := by decide +kernel
theorem d_J_fillB_14 : decode b_J_fillB 14 = .ok (.iinc 2 1, 3) := by decide +kernel
theorem d_J_fillB_17 : decode b_J_fillB 17 = .ok (.goto (-12), 3) := by decide +kernel
theorem d_J_fillB_20 : decode b_J_fillB 20 = .ok (.return_, 1) := by decide +kernel
abbrev b_Root_isWithin : ByteArray := prog_1_method_53_code
abbrev y_Root_isWithin : MethodName := ⟨"RiverTuesdays", "isWithin", "(III)Z"⟩
theorem ok_Root_isWithin : okS y_Root_isWithin b_Root_isWithin 3 (some .boolean) 3 := ⟨mGW (List.mem_of_getElem? (i := 384) (by decide +kernel)) rfl, mGW (List.mem_of_getElem? (i := 74) (by decide +kernel)) rfl, mGW (List.mem_of_getElem? (i := 385) (by decide +kernel)) rfl, ⟨by decide, by decide, by decide +kernel⟩⟩
theorem d_Root_isWithin_0 : decode b_Root_isWithin 0 = .ok (.iload_n 0, 1) := by decide +kernel
theorem d_Root_isWithin_1 : decode b_Root_isWithin 1 = .ok (.iload_n 1, 1) := by decide +kernel
theorem d_Root_isWithin_2 : decode b_Root_isWithin 2 = .ok (.if_icmp .lt 12, 3) := by decide +kernel
theorem d_Root_isWithin_5 : decode b_Root_isWithin 5 = .ok (.iload_n 0, 1) := by decide +kernel
theorem d_Root_isWithin_6 : decode b_Root_isWithin 6 = .ok (.iload_n 2, 1) := by decide +kernel
theorem d_Root_isWithin_7 : decode b_Root_isWithin 7 = .ok (.if_icmp .gt 7, 3) := by decide +kernel
theorem d_Root_isWithin_10 : decode b_Root_isWithin 10 = .ok (.iconst 1, 1) := by decide +kernel
theorem d_Root_isWithin_11 : decode b_Root_isWithin 11 = .ok (.goto 4, 3) := by decide +kernel
theorem d_Root_isWithin_14 : decode b_Root_isWithin 14 = .ok (.iconst 0, 1) := by decide +kernel
theorem d_Root_isWithin_15 : decode b_Root_isWithin 15 = .ok (.ireturn, 1) := by decide +kernel
abbrev b_Root_hasBit : ByteArray := prog_1_method_67_code
abbrev y_Root_hasBit : MethodName := ⟨"RiverTuesdays", "hasBit", "(II)Z"⟩
theorem ok_Root_hasBit : okS y_Root_hasBit b_Root_hasBit 2 (some .boolean) 2 := ⟨mGW (List.mem_of_getElem? (i := 727) (by decide +kernel)) rfl, mGW (List.mem_of_getElem? (i := 74) (by decide +kernel)) rfl, mGW (List.mem_of_getElem? (i := 728) (by decide +kernel)) rfl, ⟨by decide, by decide, by decide +kernel⟩⟩
theorem d_Root_hasBit_0 : decode b_Root_hasBit 0 = .ok (.iload_n 0, 1) := by decide +kernel
theorem d_Root_hasBit_1 : decode b_Root_hasBit 1 = .ok (.iload_n 1, 1) := by decide +kernel
theorem d_Root_hasBit_2 : decode b_Root_hasBit 2 = .ok (.ishr, 1) := by decide +kernel
theorem d_Root_hasBit_3 : decode b_Root_hasBit 3 = .ok (.iconst 1, 1) := by decide +kernel
theorem d_Root_hasBit_4 : decode b_Root_hasBit 4 = .ok (.iand, 1) := by decide +kernel
theorem d_Root_hasBit_5 : decode b_Root_hasBit 5 = .ok (.iconst 1, 1) := by decide +kernel
theorem d_Root_hasBit_6 : decode b_Root_hasBit 6 = .ok (.if_icmp .ne 7, 3) := by decide +kernel
theorem d_Root_hasBit_9 : decode b_Root_hasBit 9 = .ok (.iconst 1, 1) := by decide +kernel
theorem d_Root_hasBit_10 : decode b_Root_hasBit 10 = .ok (.goto 4, 3) := by decide +kernel
theorem d_Root_hasBit_13 : decode b_Root_hasBit 13 = .ok (.iconst 0, 1) := by decide +kernel
theorem d_Root_hasBit_14 : decode b_Root_hasBit 14 = .ok (.ireturn, 1) := by decide +kernel
def f_J_bitCount (v0 : Int32) (D : Dt) : Option (Int32 × Dt) :=
  nm (v0 - (((v0.toUInt32 >>> ((1 : Int32).toUInt32 &&& Int32.toUInt32 31)).toInt32) &&& 1431655765)) (fun x1 => nm ((x1 &&& 858993459) + (((x1.toUInt32 >>> ((2 : Int32).toUInt32 &&& Int32.toUInt32 31)).toInt32) &&& 858993459)) (fun x2 => nm ((x2 + ((x2.toUInt32 >>> ((4 : Int32).toUInt32 &&& Int32.toUInt32 31)).toInt32)) &&& 252645135) (fun x3 => nm (x3 + ((x3.toUInt32 >>> ((8 : Int32).toUInt32 &&& Int32.toUInt32 31)).toInt32)) (fun x4 => nm (x4 + ((x4.toUInt32 >>> ((16 : Int32).toUInt32 &&& Int32.toUInt32 31)).toInt32)) (fun x5 => some (x5 &&& 63, D))))))
set_option maxHeartbeats 4000000 in
theorem te_J_bitCount {Γ : GmT} {G : Dt → Nat → List (Nat × Value) → List Value → Prop} {rr : Int32} {DD : Dt} (C : Cx Γ "java/lang/Integer" b_J_bitCount 1 1 (some .int) (some (.int rr)) DD G) {v0 : Int32} {D : Dt} (hf : f_J_bitCount v0 D = some (rr, DD)) : G D 0 [(0, .int v0)] [] := by
  unfold f_J_bitCount at hf
  refine r_iload_n (pc := 0) C 0 d_J_bitCount_0 rfl rfl ?_
  refine r_iload_n (pc := 1) C 0 d_J_bitCount_1 rfl rfl ?_
  refine r_iconst (pc := 2) C (v := 1) d_J_bitCount_2 (by decide) ?_
  refine r_iushr (pc := 3) C d_J_bitCount_3 ?_
  refine r_ldcw (pc := 4) C Lc_Integer_265 d_J_bitCount_4 ?_
  refine r_iand (pc := 7) C d_J_bitCount_7 ?_
  refine r_isub (pc := 8) C d_J_bitCount_8 ?_
  refine r_nmi (pc := 9) hf (fun x1 hf => ?_)
  refine r_istore_n (pc := 9) (lv' := [(0, .int x1)]) C d_J_bitCount_9 rfl (Nat.le_of_ble_eq_true rfl) rfl ?_
  refine r_iload_n (pc := 10) C 0 d_J_bitCount_10 rfl rfl ?_
  refine r_ldcw (pc := 11) C Lc_Integer_266 d_J_bitCount_11 ?_
  refine r_iand (pc := 14) C d_J_bitCount_14 ?_
  refine r_iload_n (pc := 15) C 0 d_J_bitCount_15 rfl rfl ?_
  refine r_iconst (pc := 16) C (v := 2) d_J_bitCount_16 (by decide) ?_
  refine r_iushr (pc := 17) C d_J_bitCount_17 ?_
  refine r_ldcw (pc := 18) C Lc_Integer_266 d_J_bitCount_18 ?_
  refine r_iand (pc := 21) C d_J_bitCount_21 ?_
  refine r_iadd (pc := 22) C d_J_bitCount_22 ?_
  refine r_nmi (pc := 23) hf (fun x2 hf => ?_)
  refine r_istore_n (pc := 23) (lv' := [(0, .int x2)]) C d_J_bitCount_23 rfl (Nat.le_of_ble_eq_true rfl) rfl ?_
  refine r_iload_n (pc := 24) C 0 d_J_bitCount_24 rfl rfl ?_
  refine r_iload_n (pc := 25) C 0 d_J_bitCount_25 rfl rfl ?_
  refine r_iconst (pc := 26) C (v := 4) d_J_bitCount_26 (by decide) ?_
  refine r_iushr (pc := 27) C d_J_bitCount_27 ?_
  refine r_iadd (pc := 28) C d_J_bitCount_28 ?_
  refine r_ldcw (pc := 29) C Lc_Integer_267 d_J_bitCount_29 ?_
  refine r_iand (pc := 32) C d_J_bitCount_32 ?_
  refine r_nmi (pc := 33) hf (fun x3 hf => ?_)
  refine r_istore_n (pc := 33) (lv' := [(0, .int x3)]) C d_J_bitCount_33 rfl (Nat.le_of_ble_eq_true rfl) rfl ?_
  refine r_iload_n (pc := 34) C 0 d_J_bitCount_34 rfl rfl ?_
  refine r_iload_n (pc := 35) C 0 d_J_bitCount_35 rfl rfl ?_
  refine r_bipush (pc := 36) C (v := 8) d_J_bitCount_36 (by decide) ?_
  refine r_iushr (pc := 38) C d_J_bitCount_38 ?_
  refine r_iadd (pc := 39) C d_J_bitCount_39 ?_
  refine r_nmi (pc := 40) hf (fun x4 hf => ?_)
  refine r_istore_n (pc := 40) (lv' := [(0, .int x4)]) C d_J_bitCount_40 rfl (Nat.le_of_ble_eq_true rfl) rfl ?_
  refine r_iload_n (pc := 41) C 0 d_J_bitCount_41 rfl rfl ?_
  refine r_iload_n (pc := 42) C 0 d_J_bitCount_42 rfl rfl ?_
  refine r_bipush (pc := 43) C (v := 16) d_J_bitCount_43 (by decide) ?_
  refine r_iushr (pc := 45) C d_J_bitCount_45 ?_
  refine r_iadd (pc := 46) C d_J_bitCount_46 ?_
  refine r_nmi (pc := 47) hf (fun x5 hf => ?_)
  refine r_istore_n (pc := 47) (lv' := [(0, .int x5)]) C d_J_bitCount_47 rfl (Nat.le_of_ble_eq_true rfl) rfl ?_
  refine r_iload_n (pc := 48) C 0 d_J_bitCount_48 rfl rfl ?_
  refine r_bipush (pc := 49) C (v := 63) d_J_bitCount_49 (by decide) ?_
  refine r_iand (pc := 51) C d_J_bitCount_51 ?_
  exact r_iret (pc := 52) C d_J_bitCount_52 hf
theorem c_J_bitCount (Γ : GmT) {v0 : Int32} {D : Dt} {rr : Int32} {DD : Dt} (hf : f_J_bitCount v0 D = some (rr, DD)) : Mt Γ y_J_bitCount b_J_bitCount 1 (some .int) 1 [.int v0] D (some (.int rr)) DD := Mt_of (by decide) (Nat.le_of_ble_eq_true rfl) (fun G C => te_J_bitCount C hf)
def s_J_fillI_5 (a0 : Nat) (k5 : Int32 → Int32 → Int32 → Dt → Option (Unit × Dt)) (v1 : Int32) (v2 : Int32) (v3 : Int32) (D : Dt) : Option (Unit × Dt) :=
  (if v3 ≤ v2 then some ((), D) else (if inb v2 (ln a0) = true then nm (wr D a0 v2.toNatClampNeg v1) (fun D1 => k5 v1 (v2 + 1) v3 D1) else none))
def lp_J_fillI_5 (a0 : Nat) (n : Nat) : Int32 → Int32 → Int32 → Dt → Option (Unit × Dt) := itr (fun _ _ _ _ => none) (s_J_fillI_5 a0) n
set_option maxHeartbeats 4000000 in
theorem ts_J_fillI_5 {Γ : GmT} {G : Dt → Nat → List (Nat × Value) → List Value → Prop} {rr : Unit} {DD : Dt} {a0 : Nat} (C : Cx Γ "java/util/Arrays" b_J_fillI 4 1 none none DD G) (h0 : kd a0 = 11) {k5 : Int32 → Int32 → Int32 → Dt → Option (Unit × Dt)} (hk5 : ∀ (v1 : Int32) (v2 : Int32) (v3 : Int32) (D : Dt), k5 v1 v2 v3 D = some (rr, DD) → G D 5 [(0, .ref (Γ.2.1 a0)), (1, .int v1), (2, .int v2), (3, .int v3)] []) {v1 : Int32} {v2 : Int32} {v3 : Int32} {D : Dt} (hf : s_J_fillI_5 a0 k5 v1 v2 v3 D = some (rr, DD)) : G D 5 [(0, .ref (Γ.2.1 a0)), (1, .int v1), (2, .int v2), (3, .int v3)] [] := by
  unfold s_J_fillI_5 at hf
  refine r_iload_n (pc := 5) C 2 d_J_fillI_5 rfl rfl ?_
  refine r_iload_n (pc := 6) C 3 d_J_fillI_6 rfl rfl ?_
  refine r_icmp_ge (pc := 7) C (tgt := 20) d_J_fillI_7 (by decide) hf (fun c7 hf => ?_) (fun c7 hf => ?_)
  · exact r_vret (pc := 20) C d_J_fillI_20 hf
  · refine r_aload_n (pc := 10) C 0 d_J_fillI_10 rfl rfl ?_
    refine r_iload_n (pc := 11) C 2 d_J_fillI_11 rfl rfl ?_
    refine r_iload_n (pc := 12) C 1 d_J_fillI_12 rfl rfl ?_
    refine r_iast (pc := 13) C ⟨h0, rfl⟩ d_J_fillI_13 hf (fun hf => ?_)
    refine r_nmD hf (fun D1 hf => ?_)
    refine r_iinc (pc := 14) C (v := v2 + 1) (lv' := [(2, .int (v2 + 1)), (0, .ref (Γ.2.1 a0)), (1, .int v1), (3, .int v3)]) 2 d_J_fillI_14 rfl rfl (Nat.le_of_ble_eq_true rfl) rfl ?_
    refine r_goto (pc := 17) C (tgt := 5) d_J_fillI_17 (by decide) ?_
    exact r_lv (pc := 5) C [1, 2, 0, 3] rfl (hk5 v1 (v2 + 1) v3 D1 hf)
theorem tl_J_fillI_5 {Γ : GmT} {G : Dt → Nat → List (Nat × Value) → List Value → Prop} {rr : Unit} {DD : Dt} {a0 : Nat} (C : Cx Γ "java/util/Arrays" b_J_fillI 4 1 none none DD G) (h0 : kd a0 = 11) : ∀ (n : Nat) (v1 : Int32) (v2 : Int32) (v3 : Int32) (D : Dt), lp_J_fillI_5 a0 n v1 v2 v3 D = some (rr, DD) → G D 5 [(0, .ref (Γ.2.1 a0)), (1, .int v1), (2, .int v2), (3, .int v3)] [] := by
  intro n
  induction n with
  | zero =>
    intro v1 v2 v3 D hf
    exact absurd (show (none : Option (Unit × Dt)) = some (rr, DD) from hf) (by simp)
  | succ n ih =>
    intro v1 v2 v3 D hf
    exact ts_J_fillI_5 C h0 (k5 := lp_J_fillI_5 a0 n) ih hf
def f_J_fillI (a0 : Nat) (v1 : Int32) (D : Dt) : Option (Unit × Dt) :=
  lp_J_fillI_5 a0 FU v1 0 (Int32.ofNat (ln a0)) D
set_option maxHeartbeats 4000000 in
theorem te_J_fillI {Γ : GmT} {G : Dt → Nat → List (Nat × Value) → List Value → Prop} {rr : Unit} {DD : Dt} {a0 : Nat} (C : Cx Γ "java/util/Arrays" b_J_fillI 4 1 none none DD G) (h0 : kd a0 = 11) {v1 : Int32} {D : Dt} (hf : f_J_fillI a0 v1 D = some (rr, DD)) : G D 0 [(0, .ref (Γ.2.1 a0)), (1, .int v1)] [] := by
  unfold f_J_fillI at hf
  refine r_iconst (pc := 0) C (v := 0) d_J_fillI_0 (by decide) ?_
  refine r_istore_n (pc := 1) (lv' := [(2, .int 0), (0, .ref (Γ.2.1 a0)), (1, .int v1)]) C d_J_fillI_1 rfl (Nat.le_of_ble_eq_true rfl) rfl ?_
  refine r_aload_n (pc := 2) C 1 d_J_fillI_2 rfl rfl ?_
  refine r_alen (pc := 3) C ⟨h0, rfl⟩ (by decide) d_J_fillI_3 ?_
  refine r_istore_n (pc := 4) (lv' := [(3, .int (Int32.ofNat (ln a0))), (2, .int 0), (0, .ref (Γ.2.1 a0)), (1, .int v1)]) C d_J_fillI_4 rfl (Nat.le_of_ble_eq_true rfl) rfl ?_
  exact r_lv (pc := 5) C [2, 3, 1, 0] rfl (tl_J_fillI_5 C h0 FU v1 0 (Int32.ofNat (ln a0)) D hf)
theorem c_J_fillI (Γ : GmT) {a0 : Nat} {v1 : Int32} (h0 : kd a0 = 11) {D : Dt} {rr : Unit} {DD : Dt} (hf : f_J_fillI a0 v1 D = some (rr, DD)) : Mt Γ y_J_fillI b_J_fillI 4 none 1 [.ref (Γ.2.1 a0), .int v1] D none DD := Mt_of (by decide) (Nat.le_of_ble_eq_true rfl) (fun G C => te_J_fillI C h0 hf)
def s_J_fillB_5 (a0 : Nat) (k5 : Int32 → Int32 → Int32 → Dt → Option (Unit × Dt)) (v1 : Int32) (v2 : Int32) (v3 : Int32) (D : Dt) : Option (Unit × Dt) :=
  (if v3 ≤ v2 then some ((), D) else (if inb v2 (ln a0) = true then nm (wr D a0 v2.toNatClampNeg (vp_nar .byte v1)) (fun D1 => k5 v1 (v2 + 1) v3 D1) else none))
def lp_J_fillB_5 (a0 : Nat) (n : Nat) : Int32 → Int32 → Int32 → Dt → Option (Unit × Dt) := itr (fun _ _ _ _ => none) (s_J_fillB_5 a0) n
set_option maxHeartbeats 4000000 in
theorem ts_J_fillB_5 {Γ : GmT} {G : Dt → Nat → List (Nat × Value) → List Value → Prop} {rr : Unit} {DD : Dt} {a0 : Nat} (C : Cx Γ "java/util/Arrays" b_J_fillB 4 1 none none DD G) (h0 : kd a0 = 10) {k5 : Int32 → Int32 → Int32 → Dt → Option (Unit × Dt)} (hk5 : ∀ (v1 : Int32) (v2 : Int32) (v3 : Int32) (D : Dt), k5 v1 v2 v3 D = some (rr, DD) → G D 5 [(0, .ref (Γ.2.1 a0)), (1, .int v1), (2, .int v2), (3, .int v3)] []) {v1 : Int32} {v2 : Int32} {v3 : Int32} {D : Dt} (hf : s_J_fillB_5 a0 k5 v1 v2 v3 D = some (rr, DD)) : G D 5 [(0, .ref (Γ.2.1 a0)), (1, .int v1), (2, .int v2), (3, .int v3)] [] := by
  unfold s_J_fillB_5 at hf
  refine r_iload_n (pc := 5) C 2 d_J_fillB_5 rfl rfl ?_
  refine r_iload_n (pc := 6) C 3 d_J_fillB_6 rfl rfl ?_
  refine r_icmp_ge (pc := 7) C (tgt := 20) d_J_fillB_7 (by decide) hf (fun c7 hf => ?_) (fun c7 hf => ?_)
  · exact r_vret (pc := 20) C d_J_fillB_20 hf
  · refine r_aload_n (pc := 10) C 0 d_J_fillB_10 rfl rfl ?_
    refine r_iload_n (pc := 11) C 2 d_J_fillB_11 rfl rfl ?_
    refine r_iload_n (pc := 12) C 1 d_J_fillB_12 rfl rfl ?_
    refine r_bast (pc := 13) C ⟨h0, rfl⟩ d_J_fillB_13 hf (fun hf => ?_)
    refine r_nmD hf (fun D1 hf => ?_)
    refine r_iinc (pc := 14) C (v := v2 + 1) (lv' := [(2, .int (v2 + 1)), (0, .ref (Γ.2.1 a0)), (1, .int v1), (3, .int v3)]) 2 d_J_fillB_14 rfl rfl (Nat.le_of_ble_eq_true rfl) rfl ?_
    refine r_goto (pc := 17) C (tgt := 5) d_J_fillB_17 (by decide) ?_
    exact r_lv (pc := 5) C [1, 2, 0, 3] rfl (hk5 v1 (v2 + 1) v3 D1 hf)
theorem tl_J_fillB_5 {Γ : GmT} {G : Dt → Nat → List (Nat × Value) → List Value → Prop} {rr : Unit} {DD : Dt} {a0 : Nat} (C : Cx Γ "java/util/Arrays" b_J_fillB 4 1 none none DD G) (h0 : kd a0 = 10) : ∀ (n : Nat) (v1 : Int32) (v2 : Int32) (v3 : Int32) (D : Dt), lp_J_fillB_5 a0 n v1 v2 v3 D = some (rr, DD) → G D 5 [(0, .ref (Γ.2.1 a0)), (1, .int v1), (2, .int v2), (3, .int v3)] [] := by
  intro n
  induction n with
  | zero =>
    intro v1 v2 v3 D hf
    exact absurd (show (none : Option (Unit × Dt)) = some (rr, DD) from hf) (by simp)
  | succ n ih =>
    intro v1 v2 v3 D hf
    exact ts_J_fillB_5 C h0 (k5 := lp_J_fillB_5 a0 n) ih hf
def f_J_fillB (a0 : Nat) (v1 : Int32) (D : Dt) : Option (Unit × Dt) :=
  lp_J_fillB_5 a0 FU v1 0 (Int32.ofNat (ln a0)) D
set_option maxHeartbeats 4000000 in
theorem te_J_fillB {Γ : GmT} {G : Dt → Nat → List (Nat × Value) → List Value → Prop} {rr : Unit} {DD : Dt} {a0 : Nat} (C : Cx Γ "java/util/Arrays" b_J_fillB 4 1 none none DD G) (h0 : kd a0 = 10) {v1 : Int32} {D : Dt} (hf : f_J_fillB a0 v1 D = some (rr, DD)) : G D 0 [(0, .ref (Γ.2.1 a0)), (1, .int v1)] [] := by
  unfold f_J_fillB at hf
  refine r_iconst (pc := 0) C (v := 0) d_J_fillB_0 (by decide) ?_
  refine r_istore_n (pc := 1) (lv' := [(2, .int 0), (0, .ref (Γ.2.1 a0)), (1, .int v1)]) C d_J_fillB_1 rfl (Nat.le_of_ble_eq_true rfl) rfl ?_
  refine r_aload_n (pc := 2) C 1 d_J_fillB_2 rfl rfl ?_
  refine r_alen (pc := 3) C ⟨h0, rfl⟩ (by decide) d_J_fillB_3 ?_
  refine r_istore_n (pc := 4) (lv' := [(3, .int (Int32.ofNat (ln a0))), (2, .int 0), (0, .ref (Γ.2.1 a0)), (1, .int v1)]) C d_J_fillB_4 rfl (Nat.le_of_ble_eq_true rfl) rfl ?_
  exact r_lv (pc := 5) C [2, 3, 1, 0] rfl (tl_J_fillB_5 C h0 FU v1 0 (Int32.ofNat (ln a0)) D hf)
theorem c_J_fillB (Γ : GmT) {a0 : Nat} {v1 : Int32} (h0 : kd a0 = 10) {D : Dt} {rr : Unit} {DD : Dt} (hf : f_J_fillB a0 v1 D = some (rr, DD)) : Mt Γ y_J_fillB b_J_fillB 4 none 1 [.ref (Γ.2.1 a0), .int v1] D none DD := Mt_of (by decide) (Nat.le_of_ble_eq_true rfl) (fun G C => te_J_fillB C h0 hf)
def f_Root_isWithin (v0 : Int32) (v1 : Int32) (v2 : Int32) (D : Dt) : Option (Int32 × Dt) :=
  (if v0 < v1 then some (0, D) else (if v2 < v0 then some (0, D) else some (1, D)))
set_option maxHeartbeats 4000000 in
theorem te_Root_isWithin {Γ : GmT} {G : Dt → Nat → List (Nat × Value) → List Value → Prop} {rr : Int32} {DD : Dt} (C : Cx Γ "RiverTuesdays" b_Root_isWithin 3 1 (some .boolean) (some (.int rr)) DD G) {v0 : Int32} {v1 : Int32} {v2 : Int32} {D : Dt} (hf : f_Root_isWithin v0 v1 v2 D = some (rr, DD)) : G D 0 [(0, .int v0), (1, .int v1), (2, .int v2)] [] := by
  unfold f_Root_isWithin at hf
  refine r_iload_n (pc := 0) C 0 d_Root_isWithin_0 rfl rfl ?_
  refine r_iload_n (pc := 1) C 1 d_Root_isWithin_1 rfl rfl ?_
  refine r_icmp_lt (pc := 2) C (tgt := 14) d_Root_isWithin_2 (by decide) hf (fun c2 hf => ?_) (fun c2 hf => ?_)
  · refine r_iconst (pc := 14) C (v := 0) d_Root_isWithin_14 (by decide) ?_
    exact r_zret (pc := 15) C d_Root_isWithin_15 rfl hf
  · refine r_iload_n (pc := 5) C 0 d_Root_isWithin_5 rfl rfl ?_
    refine r_iload_n (pc := 6) C 2 d_Root_isWithin_6 rfl rfl ?_
    refine r_icmp_gt (pc := 7) C (tgt := 14) d_Root_isWithin_7 (by decide) hf (fun c7 hf => ?_) (fun c7 hf => ?_)
    · refine r_iconst (pc := 14) C (v := 0) d_Root_isWithin_14 (by decide) ?_
      exact r_zret (pc := 15) C d_Root_isWithin_15 rfl hf
    · refine r_iconst (pc := 10) C (v := 1) d_Root_isWithin_10 (by decide) ?_
      refine r_goto (pc := 11) C (tgt := 15) d_Root_isWithin_11 (by decide) ?_
      exact r_zret (pc := 15) C d_Root_isWithin_15 rfl hf
theorem c_Root_isWithin (Γ : GmT) {v0 : Int32} {v1 : Int32} {v2 : Int32} {D : Dt} {rr : Int32} {DD : Dt} (hf : f_Root_isWithin v0 v1 v2 D = some (rr, DD)) : Mt Γ y_Root_isWithin b_Root_isWithin 3 (some .boolean) 1 [.int v0, .int v1, .int v2] D (some (.int rr)) DD := Mt_of (by decide) (Nat.le_of_ble_eq_true rfl) (fun G C => te_Root_isWithin C hf)
def f_Root_hasBit (v0 : Int32) (v1 : Int32) (D : Dt) : Option (Int32 × Dt) :=
  (if ((v0 >>> (v1 &&& 31)) &&& 1) = 1 then some (1, D) else some (0, D))
set_option maxHeartbeats 4000000 in
theorem te_Root_hasBit {Γ : GmT} {G : Dt → Nat → List (Nat × Value) → List Value → Prop} {rr : Int32} {DD : Dt} (C : Cx Γ "RiverTuesdays" b_Root_hasBit 2 1 (some .boolean) (some (.int rr)) DD G) {v0 : Int32} {v1 : Int32} {D : Dt} (hf : f_Root_hasBit v0 v1 D = some (rr, DD)) : G D 0 [(0, .int v0), (1, .int v1)] [] := by
  unfold f_Root_hasBit at hf
  refine r_iload_n (pc := 0) C 0 d_Root_hasBit_0 rfl rfl ?_
  refine r_iload_n (pc := 1) C 1 d_Root_hasBit_1 rfl rfl ?_
  refine r_ishr (pc := 2) C d_Root_hasBit_2 ?_
  refine r_iconst (pc := 3) C (v := 1) d_Root_hasBit_3 (by decide) ?_
  refine r_iand (pc := 4) C d_Root_hasBit_4 ?_
  refine r_iconst (pc := 5) C (v := 1) d_Root_hasBit_5 (by decide) ?_
  refine r_icmp_ne (pc := 6) C (tgt := 13) d_Root_hasBit_6 (by decide) hf (fun c6 hf => ?_) (fun c6 hf => ?_)
  · refine r_iconst (pc := 13) C (v := 0) d_Root_hasBit_13 (by decide) ?_
    exact r_zret (pc := 14) C d_Root_hasBit_14 rfl hf
  · refine r_iconst (pc := 9) C (v := 1) d_Root_hasBit_9 (by decide) ?_
    refine r_goto (pc := 10) C (tgt := 14) d_Root_hasBit_10 (by decide) ?_
    exact r_zret (pc := 14) C d_Root_hasBit_14 rfl hf
theorem c_Root_hasBit (Γ : GmT) {v0 : Int32} {v1 : Int32} {D : Dt} {rr : Int32} {DD : Dt} (hf : f_Root_hasBit v0 v1 D = some (rr, DD)) : Mt Γ y_Root_hasBit b_Root_hasBit 2 (some .boolean) 1 [.int v0, .int v1] D (some (.int rr)) DD := Mt_of (by decide) (Nat.le_of_ble_eq_true rfl) (fun G C => te_Root_hasBit C hf)
