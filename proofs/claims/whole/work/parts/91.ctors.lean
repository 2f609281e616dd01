/-! the constructors: leaves, and the Street -/
theorem acw_int : Cond.arrayClass .int ∈ GW := (mGW (List.mem_of_getElem? (i := 158) (by decide +kernel)) rfl)
theorem acw_byte : Cond.arrayClass .byte ∈ GW := (mGW (List.mem_of_getElem? (i := 332) (by decide +kernel)) rfl)
theorem acw_boolean : Cond.arrayClass .boolean ∈ GW := (mGW (List.mem_of_getElem? (i := 255) (by decide +kernel)) rfl)
theorem ow1 : Cond.instanceMethod objectInit ∈ GW := (mGW (List.mem_of_getElem? (i := 94) (by decide +kernel)) rfl)
theorem ow2 : Cond.code objectInit ⟨#[0xb1]⟩ 1 none ∈ GW := (mGW (List.mem_of_getElem? (i := 95) (by decide +kernel)) rfl)
def yI_Row : MethodName := ⟨"RiverTuesdays$Row", "<init>", "()V"⟩
theorem okI_Row : okI yI_Row prog_5_method_1_code 1 2 3 cT3 cY3 := ⟨⟨rfl, by decide, cW3, cYo3, by decide +kernel⟩, (mGW (List.mem_of_getElem? (i := 300) (by decide +kernel)) rfl), (mGW (List.mem_of_getElem? (i := 81) (by decide +kernel)) rfl), (mGW (List.mem_of_getElem? (i := 302) (by decide +kernel)) rfl), (mGW (List.mem_of_getElem? (i := 303) (by decide +kernel)) rfl), ⟨by decide, by decide, by decide +kernel⟩, rfl⟩
theorem oi_Row : Cond.methodLink "RiverTuesdays$Row" 3 objectInit ∈ GW := (mGW (List.mem_of_getElem? (i := 304) (by decide +kernel)) rfl)
theorem d_RowI_0 : decode prog_5_method_1_code 0 = .ok (.aload_n 0, 1) := by decide +kernel
theorem d_RowI_1 : decode prog_5_method_1_code 1 = .ok (.invokespecial 3, 3) := by decide +kernel
theorem d_RowI_4 : decode prog_5_method_1_code 4 = .ok (.aload_n 0, 1) := by decide +kernel
theorem d_RowI_5 : decode prog_5_method_1_code 5 = .ok (.bipush 60, 2) := by decide +kernel
theorem d_RowI_7 : decode prog_5_method_1_code 7 = .ok (.newarray .int, 2) := by decide +kernel
theorem d_RowI_9 : decode prog_5_method_1_code 9 = .ok (.putfield 9, 3) := by decide +kernel
theorem d_RowI_12 : decode prog_5_method_1_code 12 = .ok (.aload_n 0, 1) := by decide +kernel
theorem d_RowI_13 : decode prog_5_method_1_code 13 = .ok (.iconst (-1), 1) := by decide +kernel
theorem d_RowI_14 : decode prog_5_method_1_code 14 = .ok (.putfield 15, 3) := by decide +kernel
theorem d_RowI_17 : decode prog_5_method_1_code 17 = .ok (.return_, 1) := by decide +kernel
theorem kL_Row : ∀ b, b < 211 → kd b = 3 → ∀ j, j < 1 → kd (b + 1 + j) = 11 ∧ ln (b + 1 + j) = 60 ∧ b + 1 + j ≠ 178 ∧ b + 1 + j ≠ 181 := by decide +kernel
theorem c_Row_init (Γ : GmT) {b : Nat} (hb : kd b = 3) : CtB Γ yI_Row prog_5_method_1_code 1 1 1 60 b 2 := by
  have hL := kL_Row b (kd_lt (by omega)) hb
  intro E hE
  refine MtB_of rfl rfl (Nat.le_of_ble_eq_true rfl) fun G C => ?_
  have h0 : E b = .inr (3, dfl 3) := (hE _ (by omega) (by omega)).trans (bl_o hb (by decide))
  rw [← oB_self h0]
  refine b_aload C 0 d_RowI_0 rfl rfl ?_
  refine b_objInit C oi_Row (by decide) ow1 ow2 d_RowI_1 ?_
  refine b_aload C 0 d_RowI_4 rfl rfl ?_
  refine b_bipush C d_RowI_5 (v := 60) rfl ?_
  refine b_newa C (t := 11) (N := 60) (q := 1) (ty := .int) rfl rfl (fun _ _ h => h) rfl acw_int (by decide) (by decide) (by decide) ((oB_ne (by omega)).trans ((hE _ (by omega) (by omega)).trans (bl_a ⟨(hL 0 (by decide)).1, (hL 0 (by decide)).2.1⟩ (by decide)))) (by decide) (by decide) d_RowI_7 ?_
  refine b_putF C (ci := 3) (T := cT3) (N := 2) (Y := cY3) (ty := .array .int) (by omega) rfl cW3 cYo3 cD3 0 (by decide) rfl (by decide +kernel) rfl rfl (Nat.le_of_ble_eq_true rfl) (mGW (List.mem_of_getElem? (i := 305) (by decide +kernel)) rfl) d_RowI_9 ?_
  refine b_aload C 0 d_RowI_12 rfl rfl ?_
  refine b_iconst C d_RowI_13 (v := (-1)) rfl ?_
  refine b_put C (ci := 3) (T := cT3) (N := 2) (Y := cY3) (ty := .int) (by omega) rfl cW3 cYo3 cD3 1 (by decide) rfl (by decide +kernel) rfl rfl (Nat.le_of_ble_eq_true rfl) (mGW (List.mem_of_getElem? (i := 308) (by decide +kernel)) rfl) d_RowI_14 ?_
  refine b_ret C (by decide) (by decide) rfl (fun k hk => ?_) d_RowI_17
  by_cases e : k = b
  · rw [e, oB_eq, fB_in (by omega) (by omega), enc3 Γ _ hb]
    unfold fl3
    rw [show D0 b 1 = -1 from by unfold D0; rw [if_pos (by omega)]; rfl]
    rfl
  · rw [oB_ne e]
    by_cases h1 : k < b
    · rw [fB_out (Or.inl h1)]
    · rw [fB_in (by omega) (by omega), hE k (by omega) (by omega)]
      have h2 := hL (k - (b + 1)) (by omega)
      rw [show b + 1 + (k - (b + 1)) = k by omega] at h2
      exact bl_d h2.1 (by decide) h2.2.2.1 h2.2.2.2
def yI_Text : MethodName := ⟨"RiverTuesdays$Text", "<init>", "()V"⟩
theorem okI_Text : okI yI_Text prog_7_method_1_code 1 2 5 cT5 cY5 := ⟨⟨rfl, by decide, cW5, cYo5, by decide +kernel⟩, (mGW (List.mem_of_getElem? (i := 316) (by decide +kernel)) rfl), (mGW (List.mem_of_getElem? (i := 82) (by decide +kernel)) rfl), (mGW (List.mem_of_getElem? (i := 318) (by decide +kernel)) rfl), (mGW (List.mem_of_getElem? (i := 319) (by decide +kernel)) rfl), ⟨by decide, by decide, by decide +kernel⟩, rfl⟩
theorem oi_Text : Cond.methodLink "RiverTuesdays$Text" 3 objectInit ∈ GW := (mGW (List.mem_of_getElem? (i := 320) (by decide +kernel)) rfl)
theorem d_TextI_0 : decode prog_7_method_1_code 0 = .ok (.aload_n 0, 1) := by decide +kernel
theorem d_TextI_1 : decode prog_7_method_1_code 1 = .ok (.invokespecial 3, 3) := by decide +kernel
theorem d_TextI_4 : decode prog_7_method_1_code 4 = .ok (.aload_n 0, 1) := by decide +kernel
theorem d_TextI_5 : decode prog_7_method_1_code 5 = .ok (.bipush 60, 2) := by decide +kernel
theorem d_TextI_7 : decode prog_7_method_1_code 7 = .ok (.newarray .byte, 2) := by decide +kernel
theorem d_TextI_9 : decode prog_7_method_1_code 9 = .ok (.putfield 9, 3) := by decide +kernel
theorem d_TextI_12 : decode prog_7_method_1_code 12 = .ok (.aload_n 0, 1) := by decide +kernel
theorem d_TextI_13 : decode prog_7_method_1_code 13 = .ok (.iconst (-1), 1) := by decide +kernel
theorem d_TextI_14 : decode prog_7_method_1_code 14 = .ok (.putfield 15, 3) := by decide +kernel
theorem d_TextI_17 : decode prog_7_method_1_code 17 = .ok (.return_, 1) := by decide +kernel
theorem kL_Text : ∀ b, b < 211 → kd b = 5 → ∀ j, j < 1 → kd (b + 1 + j) = 10 ∧ ln (b + 1 + j) = 60 ∧ b + 1 + j ≠ 178 ∧ b + 1 + j ≠ 181 := by decide +kernel
theorem c_Text_init (Γ : GmT) {b : Nat} (hb : kd b = 5) : CtB Γ yI_Text prog_7_method_1_code 1 1 1 60 b 2 := by
  have hL := kL_Text b (kd_lt (by omega)) hb
  intro E hE
  refine MtB_of rfl rfl (Nat.le_of_ble_eq_true rfl) fun G C => ?_
  have h0 : E b = .inr (5, dfl 5) := (hE _ (by omega) (by omega)).trans (bl_o hb (by decide))
  rw [← oB_self h0]
  refine b_aload C 0 d_TextI_0 rfl rfl ?_
  refine b_objInit C oi_Text (by decide) ow1 ow2 d_TextI_1 ?_
  refine b_aload C 0 d_TextI_4 rfl rfl ?_
  refine b_bipush C d_TextI_5 (v := 60) rfl ?_
  refine b_newa C (t := 10) (N := 60) (q := 0) (ty := .byte) rfl rfl (fun _ _ h => h) rfl acw_byte (by decide) (by decide) (by decide) ((oB_ne (by omega)).trans ((hE _ (by omega) (by omega)).trans (bl_a ⟨(hL 0 (by decide)).1, (hL 0 (by decide)).2.1⟩ (by decide)))) (by decide) (by decide) d_TextI_7 ?_
  refine b_putF C (ci := 5) (T := cT5) (N := 2) (Y := cY5) (ty := .array .byte) (by omega) rfl cW5 cYo5 cD5 0 (by decide) rfl (by decide +kernel) rfl rfl (Nat.le_of_ble_eq_true rfl) (mGW (List.mem_of_getElem? (i := 321) (by decide +kernel)) rfl) d_TextI_9 ?_
  refine b_aload C 0 d_TextI_12 rfl rfl ?_
  refine b_iconst C d_TextI_13 (v := (-1)) rfl ?_
  refine b_put C (ci := 5) (T := cT5) (N := 2) (Y := cY5) (ty := .int) (by omega) rfl cW5 cYo5 cD5 1 (by decide) rfl (by decide +kernel) rfl rfl (Nat.le_of_ble_eq_true rfl) (mGW (List.mem_of_getElem? (i := 324) (by decide +kernel)) rfl) d_TextI_14 ?_
  refine b_ret C (by decide) (by decide) rfl (fun k hk => ?_) d_TextI_17
  by_cases e : k = b
  · rw [e, oB_eq, fB_in (by omega) (by omega), enc5 Γ _ hb]
    unfold fl5
    rw [show D0 b 1 = -1 from by unfold D0; rw [if_pos (by omega)]; rfl]
    rfl
  · rw [oB_ne e]
    by_cases h1 : k < b
    · rw [fB_out (Or.inl h1)]
    · rw [fB_in (by omega) (by omega), hE k (by omega) (by omega)]
      have h2 := hL (k - (b + 1)) (by omega)
      rw [show b + 1 + (k - (b + 1)) = k by omega] at h2
      exact bl_d h2.1 (by decide) h2.2.2.1 h2.2.2.2
def yI_Bed : MethodName := ⟨"RiverTuesdays$Bed", "<init>", "()V"⟩
theorem okI_Bed : okI yI_Bed prog_2_method_1_code 1 8 0 cT0 cY0 := ⟨⟨rfl, by decide, cW0, cYo0, by decide +kernel⟩, (mGW (List.mem_of_getElem? (i := 107) (by decide +kernel)) rfl), (mGW (List.mem_of_getElem? (i := 76) (by decide +kernel)) rfl), (mGW (List.mem_of_getElem? (i := 109) (by decide +kernel)) rfl), (mGW (List.mem_of_getElem? (i := 110) (by decide +kernel)) rfl), ⟨by decide, by decide, by decide +kernel⟩, rfl⟩
theorem oi_Bed : Cond.methodLink "RiverTuesdays$Bed" 3 objectInit ∈ GW := (mGW (List.mem_of_getElem? (i := 111) (by decide +kernel)) rfl)
theorem d_BedI_0 : decode prog_2_method_1_code 0 = .ok (.aload_n 0, 1) := by decide +kernel
theorem d_BedI_1 : decode prog_2_method_1_code 1 = .ok (.invokespecial 3, 3) := by decide +kernel
theorem d_BedI_4 : decode prog_2_method_1_code 4 = .ok (.aload_n 0, 1) := by decide +kernel
theorem d_BedI_5 : decode prog_2_method_1_code 5 = .ok (.bipush 8, 2) := by decide +kernel
theorem d_BedI_7 : decode prog_2_method_1_code 7 = .ok (.newarray .int, 2) := by decide +kernel
theorem d_BedI_9 : decode prog_2_method_1_code 9 = .ok (.putfield 9, 3) := by decide +kernel
theorem d_BedI_12 : decode prog_2_method_1_code 12 = .ok (.aload_n 0, 1) := by decide +kernel
theorem d_BedI_13 : decode prog_2_method_1_code 13 = .ok (.bipush 8, 2) := by decide +kernel
theorem d_BedI_15 : decode prog_2_method_1_code 15 = .ok (.newarray .int, 2) := by decide +kernel
theorem d_BedI_17 : decode prog_2_method_1_code 17 = .ok (.putfield 15, 3) := by decide +kernel
theorem d_BedI_20 : decode prog_2_method_1_code 20 = .ok (.aload_n 0, 1) := by decide +kernel
theorem d_BedI_21 : decode prog_2_method_1_code 21 = .ok (.bipush 8, 2) := by decide +kernel
theorem d_BedI_23 : decode prog_2_method_1_code 23 = .ok (.newarray .int, 2) := by decide +kernel
theorem d_BedI_25 : decode prog_2_method_1_code 25 = .ok (.putfield 18, 3) := by decide +kernel
theorem d_BedI_28 : decode prog_2_method_1_code 28 = .ok (.aload_n 0, 1) := by decide +kernel
theorem d_BedI_29 : decode prog_2_method_1_code 29 = .ok (.bipush 8, 2) := by decide +kernel
theorem d_BedI_31 : decode prog_2_method_1_code 31 = .ok (.newarray .int, 2) := by decide +kernel
theorem d_BedI_33 : decode prog_2_method_1_code 33 = .ok (.putfield 21, 3) := by decide +kernel
theorem d_BedI_36 : decode prog_2_method_1_code 36 = .ok (.aload_n 0, 1) := by decide +kernel
theorem d_BedI_37 : decode prog_2_method_1_code 37 = .ok (.bipush 8, 2) := by decide +kernel
theorem d_BedI_39 : decode prog_2_method_1_code 39 = .ok (.newarray .int, 2) := by decide +kernel
theorem d_BedI_41 : decode prog_2_method_1_code 41 = .ok (.putfield 24, 3) := by decide +kernel
theorem d_BedI_44 : decode prog_2_method_1_code 44 = .ok (.return_, 1) := by decide +kernel
theorem kL_Bed : ∀ b, b < 211 → kd b = 0 → ∀ j, j < 5 → kd (b + 1 + j) = 11 ∧ ln (b + 1 + j) = 8 ∧ b + 1 + j ≠ 178 ∧ b + 1 + j ≠ 181 := by decide +kernel
theorem c_Bed_init (Γ : GmT) {b : Nat} (hb : kd b = 0) : CtB Γ yI_Bed prog_2_method_1_code 1 1 5 40 b 6 := by
  have hL := kL_Bed b (kd_lt (by omega)) hb
  intro E hE
  refine MtB_of rfl rfl (Nat.le_of_ble_eq_true rfl) fun G C => ?_
  have h0 : E b = .inr (0, dfl 0) := (hE _ (by omega) (by omega)).trans (bl_o hb (by decide))
  rw [← oB_self h0]
  refine b_aload C 0 d_BedI_0 rfl rfl ?_
  refine b_objInit C oi_Bed (by decide) ow1 ow2 d_BedI_1 ?_
  refine b_aload C 0 d_BedI_4 rfl rfl ?_
  refine b_bipush C d_BedI_5 (v := 8) rfl ?_
  refine b_newa C (t := 11) (N := 8) (q := 1) (ty := .int) rfl rfl (fun _ _ h => h) rfl acw_int (by decide) (by decide) (by decide) ((oB_ne (by omega)).trans ((hE _ (by omega) (by omega)).trans (bl_a ⟨(hL 0 (by decide)).1, (hL 0 (by decide)).2.1⟩ (by decide)))) (by decide) (by decide) d_BedI_7 ?_
  refine b_putF C (ci := 0) (T := cT0) (N := 8) (Y := cY0) (ty := .array .int) (by omega) rfl cW0 cYo0 cD0 0 (by decide) rfl (by decide +kernel) rfl rfl (Nat.le_of_ble_eq_true rfl) (mGW (List.mem_of_getElem? (i := 112) (by decide +kernel)) rfl) d_BedI_9 ?_
  refine b_aload C 0 d_BedI_12 rfl rfl ?_
  refine b_bipush C d_BedI_13 (v := 8) rfl ?_
  refine b_newa C (t := 11) (N := 8) (q := 1) (ty := .int) rfl rfl (fun _ _ h => h) rfl acw_int (by decide) (by decide) (by decide) ((oB_ne (by omega)).trans ((hE _ (by omega) (by omega)).trans (bl_a ⟨(hL 1 (by decide)).1, (hL 1 (by decide)).2.1⟩ (by decide)))) (by decide) (by decide) d_BedI_15 ?_
  refine b_putF C (ci := 0) (T := cT0) (N := 8) (Y := cY0) (ty := .array .int) (by omega) rfl cW0 cYo0 cD0 1 (by decide) rfl (by decide +kernel) rfl rfl (Nat.le_of_ble_eq_true rfl) (mGW (List.mem_of_getElem? (i := 115) (by decide +kernel)) rfl) d_BedI_17 ?_
  refine b_aload C 0 d_BedI_20 rfl rfl ?_
  refine b_bipush C d_BedI_21 (v := 8) rfl ?_
  refine b_newa C (t := 11) (N := 8) (q := 1) (ty := .int) rfl rfl (fun _ _ h => h) rfl acw_int (by decide) (by decide) (by decide) ((oB_ne (by omega)).trans ((hE _ (by omega) (by omega)).trans (bl_a ⟨(hL 2 (by decide)).1, (hL 2 (by decide)).2.1⟩ (by decide)))) (by decide) (by decide) d_BedI_23 ?_
  refine b_putF C (ci := 0) (T := cT0) (N := 8) (Y := cY0) (ty := .array .int) (by omega) rfl cW0 cYo0 cD0 2 (by decide) rfl (by decide +kernel) rfl rfl (Nat.le_of_ble_eq_true rfl) (mGW (List.mem_of_getElem? (i := 118) (by decide +kernel)) rfl) d_BedI_25 ?_
  refine b_aload C 0 d_BedI_28 rfl rfl ?_
  refine b_bipush C d_BedI_29 (v := 8) rfl ?_
  refine b_newa C (t := 11) (N := 8) (q := 1) (ty := .int) rfl rfl (fun _ _ h => h) rfl acw_int (by decide) (by decide) (by decide) ((oB_ne (by omega)).trans ((hE _ (by omega) (by omega)).trans (bl_a ⟨(hL 3 (by decide)).1, (hL 3 (by decide)).2.1⟩ (by decide)))) (by decide) (by decide) d_BedI_31 ?_
  refine b_putF C (ci := 0) (T := cT0) (N := 8) (Y := cY0) (ty := .array .int) (by omega) rfl cW0 cYo0 cD0 3 (by decide) rfl (by decide +kernel) rfl rfl (Nat.le_of_ble_eq_true rfl) (mGW (List.mem_of_getElem? (i := 122) (by decide +kernel)) rfl) d_BedI_33 ?_
  refine b_aload C 0 d_BedI_36 rfl rfl ?_
  refine b_bipush C d_BedI_37 (v := 8) rfl ?_
  refine b_newa C (t := 11) (N := 8) (q := 1) (ty := .int) rfl rfl (fun _ _ h => h) rfl acw_int (by decide) (by decide) (by decide) ((oB_ne (by omega)).trans ((hE _ (by omega) (by omega)).trans (bl_a ⟨(hL 4 (by decide)).1, (hL 4 (by decide)).2.1⟩ (by decide)))) (by decide) (by decide) d_BedI_39 ?_
  refine b_putF C (ci := 0) (T := cT0) (N := 8) (Y := cY0) (ty := .array .int) (by omega) rfl cW0 cYo0 cD0 4 (by decide) rfl (by decide +kernel) rfl rfl (Nat.le_of_ble_eq_true rfl) (mGW (List.mem_of_getElem? (i := 126) (by decide +kernel)) rfl) d_BedI_41 ?_
  refine b_ret C (by decide) (by decide) rfl (fun k hk => ?_) d_BedI_44
  by_cases e : k = b
  · rw [e, oB_eq, fB_in (by omega) (by omega), enc0 Γ _ hb, d0_z (by omega) (by omega) (fun h => by rw [h] at hb; exact absurd hb (by decide)) (fun h => by rw [h] at hb; exact absurd hb (by decide))]
    rfl
  · rw [oB_ne e]
    by_cases h1 : k < b
    · rw [fB_out (Or.inl h1)]
    · rw [fB_in (by omega) (by omega), hE k (by omega) (by omega)]
      have h2 := hL (k - (b + 1)) (by omega)
      rw [show b + 1 + (k - (b + 1)) = k by omega] at h2
      exact bl_d h2.1 (by decide) h2.2.2.1 h2.2.2.2
def yI_Waters : MethodName := ⟨"RiverTuesdays$Waters", "<init>", "()V"⟩
theorem okI_Waters : okI yI_Waters prog_9_method_1_code 1 7 7 cT7 cY7 := ⟨⟨rfl, by decide, cW7, cYo7, by decide +kernel⟩, (mGW (List.mem_of_getElem? (i := 160) (by decide +kernel)) rfl), (mGW (List.mem_of_getElem? (i := 77) (by decide +kernel)) rfl), (mGW (List.mem_of_getElem? (i := 162) (by decide +kernel)) rfl), (mGW (List.mem_of_getElem? (i := 163) (by decide +kernel)) rfl), ⟨by decide, by decide, by decide +kernel⟩, rfl⟩
theorem oi_Waters : Cond.methodLink "RiverTuesdays$Waters" 3 objectInit ∈ GW := (mGW (List.mem_of_getElem? (i := 164) (by decide +kernel)) rfl)
theorem d_WatersI_0 : decode prog_9_method_1_code 0 = .ok (.aload_n 0, 1) := by decide +kernel
theorem d_WatersI_1 : decode prog_9_method_1_code 1 = .ok (.invokespecial 3, 3) := by decide +kernel
theorem d_WatersI_4 : decode prog_9_method_1_code 4 = .ok (.aload_n 0, 1) := by decide +kernel
theorem d_WatersI_5 : decode prog_9_method_1_code 5 = .ok (.bipush 8, 2) := by decide +kernel
theorem d_WatersI_7 : decode prog_9_method_1_code 7 = .ok (.newarray .int, 2) := by decide +kernel
theorem d_WatersI_9 : decode prog_9_method_1_code 9 = .ok (.putfield 9, 3) := by decide +kernel
theorem d_WatersI_12 : decode prog_9_method_1_code 12 = .ok (.aload_n 0, 1) := by decide +kernel
theorem d_WatersI_13 : decode prog_9_method_1_code 13 = .ok (.bipush 8, 2) := by decide +kernel
theorem d_WatersI_15 : decode prog_9_method_1_code 15 = .ok (.newarray .int, 2) := by decide +kernel
theorem d_WatersI_17 : decode prog_9_method_1_code 17 = .ok (.putfield 15, 3) := by decide +kernel
theorem d_WatersI_20 : decode prog_9_method_1_code 20 = .ok (.aload_n 0, 1) := by decide +kernel
theorem d_WatersI_21 : decode prog_9_method_1_code 21 = .ok (.bipush 8, 2) := by decide +kernel
theorem d_WatersI_23 : decode prog_9_method_1_code 23 = .ok (.newarray .int, 2) := by decide +kernel
theorem d_WatersI_25 : decode prog_9_method_1_code 25 = .ok (.putfield 18, 3) := by decide +kernel
theorem d_WatersI_28 : decode prog_9_method_1_code 28 = .ok (.aload_n 0, 1) := by decide +kernel
theorem d_WatersI_29 : decode prog_9_method_1_code 29 = .ok (.bipush 8, 2) := by decide +kernel
theorem d_WatersI_31 : decode prog_9_method_1_code 31 = .ok (.newarray .int, 2) := by decide +kernel
theorem d_WatersI_33 : decode prog_9_method_1_code 33 = .ok (.putfield 21, 3) := by decide +kernel
theorem d_WatersI_36 : decode prog_9_method_1_code 36 = .ok (.aload_n 0, 1) := by decide +kernel
theorem d_WatersI_37 : decode prog_9_method_1_code 37 = .ok (.bipush 8, 2) := by decide +kernel
theorem d_WatersI_39 : decode prog_9_method_1_code 39 = .ok (.newarray .int, 2) := by decide +kernel
theorem d_WatersI_41 : decode prog_9_method_1_code 41 = .ok (.putfield 24, 3) := by decide +kernel
theorem d_WatersI_44 : decode prog_9_method_1_code 44 = .ok (.return_, 1) := by decide +kernel
theorem kL_Waters : ∀ b, b < 211 → kd b = 7 → ∀ j, j < 5 → kd (b + 1 + j) = 11 ∧ ln (b + 1 + j) = 8 ∧ b + 1 + j ≠ 178 ∧ b + 1 + j ≠ 181 := by decide +kernel
theorem c_Waters_init (Γ : GmT) {b : Nat} (hb : kd b = 7) : CtB Γ yI_Waters prog_9_method_1_code 1 1 5 40 b 6 := by
  have hL := kL_Waters b (kd_lt (by omega)) hb
  intro E hE
  refine MtB_of rfl rfl (Nat.le_of_ble_eq_true rfl) fun G C => ?_
  have h0 : E b = .inr (7, dfl 7) := (hE _ (by omega) (by omega)).trans (bl_o hb (by decide))
  rw [← oB_self h0]
  refine b_aload C 0 d_WatersI_0 rfl rfl ?_
  refine b_objInit C oi_Waters (by decide) ow1 ow2 d_WatersI_1 ?_
  refine b_aload C 0 d_WatersI_4 rfl rfl ?_
  refine b_bipush C d_WatersI_5 (v := 8) rfl ?_
  refine b_newa C (t := 11) (N := 8) (q := 1) (ty := .int) rfl rfl (fun _ _ h => h) rfl acw_int (by decide) (by decide) (by decide) ((oB_ne (by omega)).trans ((hE _ (by omega) (by omega)).trans (bl_a ⟨(hL 0 (by decide)).1, (hL 0 (by decide)).2.1⟩ (by decide)))) (by decide) (by decide) d_WatersI_7 ?_
  refine b_putF C (ci := 7) (T := cT7) (N := 7) (Y := cY7) (ty := .array .int) (by omega) rfl cW7 cYo7 cD7 0 (by decide) rfl (by decide +kernel) rfl rfl (Nat.le_of_ble_eq_true rfl) (mGW (List.mem_of_getElem? (i := 165) (by decide +kernel)) rfl) d_WatersI_9 ?_
  refine b_aload C 0 d_WatersI_12 rfl rfl ?_
  refine b_bipush C d_WatersI_13 (v := 8) rfl ?_
  refine b_newa C (t := 11) (N := 8) (q := 1) (ty := .int) rfl rfl (fun _ _ h => h) rfl acw_int (by decide) (by decide) (by decide) ((oB_ne (by omega)).trans ((hE _ (by omega) (by omega)).trans (bl_a ⟨(hL 1 (by decide)).1, (hL 1 (by decide)).2.1⟩ (by decide)))) (by decide) (by decide) d_WatersI_15 ?_
  refine b_putF C (ci := 7) (T := cT7) (N := 7) (Y := cY7) (ty := .array .int) (by omega) rfl cW7 cYo7 cD7 1 (by decide) rfl (by decide +kernel) rfl rfl (Nat.le_of_ble_eq_true rfl) (mGW (List.mem_of_getElem? (i := 168) (by decide +kernel)) rfl) d_WatersI_17 ?_
  refine b_aload C 0 d_WatersI_20 rfl rfl ?_
  refine b_bipush C d_WatersI_21 (v := 8) rfl ?_
  refine b_newa C (t := 11) (N := 8) (q := 1) (ty := .int) rfl rfl (fun _ _ h => h) rfl acw_int (by decide) (by decide) (by decide) ((oB_ne (by omega)).trans ((hE _ (by omega) (by omega)).trans (bl_a ⟨(hL 2 (by decide)).1, (hL 2 (by decide)).2.1⟩ (by decide)))) (by decide) (by decide) d_WatersI_23 ?_
  refine b_putF C (ci := 7) (T := cT7) (N := 7) (Y := cY7) (ty := .array .int) (by omega) rfl cW7 cYo7 cD7 2 (by decide) rfl (by decide +kernel) rfl rfl (Nat.le_of_ble_eq_true rfl) (mGW (List.mem_of_getElem? (i := 171) (by decide +kernel)) rfl) d_WatersI_25 ?_
  refine b_aload C 0 d_WatersI_28 rfl rfl ?_
  refine b_bipush C d_WatersI_29 (v := 8) rfl ?_
  refine b_newa C (t := 11) (N := 8) (q := 1) (ty := .int) rfl rfl (fun _ _ h => h) rfl acw_int (by decide) (by decide) (by decide) ((oB_ne (by omega)).trans ((hE _ (by omega) (by omega)).trans (bl_a ⟨(hL 3 (by decide)).1, (hL 3 (by decide)).2.1⟩ (by decide)))) (by decide) (by decide) d_WatersI_31 ?_
  refine b_putF C (ci := 7) (T := cT7) (N := 7) (Y := cY7) (ty := .array .int) (by omega) rfl cW7 cYo7 cD7 3 (by decide) rfl (by decide +kernel) rfl rfl (Nat.le_of_ble_eq_true rfl) (mGW (List.mem_of_getElem? (i := 173) (by decide +kernel)) rfl) d_WatersI_33 ?_
  refine b_aload C 0 d_WatersI_36 rfl rfl ?_
  refine b_bipush C d_WatersI_37 (v := 8) rfl ?_
  refine b_newa C (t := 11) (N := 8) (q := 1) (ty := .int) rfl rfl (fun _ _ h => h) rfl acw_int (by decide) (by decide) (by decide) ((oB_ne (by omega)).trans ((hE _ (by omega) (by omega)).trans (bl_a ⟨(hL 4 (by decide)).1, (hL 4 (by decide)).2.1⟩ (by decide)))) (by decide) (by decide) d_WatersI_39 ?_
  refine b_putF C (ci := 7) (T := cT7) (N := 7) (Y := cY7) (ty := .array .int) (by omega) rfl cW7 cYo7 cD7 4 (by decide) rfl (by decide +kernel) rfl rfl (Nat.le_of_ble_eq_true rfl) (mGW (List.mem_of_getElem? (i := 175) (by decide +kernel)) rfl) d_WatersI_41 ?_
  refine b_ret C (by decide) (by decide) rfl (fun k hk => ?_) d_WatersI_44
  by_cases e : k = b
  · rw [e, oB_eq, fB_in (by omega) (by omega), enc7 Γ _ hb, d0_z (by omega) (by omega) (fun h => by rw [h] at hb; exact absurd hb (by decide)) (fun h => by rw [h] at hb; exact absurd hb (by decide))]
    rfl
  · rw [oB_ne e]
    by_cases h1 : k < b
    · rw [fB_out (Or.inl h1)]
    · rw [fB_in (by omega) (by omega), hE k (by omega) (by omega)]
      have h2 := hL (k - (b + 1)) (by omega)
      rw [show b + 1 + (k - (b + 1)) = k by omega] at h2
      exact bl_d h2.1 (by decide) h2.2.2.1 h2.2.2.2
def yI_Fits : MethodName := ⟨"RiverTuesdays$Fits", "<init>", "()V"⟩
theorem okI_Fits : okI yI_Fits prog_3_method_1_code 1 4 1 cT1 cY1 := ⟨⟨rfl, by decide, cW1, cYo1, by decide +kernel⟩, (mGW (List.mem_of_getElem? (i := 257) (by decide +kernel)) rfl), (mGW (List.mem_of_getElem? (i := 79) (by decide +kernel)) rfl), (mGW (List.mem_of_getElem? (i := 259) (by decide +kernel)) rfl), (mGW (List.mem_of_getElem? (i := 260) (by decide +kernel)) rfl), ⟨by decide, by decide, by decide +kernel⟩, rfl⟩
theorem oi_Fits : Cond.methodLink "RiverTuesdays$Fits" 3 objectInit ∈ GW := (mGW (List.mem_of_getElem? (i := 261) (by decide +kernel)) rfl)
theorem d_FitsI_0 : decode prog_3_method_1_code 0 = .ok (.aload_n 0, 1) := by decide +kernel
theorem d_FitsI_1 : decode prog_3_method_1_code 1 = .ok (.invokespecial 3, 3) := by decide +kernel
theorem d_FitsI_4 : decode prog_3_method_1_code 4 = .ok (.aload_n 0, 1) := by decide +kernel
theorem d_FitsI_5 : decode prog_3_method_1_code 5 = .ok (.sipush 256, 3) := by decide +kernel
theorem d_FitsI_8 : decode prog_3_method_1_code 8 = .ok (.newarray .int, 2) := by decide +kernel
theorem d_FitsI_10 : decode prog_3_method_1_code 10 = .ok (.putfield 9, 3) := by decide +kernel
theorem d_FitsI_13 : decode prog_3_method_1_code 13 = .ok (.aload_n 0, 1) := by decide +kernel
theorem d_FitsI_14 : decode prog_3_method_1_code 14 = .ok (.sipush 2048, 3) := by decide +kernel
theorem d_FitsI_17 : decode prog_3_method_1_code 17 = .ok (.newarray .int, 2) := by decide +kernel
theorem d_FitsI_19 : decode prog_3_method_1_code 19 = .ok (.putfield 15, 3) := by decide +kernel
theorem d_FitsI_22 : decode prog_3_method_1_code 22 = .ok (.aload_n 0, 1) := by decide +kernel
theorem d_FitsI_23 : decode prog_3_method_1_code 23 = .ok (.sipush 1000, 3) := by decide +kernel
theorem d_FitsI_26 : decode prog_3_method_1_code 26 = .ok (.newarray .int, 2) := by decide +kernel
theorem d_FitsI_28 : decode prog_3_method_1_code 28 = .ok (.putfield 18, 3) := by decide +kernel
theorem d_FitsI_31 : decode prog_3_method_1_code 31 = .ok (.return_, 1) := by decide +kernel
theorem kL_Fits : ∀ j, j < 3 → kd (100 + 1 + j) = 11 ∧ 100 + 1 + j ≠ 178 ∧ 100 + 1 + j ≠ 181 := by decide +kernel
theorem c_Fits_init (Γ : GmT) : CtB Γ yI_Fits prog_3_method_1_code 1 1 3 3304 100 4 := by
  have hb : kd 100 = 1 := by decide +kernel
  have hL := kL_Fits
  intro E hE
  refine MtB_of rfl rfl (Nat.le_of_ble_eq_true rfl) fun G C => ?_
  have h0 : E 100 = .inr (1, dfl 1) := (hE _ (by omega) (by omega)).trans (bl_o hb (by decide))
  rw [← oB_self h0]
  refine b_aload C 0 d_FitsI_0 rfl rfl ?_
  refine b_objInit C oi_Fits (by decide) ow1 ow2 d_FitsI_1 ?_
  refine b_aload C 0 d_FitsI_4 rfl rfl ?_
  refine b_sipush C d_FitsI_5 (v := 256) rfl ?_
  refine b_newa C (t := 11) (N := 256) (q := 1) (ty := .int) rfl rfl (fun _ _ h => h) rfl acw_int (by decide) (by decide) (by decide) ((oB_ne (by omega)).trans ((hE _ (by omega) (by omega)).trans (bl_a (show isA 11 (100 + 1 + 0) 256 from ⟨by decide +kernel, by decide +kernel⟩) (by decide)))) (by decide) (by decide) d_FitsI_8 ?_
  refine b_putF C (ci := 1) (T := cT1) (N := 4) (Y := cY1) (ty := .array .int) (by omega) rfl cW1 cYo1 cD1 0 (by decide) rfl (by decide +kernel) rfl rfl (Nat.le_of_ble_eq_true rfl) (mGW (List.mem_of_getElem? (i := 262) (by decide +kernel)) rfl) d_FitsI_10 ?_
  refine b_aload C 0 d_FitsI_13 rfl rfl ?_
  refine b_sipush C d_FitsI_14 (v := 2048) rfl ?_
  refine b_newa C (t := 11) (N := 2048) (q := 1) (ty := .int) rfl rfl (fun _ _ h => h) rfl acw_int (by decide) (by decide) (by decide) ((oB_ne (by omega)).trans ((hE _ (by omega) (by omega)).trans (bl_a (show isA 11 (100 + 1 + 1) 2048 from ⟨by decide +kernel, by decide +kernel⟩) (by decide)))) (by decide) (by decide) d_FitsI_17 ?_
  refine b_putF C (ci := 1) (T := cT1) (N := 4) (Y := cY1) (ty := .array .int) (by omega) rfl cW1 cYo1 cD1 1 (by decide) rfl (by decide +kernel) rfl rfl (Nat.le_of_ble_eq_true rfl) (mGW (List.mem_of_getElem? (i := 263) (by decide +kernel)) rfl) d_FitsI_19 ?_
  refine b_aload C 0 d_FitsI_22 rfl rfl ?_
  refine b_sipush C d_FitsI_23 (v := 1000) rfl ?_
  refine b_newa C (t := 11) (N := 1000) (q := 1) (ty := .int) rfl rfl (fun _ _ h => h) rfl acw_int (by decide) (by decide) (by decide) ((oB_ne (by omega)).trans ((hE _ (by omega) (by omega)).trans (bl_a (show isA 11 (100 + 1 + 2) 1000 from ⟨by decide +kernel, by decide +kernel⟩) (by decide)))) (by decide) (by decide) d_FitsI_26 ?_
  refine b_putF C (ci := 1) (T := cT1) (N := 4) (Y := cY1) (ty := .array .int) (by omega) rfl cW1 cYo1 cD1 2 (by decide) rfl (by decide +kernel) rfl rfl (Nat.le_of_ble_eq_true rfl) (mGW (List.mem_of_getElem? (i := 264) (by decide +kernel)) rfl) d_FitsI_28 ?_
  refine b_ret C (by decide) (by decide) rfl (fun k hk => ?_) d_FitsI_31
  by_cases e : k = 100
  · rw [e, oB_eq, fB_in (by omega) (by omega), enc1 Γ _ hb, d0_z (by omega) (by omega) (fun h => by rw [h] at hb; exact absurd hb (by decide)) (fun h => by rw [h] at hb; exact absurd hb (by decide))]
    rfl
  · rw [oB_ne e]
    by_cases h1 : k < 100
    · rw [fB_out (Or.inl h1)]
    · rw [fB_in (by omega) (by omega), hE k (by omega) (by omega)]
      have h2 := hL (k - (100 + 1)) (by omega)
      rw [show 100 + 1 + (k - (100 + 1)) = k by omega] at h2
      exact bl_d h2.1 (by decide) h2.2.1 h2.2.2
def yI_Jobs : MethodName := ⟨"RiverTuesdays$Jobs", "<init>", "()V"⟩
theorem okI_Jobs : okI yI_Jobs prog_4_method_1_code 1 5 2 cT2 cY2 := ⟨⟨rfl, by decide, cW2, cYo2, by decide +kernel⟩, (mGW (List.mem_of_getElem? (i := 277) (by decide +kernel)) rfl), (mGW (List.mem_of_getElem? (i := 80) (by decide +kernel)) rfl), (mGW (List.mem_of_getElem? (i := 279) (by decide +kernel)) rfl), (mGW (List.mem_of_getElem? (i := 280) (by decide +kernel)) rfl), ⟨by decide, by decide, by decide +kernel⟩, rfl⟩
theorem oi_Jobs : Cond.methodLink "RiverTuesdays$Jobs" 3 objectInit ∈ GW := (mGW (List.mem_of_getElem? (i := 281) (by decide +kernel)) rfl)
theorem d_JobsI_0 : decode prog_4_method_1_code 0 = .ok (.aload_n 0, 1) := by decide +kernel
theorem d_JobsI_1 : decode prog_4_method_1_code 1 = .ok (.invokespecial 3, 3) := by decide +kernel
theorem d_JobsI_4 : decode prog_4_method_1_code 4 = .ok (.aload_n 0, 1) := by decide +kernel
theorem d_JobsI_5 : decode prog_4_method_1_code 5 = .ok (.bipush 6, 2) := by decide +kernel
theorem d_JobsI_7 : decode prog_4_method_1_code 7 = .ok (.newarray .int, 2) := by decide +kernel
theorem d_JobsI_9 : decode prog_4_method_1_code 9 = .ok (.putfield 9, 3) := by decide +kernel
theorem d_JobsI_12 : decode prog_4_method_1_code 12 = .ok (.aload_n 0, 1) := by decide +kernel
theorem d_JobsI_13 : decode prog_4_method_1_code 13 = .ok (.bipush 6, 2) := by decide +kernel
theorem d_JobsI_15 : decode prog_4_method_1_code 15 = .ok (.newarray .int, 2) := by decide +kernel
theorem d_JobsI_17 : decode prog_4_method_1_code 17 = .ok (.putfield 15, 3) := by decide +kernel
theorem d_JobsI_20 : decode prog_4_method_1_code 20 = .ok (.aload_n 0, 1) := by decide +kernel
theorem d_JobsI_21 : decode prog_4_method_1_code 21 = .ok (.bipush 6, 2) := by decide +kernel
theorem d_JobsI_23 : decode prog_4_method_1_code 23 = .ok (.newarray .int, 2) := by decide +kernel
theorem d_JobsI_25 : decode prog_4_method_1_code 25 = .ok (.putfield 18, 3) := by decide +kernel
theorem d_JobsI_28 : decode prog_4_method_1_code 28 = .ok (.aload_n 0, 1) := by decide +kernel
theorem d_JobsI_29 : decode prog_4_method_1_code 29 = .ok (.bipush 6, 2) := by decide +kernel
theorem d_JobsI_31 : decode prog_4_method_1_code 31 = .ok (.newarray .int, 2) := by decide +kernel
theorem d_JobsI_33 : decode prog_4_method_1_code 33 = .ok (.putfield 21, 3) := by decide +kernel
theorem d_JobsI_36 : decode prog_4_method_1_code 36 = .ok (.return_, 1) := by decide +kernel
theorem kL_Jobs : ∀ j, j < 4 → kd (104 + 1 + j) = 11 ∧ 104 + 1 + j ≠ 178 ∧ 104 + 1 + j ≠ 181 := by decide +kernel
theorem c_Jobs_init (Γ : GmT) : CtB Γ yI_Jobs prog_4_method_1_code 1 1 4 24 104 5 := by
  have hb : kd 104 = 2 := by decide +kernel
  have hL := kL_Jobs
  intro E hE
  refine MtB_of rfl rfl (Nat.le_of_ble_eq_true rfl) fun G C => ?_
  have h0 : E 104 = .inr (2, dfl 2) := (hE _ (by omega) (by omega)).trans (bl_o hb (by decide))
  rw [← oB_self h0]
  refine b_aload C 0 d_JobsI_0 rfl rfl ?_
  refine b_objInit C oi_Jobs (by decide) ow1 ow2 d_JobsI_1 ?_
  refine b_aload C 0 d_JobsI_4 rfl rfl ?_
  refine b_bipush C d_JobsI_5 (v := 6) rfl ?_
  refine b_newa C (t := 11) (N := 6) (q := 1) (ty := .int) rfl rfl (fun _ _ h => h) rfl acw_int (by decide) (by decide) (by decide) ((oB_ne (by omega)).trans ((hE _ (by omega) (by omega)).trans (bl_a (show isA 11 (104 + 1 + 0) 6 from ⟨by decide +kernel, by decide +kernel⟩) (by decide)))) (by decide) (by decide) d_JobsI_7 ?_
  refine b_putF C (ci := 2) (T := cT2) (N := 5) (Y := cY2) (ty := .array .int) (by omega) rfl cW2 cYo2 cD2 0 (by decide) rfl (by decide +kernel) rfl rfl (Nat.le_of_ble_eq_true rfl) (mGW (List.mem_of_getElem? (i := 282) (by decide +kernel)) rfl) d_JobsI_9 ?_
  refine b_aload C 0 d_JobsI_12 rfl rfl ?_
  refine b_bipush C d_JobsI_13 (v := 6) rfl ?_
  refine b_newa C (t := 11) (N := 6) (q := 1) (ty := .int) rfl rfl (fun _ _ h => h) rfl acw_int (by decide) (by decide) (by decide) ((oB_ne (by omega)).trans ((hE _ (by omega) (by omega)).trans (bl_a (show isA 11 (104 + 1 + 1) 6 from ⟨by decide +kernel, by decide +kernel⟩) (by decide)))) (by decide) (by decide) d_JobsI_15 ?_
  refine b_putF C (ci := 2) (T := cT2) (N := 5) (Y := cY2) (ty := .array .int) (by omega) rfl cW2 cYo2 cD2 1 (by decide) rfl (by decide +kernel) rfl rfl (Nat.le_of_ble_eq_true rfl) (mGW (List.mem_of_getElem? (i := 283) (by decide +kernel)) rfl) d_JobsI_17 ?_
  refine b_aload C 0 d_JobsI_20 rfl rfl ?_
  refine b_bipush C d_JobsI_21 (v := 6) rfl ?_
  refine b_newa C (t := 11) (N := 6) (q := 1) (ty := .int) rfl rfl (fun _ _ h => h) rfl acw_int (by decide) (by decide) (by decide) ((oB_ne (by omega)).trans ((hE _ (by omega) (by omega)).trans (bl_a (show isA 11 (104 + 1 + 2) 6 from ⟨by decide +kernel, by decide +kernel⟩) (by decide)))) (by decide) (by decide) d_JobsI_23 ?_
  refine b_putF C (ci := 2) (T := cT2) (N := 5) (Y := cY2) (ty := .array .int) (by omega) rfl cW2 cYo2 cD2 2 (by decide) rfl (by decide +kernel) rfl rfl (Nat.le_of_ble_eq_true rfl) (mGW (List.mem_of_getElem? (i := 284) (by decide +kernel)) rfl) d_JobsI_25 ?_
  refine b_aload C 0 d_JobsI_28 rfl rfl ?_
  refine b_bipush C d_JobsI_29 (v := 6) rfl ?_
  refine b_newa C (t := 11) (N := 6) (q := 1) (ty := .int) rfl rfl (fun _ _ h => h) rfl acw_int (by decide) (by decide) (by decide) ((oB_ne (by omega)).trans ((hE _ (by omega) (by omega)).trans (bl_a (show isA 11 (104 + 1 + 3) 6 from ⟨by decide +kernel, by decide +kernel⟩) (by decide)))) (by decide) (by decide) d_JobsI_31 ?_
  refine b_putF C (ci := 2) (T := cT2) (N := 5) (Y := cY2) (ty := .array .int) (by omega) rfl cW2 cYo2 cD2 3 (by decide) rfl (by decide +kernel) rfl rfl (Nat.le_of_ble_eq_true rfl) (mGW (List.mem_of_getElem? (i := 285) (by decide +kernel)) rfl) d_JobsI_33 ?_
  refine b_ret C (by decide) (by decide) rfl (fun k hk => ?_) d_JobsI_36
  by_cases e : k = 104
  · rw [e, oB_eq, fB_in (by omega) (by omega), enc2 Γ _ hb, d0_z (by omega) (by omega) (fun h => by rw [h] at hb; exact absurd hb (by decide)) (fun h => by rw [h] at hb; exact absurd hb (by decide))]
    rfl
  · rw [oB_ne e]
    by_cases h1 : k < 104
    · rw [fB_out (Or.inl h1)]
    · rw [fB_in (by omega) (by omega), hE k (by omega) (by omega)]
      have h2 := hL (k - (104 + 1)) (by omega)
      rw [show 104 + 1 + (k - (104 + 1)) = k by omega] at h2
      exact bl_d h2.1 (by decide) h2.2.1 h2.2.2
def yI_Street : MethodName := ⟨"RiverTuesdays$Street", "<init>", "()V"⟩
theorem okI_Street : okI yI_Street prog_6_method_1_code 1 5 4 cT4 cY4 := ⟨⟨rfl, by decide, cW4, cYo4, by decide +kernel⟩, (mGW (List.mem_of_getElem? (i := 101) (by decide +kernel)) rfl), (mGW (List.mem_of_getElem? (i := 75) (by decide +kernel)) rfl), (mGW (List.mem_of_getElem? (i := 103) (by decide +kernel)) rfl), (mGW (List.mem_of_getElem? (i := 104) (by decide +kernel)) rfl), ⟨by decide, by decide, by decide +kernel⟩, rfl⟩
theorem oi_Street : Cond.methodLink "RiverTuesdays$Street" 3 objectInit ∈ GW := (mGW (List.mem_of_getElem? (i := 105) (by decide +kernel)) rfl)
theorem d_StreetI_0 : decode prog_6_method_1_code 0 = .ok (.aload_n 0, 1) := by decide +kernel
theorem d_StreetI_1 : decode prog_6_method_1_code 1 = .ok (.invokespecial 3, 3) := by decide +kernel
theorem d_StreetI_4 : decode prog_6_method_1_code 4 = .ok (.aload_n 0, 1) := by decide +kernel
theorem d_StreetI_5 : decode prog_6_method_1_code 5 = .ok (.new 9, 3) := by decide +kernel
theorem d_StreetI_8 : decode prog_6_method_1_code 8 = .ok (.dup, 1) := by decide +kernel
theorem d_StreetI_9 : decode prog_6_method_1_code 9 = .ok (.invokespecial 11, 3) := by decide +kernel
theorem d_StreetI_12 : decode prog_6_method_1_code 12 = .ok (.putfield 12, 3) := by decide +kernel
theorem d_StreetI_15 : decode prog_6_method_1_code 15 = .ok (.aload_n 0, 1) := by decide +kernel
theorem d_StreetI_16 : decode prog_6_method_1_code 16 = .ok (.new 18, 3) := by decide +kernel
theorem d_StreetI_19 : decode prog_6_method_1_code 19 = .ok (.dup, 1) := by decide +kernel
theorem d_StreetI_20 : decode prog_6_method_1_code 20 = .ok (.invokespecial 20, 3) := by decide +kernel
theorem d_StreetI_23 : decode prog_6_method_1_code 23 = .ok (.putfield 21, 3) := by decide +kernel
theorem d_StreetI_26 : decode prog_6_method_1_code 26 = .ok (.aload_n 0, 1) := by decide +kernel
theorem d_StreetI_27 : decode prog_6_method_1_code 27 = .ok (.sipush 1560, 3) := by decide +kernel
theorem d_StreetI_30 : decode prog_6_method_1_code 30 = .ok (.newarray .int, 2) := by decide +kernel
theorem d_StreetI_32 : decode prog_6_method_1_code 32 = .ok (.putfield 25, 3) := by decide +kernel
theorem d_StreetI_35 : decode prog_6_method_1_code 35 = .ok (.aload_n 0, 1) := by decide +kernel
theorem d_StreetI_36 : decode prog_6_method_1_code 36 = .ok (.bipush 60, 2) := by decide +kernel
theorem d_StreetI_38 : decode prog_6_method_1_code 38 = .ok (.newarray .int, 2) := by decide +kernel
theorem d_StreetI_40 : decode prog_6_method_1_code 40 = .ok (.putfield 29, 3) := by decide +kernel
theorem d_StreetI_43 : decode prog_6_method_1_code 43 = .ok (.return_, 1) := by decide +kernel
theorem kL_Street : ∀ b, b < 211 → kd b = 4 → kd (b + 1) = 0 ∧ kd (b + 1 + 6) = 7 ∧ (kd (b + 1 + 6 + 6) = 11 ∧ ln (b + 1 + 6 + 6) = 1560) ∧ (kd (b + 1 + 6 + 6 + 1) = 11 ∧ ln (b + 1 + 6 + 6 + 1) = 60) := by decide +kernel
theorem c_Street_init (Γ : GmT) {b : Nat} (hb : kd b = 4) : CtB Γ yI_Street prog_6_method_1_code 1 2 14 1715 b 15 := by
  obtain ⟨hL1, hL2, hL3, hL4⟩ := kL_Street b (kd_lt (by omega)) hb
  intro E hE
  refine MtB_of rfl rfl (Nat.le_of_ble_eq_true rfl) fun G C => ?_
  have h0 : E b = .inr (4, dfl 4) := (hE _ (by omega) (by omega)).trans (bl_o hb (by decide))
  rw [← oB_self h0]
  refine b_aload C 0 d_StreetI_0 rfl rfl ?_
  refine b_objInit C oi_Street (by decide) ow1 ow2 d_StreetI_1 ?_
  refine b_aload C 0 d_StreetI_4 rfl rfl ?_
  refine b_mk C okI_Bed (Or.inl (by decide +kernel)) (mGW (List.mem_of_getElem? (i := 106) (by decide +kernel)) rfl) hL1 (by omega) (by decide) (fun k h1 h2 => hE k (by omega) (by omega)) ⟨by decide, by decide⟩ (Nat.le_of_ble_eq_true rfl) (c_Bed_init Γ hL1) (by decide) (by decide) d_StreetI_5 d_StreetI_8 d_StreetI_9 ?_
  refine b_putF C (ci := 4) (T := cT4) (N := 5) (Y := cY4) (ty := .object "RiverTuesdays$Bed") (by omega) rfl cW4 cYo4 cD4 0 (by decide) rfl (by decide +kernel) rfl rfl (Nat.le_of_ble_eq_true rfl) (mGW (List.mem_of_getElem? (i := 198) (by decide +kernel)) rfl) d_StreetI_12 ?_
  refine b_aload C 0 d_StreetI_15 rfl rfl ?_
  refine b_mk C okI_Waters (Or.inl (by decide +kernel)) (mGW (List.mem_of_getElem? (i := 159) (by decide +kernel)) rfl) hL2 (by omega) (by decide) (fun k h1 h2 => (fB_out (Or.inr (by omega))).trans (hE k (by omega) (by omega))) ⟨by decide, by decide⟩ (Nat.le_of_ble_eq_true rfl) (c_Waters_init Γ hL2) (by decide) (by decide) d_StreetI_16 d_StreetI_19 d_StreetI_20 ?_
  refine b_putF C (ci := 4) (T := cT4) (N := 5) (Y := cY4) (ty := .object "RiverTuesdays$Waters") (by omega) rfl cW4 cYo4 cD4 1 (by decide) rfl (by decide +kernel) rfl rfl (Nat.le_of_ble_eq_true rfl) (mGW (List.mem_of_getElem? (i := 200) (by decide +kernel)) rfl) d_StreetI_23 ?_
  refine b_aload C 0 d_StreetI_26 rfl rfl ?_
  refine b_sipush C d_StreetI_27 (v := 1560) rfl ?_
  refine b_newa C (t := 11) (N := 1560) (q := 1) (ty := .int) rfl rfl (fun _ _ h => h) rfl acw_int (by decide) (by decide) (by decide) ((oB_ne (by omega)).trans ((fB_out (Or.inr (by omega))).trans ((fB_out (Or.inr (by omega))).trans ((hE _ (by omega) (by omega)).trans (bl_a hL3 (by decide)))))) (by decide) (by decide) d_StreetI_30 ?_
  refine b_putF C (ci := 4) (T := cT4) (N := 5) (Y := cY4) (ty := .array .int) (by omega) rfl cW4 cYo4 cD4 2 (by decide) rfl (by decide +kernel) rfl rfl (Nat.le_of_ble_eq_true rfl) (mGW (List.mem_of_getElem? (i := 202) (by decide +kernel)) rfl) d_StreetI_32 ?_
  refine b_aload C 0 d_StreetI_35 rfl rfl ?_
  refine b_bipush C d_StreetI_36 (v := 60) rfl ?_
  refine b_newa C (t := 11) (N := 60) (q := 1) (ty := .int) rfl rfl (fun _ _ h => h) rfl acw_int (by decide) (by decide) (by decide) ((oB_ne (by omega)).trans ((fB_out (Or.inr (by omega))).trans ((fB_out (Or.inr (by omega))).trans ((hE _ (by omega) (by omega)).trans (bl_a hL4 (by decide)))))) (by decide) (by decide) d_StreetI_38 ?_
  refine b_putF C (ci := 4) (T := cT4) (N := 5) (Y := cY4) (ty := .array .int) (by omega) rfl cW4 cYo4 cD4 3 (by decide) rfl (by decide +kernel) rfl rfl (Nat.le_of_ble_eq_true rfl) (mGW (List.mem_of_getElem? (i := 203) (by decide +kernel)) rfl) d_StreetI_40 ?_
  refine b_ret C (by decide) (by decide) rfl (fun k hk => ?_) d_StreetI_43
  by_cases e : k = b
  · rw [e, oB_eq, fB_in (by omega) (by omega), enc4 Γ _ hb, d0_z (by omega) (by omega) (fun h => by rw [h] at hb; exact absurd hb (by decide)) (fun h => by rw [h] at hb; exact absurd hb (by decide))]
    rfl
  · rw [oB_ne e]
    by_cases h1 : k < b
    · rw [fB_out (Or.inl (by omega)), fB_out (Or.inl (by omega)), fB_out (Or.inl h1)]
    · rw [fB_in (a := b) (sz := 15) (by omega) (by omega)]
      by_cases h2 : k < b + 1 + 6
      · rw [fB_out (Or.inl h2), fB_in (by omega) (by omega)]
      · by_cases h3 : k < b + 1 + 6 + 6
        · rw [fB_in (by omega) (by omega)]
        · rw [fB_out (Or.inr (by omega)), fB_out (Or.inr (by omega)), hE k (by omega) (by omega)]
          rcases (show k = b + 1 + 6 + 6 ∨ k = b + 1 + 6 + 6 + 1 by omega) with h4 | h4
          · rw [h4]; exact bl_d hL3.1 (by decide) (fun h => absurd hb (by rw [show b = 165 by omega]; decide)) (fun h => absurd hb (by rw [show b = 168 by omega]; decide))
          · rw [h4]; exact bl_d hL4.1 (by decide) (fun h => absurd hb (by rw [show b = 164 by omega]; decide)) (fun h => absurd hb (by rw [show b = 167 by omega]; decide))
