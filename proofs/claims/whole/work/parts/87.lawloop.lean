/-! the law: its loop -/
theorem d_law_18 : decode code 18 = .ok (.iload_n 3, 1) := by decide +kernel
theorem d_law_19 : decode code 19 = .ok (.aload_n 0, 1) := by decide +kernel
theorem d_law_20 : decode code 20 = .ok (.arraylength, 1) := by decide +kernel
theorem d_law_21 : decode code 21 = .ok (.bipush 6, 2) := by decide +kernel
theorem d_law_23 : decode code 23 = .ok (.isub, 1) := by decide +kernel
theorem d_law_24 : decode code 24 = .ok (.if_icmp .gt 1576, 3) := by decide +kernel
theorem d_law_27 : decode code 27 = .ok (.aload_n 0, 1) := by decide +kernel
theorem d_law_28 : decode code 28 = .ok (.iload_n 3, 1) := by decide +kernel
theorem d_law_29 : decode code 29 = .ok (.iaload, 1) := by decide +kernel
theorem d_law_30 : decode code 30 = .ok (.bipush 63, 2) := by decide +kernel
theorem d_law_32 : decode code 32 = .ok (.iand, 1) := by decide +kernel
theorem d_law_33 : decode code 33 = .ok (.tableswitch 1561 0 48 #[211, 244, 287, 320, 343, 406, 429, 462, 505, 528, 551, 584, 617, 650, 673, 706, 729, 752, 775, 788, 811, 834, 857, 880, 913, 946, 999, 1022, 1055, 1078, 1101, 1124, 1147, 1160, 1183, 1206, 1229, 1262, 1285, 1328, 1361, 1414, 1447, 1460, 1474, 1488, 1511, 1524, 1547], 211) := by decide +kernel
theorem d_law_1594 : decode code 1594 = .ok (.iinc 3 6, 3) := by decide +kernel
theorem d_law_1597 : decode code 1597 = .ok (.goto (-1579), 3) := by decide +kernel
theorem d_law_1600 : decode code 1600 = .ok (.iconst 1, 1) := by decide +kernel
theorem d_law_1601 : decode code 1601 = .ok (.ireturn, 1) := by decide +kernel
def tgN (k : Nat) : Nat := ([244, 277, 320, 353, 376, 439, 462, 495, 538, 561, 584, 617, 650, 683, 706, 739, 762, 785, 808, 821, 844, 867, 890, 913, 946, 979, 1032, 1055, 1088, 1111, 1134, 1157, 1180, 1193, 1216, 1239, 1262, 1295, 1318, 1361, 1394, 1447, 1480, 1493, 1507, 1521, 1544, 1557, 1580] : List Nat).getD k 0
def ofA : Array Int := #[211, 244, 287, 320, 343, 406, 429, 462, 505, 528, 551, 584, 617, 650, 673, 706, 729, 752, 775, 788, 811, 834, 857, 880, 913, 946, 999, 1022, 1055, 1078, 1101, 1124, 1147, 1160, 1183, 1206, 1229, 1262, 1285, 1328, 1361, 1414, 1447, 1460, 1474, 1488, 1511, 1524, 1547]
theorem tg_d : ∀ k : Nat, k < 49 → ofA[k]? = some ((tgN k : Int) - 33) := by decide +kernel
theorem law_case {Γ : GmT} {b L : Nat} {xs : Nat → Int32} {CL SL : Nat} {G : Dt → Nat → List (Nat × Value) → List Value → Prop} (C : LawG Γ b L xs CL SL G) {D : Dt} {i : Int32} (hI : Inv D) (hin : vp_in (i + 1) L ∧ vp_in (i + 2) L ∧ vp_in (i + 3) L ∧ vp_in (i + 4) L ∧ vp_in (i + 5) L) (next : ∀ D2, Inv D2 → G D2 1594 (lvL Γ b i) []) : ∀ k : Nat, k < 49 → G D (tgN k) (lvL Γ b i) []
  | 0, _ => law_c0 C hI hin next
  | 1, _ => law_c1 C hI hin next
  | 2, _ => law_c2 C hI hin next
  | 3, _ => law_c3 C hI hin next
  | 4, _ => law_c4 C hI hin next
  | 5, _ => law_c5 C hI hin next
  | 6, _ => law_c6 C hI hin next
  | 7, _ => law_c7 C hI hin next
  | 8, _ => law_c8 C hI hin next
  | 9, _ => law_c9 C hI hin next
  | 10, _ => law_c10 C hI hin next
  | 11, _ => law_c11 C hI hin next
  | 12, _ => law_c12 C hI hin next
  | 13, _ => law_c13 C hI hin next
  | 14, _ => law_c14 C hI hin next
  | 15, _ => law_c15 C hI hin next
  | 16, _ => law_c16 C hI hin next
  | 17, _ => law_c17 C hI hin next
  | 18, _ => law_c18 C hI hin next
  | 19, _ => law_c19 C hI hin next
  | 20, _ => law_c20 C hI hin next
  | 21, _ => law_c21 C hI hin next
  | 22, _ => law_c22 C hI hin next
  | 23, _ => law_c23 C hI hin next
  | 24, _ => law_c24 C hI hin next
  | 25, _ => law_c25 C hI hin next
  | 26, _ => law_c26 C hI hin next
  | 27, _ => law_c27 C hI hin next
  | 28, _ => law_c28 C hI hin next
  | 29, _ => law_c29 C hI hin next
  | 30, _ => law_c30 C hI hin next
  | 31, _ => law_c31 C hI hin next
  | 32, _ => law_c32 C hI hin next
  | 33, _ => law_c33 C hI hin next
  | 34, _ => law_c34 C hI hin next
  | 35, _ => law_c35 C hI hin next
  | 36, _ => law_c36 C hI hin next
  | 37, _ => law_c37 C hI hin next
  | 38, _ => law_c38 C hI hin next
  | 39, _ => law_c39 C hI hin next
  | 40, _ => law_c40 C hI hin next
  | 41, _ => law_c41 C hI hin next
  | 42, _ => law_c42 C hI hin next
  | 43, _ => law_c43 C hI hin next
  | 44, _ => law_c44 C hI hin next
  | 45, _ => law_c45 C hI hin next
  | 46, _ => law_c46 C hI hin next
  | 47, _ => law_c47 C hI hin next
  | 48, _ => law_c48 C hI hin next
  | k + 49, h => absurd h (by omega)
