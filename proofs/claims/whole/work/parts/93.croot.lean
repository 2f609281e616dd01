/-! the constructors: the Root (the Tuesday's as a premise) -/
def fA (Γ : GmT) (c0 d : Nat) (i : Nat) : Nat → Option Nat := fun j => if j < i then some (Γ.2.1 (c0 + d * j)) else none
theorem fA_0 {Γ : GmT} {c0 d : Nat} : fA Γ c0 d 0 = fun _ => none := by funext j; unfold fA; rw [if_neg (by omega)]
theorem fA_up {Γ : GmT} {c0 d : Nat} (i : Nat) : va_up (fA Γ c0 d i) i (some (Γ.2.1 (c0 + d * i))) = fA Γ c0 d (i + 1) := by
  funext j
  unfold va_up fA
  by_cases h : j = i
  · rw [if_pos h, if_pos (by omega), h]
  · rw [if_neg h]
    by_cases h2 : j < i
    · rw [if_pos h2, if_pos (by omega)]
    · rw [if_neg h2, if_neg (by omega)]
def yI_Tuesday : MethodName := ⟨"RiverTuesdays$Tuesday", "<init>", "()V"⟩
theorem okI_Tuesday : okI yI_Tuesday prog_8_method_1_code 2 6 6 cT6 cY6 := ⟨⟨rfl, by decide, cW6, cYo6, by decide +kernel⟩, (mGW (List.mem_of_getElem? (i := 223) (by decide +kernel)) rfl), (mGW (List.mem_of_getElem? (i := 78) (by decide +kernel)) rfl), (mGW (List.mem_of_getElem? (i := 225) (by decide +kernel)) rfl), (mGW (List.mem_of_getElem? (i := 226) (by decide +kernel)) rfl), ⟨by decide, by decide, by decide +kernel⟩, rfl⟩
theorem oi_Tuesday : Cond.methodLink "RiverTuesdays$Tuesday" 3 objectInit ∈ GW := (mGW (List.mem_of_getElem? (i := 227) (by decide +kernel)) rfl)
theorem d_TuesdayI_0 : decode prog_8_method_1_code 0 = .ok (.aload_n 0, 1) := by decide +kernel
theorem d_TuesdayI_1 : decode prog_8_method_1_code 1 = .ok (.invokespecial 3, 3) := by decide +kernel
theorem d_TuesdayI_4 : decode prog_8_method_1_code 4 = .ok (.aload_n 0, 1) := by decide +kernel
theorem d_TuesdayI_5 : decode prog_8_method_1_code 5 = .ok (.bipush 9, 2) := by decide +kernel
theorem d_TuesdayI_7 : decode prog_8_method_1_code 7 = .ok (.anewarray 9, 3) := by decide +kernel
theorem d_TuesdayI_10 : decode prog_8_method_1_code 10 = .ok (.putfield 11, 3) := by decide +kernel
theorem d_TuesdayI_13 : decode prog_8_method_1_code 13 = .ok (.aload_n 0, 1) := by decide +kernel
theorem d_TuesdayI_14 : decode prog_8_method_1_code 14 = .ok (.bipush 9, 2) := by decide +kernel
theorem d_TuesdayI_16 : decode prog_8_method_1_code 16 = .ok (.newarray .int, 2) := by decide +kernel
theorem d_TuesdayI_18 : decode prog_8_method_1_code 18 = .ok (.putfield 17, 3) := by decide +kernel
theorem d_TuesdayI_21 : decode prog_8_method_1_code 21 = .ok (.aload_n 0, 1) := by decide +kernel
theorem d_TuesdayI_22 : decode prog_8_method_1_code 22 = .ok (.bipush 9, 2) := by decide +kernel
theorem d_TuesdayI_24 : decode prog_8_method_1_code 24 = .ok (.newarray .int, 2) := by decide +kernel
theorem d_TuesdayI_26 : decode prog_8_method_1_code 26 = .ok (.putfield 21, 3) := by decide +kernel
theorem d_TuesdayI_29 : decode prog_8_method_1_code 29 = .ok (.aload_n 0, 1) := by decide +kernel
theorem d_TuesdayI_30 : decode prog_8_method_1_code 30 = .ok (.bipush 9, 2) := by decide +kernel
theorem d_TuesdayI_32 : decode prog_8_method_1_code 32 = .ok (.bipush 8, 2) := by decide +kernel
theorem d_TuesdayI_34 : decode prog_8_method_1_code 34 = .ok (.multianewarray 24 2, 4) := by decide +kernel
theorem d_TuesdayI_38 : decode prog_8_method_1_code 38 = .ok (.putfield 26, 3) := by decide +kernel
theorem d_TuesdayI_41 : decode prog_8_method_1_code 41 = .ok (.iconst 0, 1) := by decide +kernel
theorem d_TuesdayI_42 : decode prog_8_method_1_code 42 = .ok (.istore_n 1, 1) := by decide +kernel
theorem d_TuesdayI_43 : decode prog_8_method_1_code 43 = .ok (.iload_n 1, 1) := by decide +kernel
theorem d_TuesdayI_44 : decode prog_8_method_1_code 44 = .ok (.bipush 8, 2) := by decide +kernel
theorem d_TuesdayI_46 : decode prog_8_method_1_code 46 = .ok (.if_icmp .gt 22, 3) := by decide +kernel
theorem d_TuesdayI_49 : decode prog_8_method_1_code 49 = .ok (.aload_n 0, 1) := by decide +kernel
theorem d_TuesdayI_50 : decode prog_8_method_1_code 50 = .ok (.getfield 11, 3) := by decide +kernel
theorem d_TuesdayI_53 : decode prog_8_method_1_code 53 = .ok (.iload_n 1, 1) := by decide +kernel
theorem d_TuesdayI_54 : decode prog_8_method_1_code 54 = .ok (.new 9, 3) := by decide +kernel
theorem d_TuesdayI_57 : decode prog_8_method_1_code 57 = .ok (.dup, 1) := by decide +kernel
theorem d_TuesdayI_58 : decode prog_8_method_1_code 58 = .ok (.invokespecial 29, 3) := by decide +kernel
theorem d_TuesdayI_61 : decode prog_8_method_1_code 61 = .ok (.aastore, 1) := by decide +kernel
theorem d_TuesdayI_62 : decode prog_8_method_1_code 62 = .ok (.iinc 1 1, 3) := by decide +kernel
theorem d_TuesdayI_65 : decode prog_8_method_1_code 65 = .ok (.goto (-22), 3) := by decide +kernel
theorem d_TuesdayI_68 : decode prog_8_method_1_code 68 = .ok (.return_, 1) := by decide +kernel
def yI_Root : MethodName := ⟨"RiverTuesdays", "<init>", "()V"⟩
theorem okI_Root : okI yI_Root prog_1_method_1_code 2 14 8 cT8 cY8 := ⟨⟨rfl, by decide, cW8, cYo8, by decide +kernel⟩, (mGW (List.mem_of_getElem? (i := 89) (by decide +kernel)) rfl), (mGW (List.mem_of_getElem? (i := 74) (by decide +kernel)) rfl), (mGW (List.mem_of_getElem? (i := 91) (by decide +kernel)) rfl), (mGW (List.mem_of_getElem? (i := 92) (by decide +kernel)) rfl), ⟨by decide, by decide, by decide +kernel⟩, rfl⟩
theorem oi_Root : Cond.methodLink "RiverTuesdays" 1 objectInit ∈ GW := (mGW (List.mem_of_getElem? (i := 93) (by decide +kernel)) rfl)
theorem d_RootI_0 : decode prog_1_method_1_code 0 = .ok (.aload_n 0, 1) := by decide +kernel
theorem d_RootI_1 : decode prog_1_method_1_code 1 = .ok (.invokespecial 1, 3) := by decide +kernel
theorem d_RootI_4 : decode prog_1_method_1_code 4 = .ok (.aload_n 0, 1) := by decide +kernel
theorem d_RootI_5 : decode prog_1_method_1_code 5 = .ok (.bipush 6, 2) := by decide +kernel
theorem d_RootI_7 : decode prog_1_method_1_code 7 = .ok (.anewarray 9, 3) := by decide +kernel
theorem d_RootI_10 : decode prog_1_method_1_code 10 = .ok (.putfield 11, 3) := by decide +kernel
theorem d_RootI_13 : decode prog_1_method_1_code 13 = .ok (.aload_n 0, 1) := by decide +kernel
theorem d_RootI_14 : decode prog_1_method_1_code 14 = .ok (.iconst 4, 1) := by decide +kernel
theorem d_RootI_15 : decode prog_1_method_1_code 15 = .ok (.anewarray 15, 3) := by decide +kernel
theorem d_RootI_18 : decode prog_1_method_1_code 18 = .ok (.putfield 17, 3) := by decide +kernel
theorem d_RootI_21 : decode prog_1_method_1_code 21 = .ok (.aload_n 0, 1) := by decide +kernel
theorem d_RootI_22 : decode prog_1_method_1_code 22 = .ok (.new 21, 3) := by decide +kernel
theorem d_RootI_25 : decode prog_1_method_1_code 25 = .ok (.dup, 1) := by decide +kernel
theorem d_RootI_26 : decode prog_1_method_1_code 26 = .ok (.invokespecial 23, 3) := by decide +kernel
theorem d_RootI_29 : decode prog_1_method_1_code 29 = .ok (.putfield 24, 3) := by decide +kernel
theorem d_RootI_32 : decode prog_1_method_1_code 32 = .ok (.aload_n 0, 1) := by decide +kernel
theorem d_RootI_33 : decode prog_1_method_1_code 33 = .ok (.iconst 3, 1) := by decide +kernel
theorem d_RootI_34 : decode prog_1_method_1_code 34 = .ok (.anewarray 21, 3) := by decide +kernel
theorem d_RootI_37 : decode prog_1_method_1_code 37 = .ok (.putfield 28, 3) := by decide +kernel
theorem d_RootI_40 : decode prog_1_method_1_code 40 = .ok (.aload_n 0, 1) := by decide +kernel
theorem d_RootI_41 : decode prog_1_method_1_code 41 = .ok (.iconst 3, 1) := by decide +kernel
theorem d_RootI_42 : decode prog_1_method_1_code 42 = .ok (.newarray .boolean, 2) := by decide +kernel
theorem d_RootI_44 : decode prog_1_method_1_code 44 = .ok (.putfield 32, 3) := by decide +kernel
theorem d_RootI_47 : decode prog_1_method_1_code 47 = .ok (.aload_n 0, 1) := by decide +kernel
theorem d_RootI_48 : decode prog_1_method_1_code 48 = .ok (.new 36, 3) := by decide +kernel
theorem d_RootI_51 : decode prog_1_method_1_code 51 = .ok (.dup, 1) := by decide +kernel
theorem d_RootI_52 : decode prog_1_method_1_code 52 = .ok (.invokespecial 38, 3) := by decide +kernel
theorem d_RootI_55 : decode prog_1_method_1_code 55 = .ok (.putfield 39, 3) := by decide +kernel
theorem d_RootI_58 : decode prog_1_method_1_code 58 = .ok (.aload_n 0, 1) := by decide +kernel
theorem d_RootI_59 : decode prog_1_method_1_code 59 = .ok (.new 43, 3) := by decide +kernel
theorem d_RootI_62 : decode prog_1_method_1_code 62 = .ok (.dup, 1) := by decide +kernel
theorem d_RootI_63 : decode prog_1_method_1_code 63 = .ok (.invokespecial 45, 3) := by decide +kernel
theorem d_RootI_66 : decode prog_1_method_1_code 66 = .ok (.putfield 46, 3) := by decide +kernel
theorem d_RootI_69 : decode prog_1_method_1_code 69 = .ok (.aload_n 0, 1) := by decide +kernel
theorem d_RootI_70 : decode prog_1_method_1_code 70 = .ok (.new 50, 3) := by decide +kernel
theorem d_RootI_73 : decode prog_1_method_1_code 73 = .ok (.dup, 1) := by decide +kernel
theorem d_RootI_74 : decode prog_1_method_1_code 74 = .ok (.invokespecial 52, 3) := by decide +kernel
theorem d_RootI_77 : decode prog_1_method_1_code 77 = .ok (.putfield 53, 3) := by decide +kernel
theorem d_RootI_80 : decode prog_1_method_1_code 80 = .ok (.aload_n 0, 1) := by decide +kernel
theorem d_RootI_81 : decode prog_1_method_1_code 81 = .ok (.new 57, 3) := by decide +kernel
theorem d_RootI_84 : decode prog_1_method_1_code 84 = .ok (.dup, 1) := by decide +kernel
theorem d_RootI_85 : decode prog_1_method_1_code 85 = .ok (.invokespecial 59, 3) := by decide +kernel
theorem d_RootI_88 : decode prog_1_method_1_code 88 = .ok (.putfield 60, 3) := by decide +kernel
theorem d_RootI_91 : decode prog_1_method_1_code 91 = .ok (.aload_n 0, 1) := by decide +kernel
theorem d_RootI_92 : decode prog_1_method_1_code 92 = .ok (.new 64, 3) := by decide +kernel
theorem d_RootI_95 : decode prog_1_method_1_code 95 = .ok (.dup, 1) := by decide +kernel
theorem d_RootI_96 : decode prog_1_method_1_code 96 = .ok (.invokespecial 66, 3) := by decide +kernel
theorem d_RootI_99 : decode prog_1_method_1_code 99 = .ok (.putfield 67, 3) := by decide +kernel
theorem d_RootI_102 : decode prog_1_method_1_code 102 = .ok (.aload_n 0, 1) := by decide +kernel
theorem d_RootI_103 : decode prog_1_method_1_code 103 = .ok (.bipush 8, 2) := by decide +kernel
theorem d_RootI_105 : decode prog_1_method_1_code 105 = .ok (.newarray .int, 2) := by decide +kernel
theorem d_RootI_107 : decode prog_1_method_1_code 107 = .ok (.putfield 71, 3) := by decide +kernel
theorem d_RootI_110 : decode prog_1_method_1_code 110 = .ok (.aload_n 0, 1) := by decide +kernel
theorem d_RootI_111 : decode prog_1_method_1_code 111 = .ok (.bipush 6, 2) := by decide +kernel
theorem d_RootI_113 : decode prog_1_method_1_code 113 = .ok (.newarray .int, 2) := by decide +kernel
theorem d_RootI_115 : decode prog_1_method_1_code 115 = .ok (.putfield 75, 3) := by decide +kernel
theorem d_RootI_118 : decode prog_1_method_1_code 118 = .ok (.iconst 0, 1) := by decide +kernel
theorem d_RootI_119 : decode prog_1_method_1_code 119 = .ok (.istore_n 1, 1) := by decide +kernel
theorem d_RootI_120 : decode prog_1_method_1_code 120 = .ok (.iload_n 1, 1) := by decide +kernel
theorem d_RootI_121 : decode prog_1_method_1_code 121 = .ok (.bipush 6, 2) := by decide +kernel
theorem d_RootI_123 : decode prog_1_method_1_code 123 = .ok (.if_icmp .ge 22, 3) := by decide +kernel
theorem d_RootI_126 : decode prog_1_method_1_code 126 = .ok (.aload_n 0, 1) := by decide +kernel
theorem d_RootI_127 : decode prog_1_method_1_code 127 = .ok (.getfield 11, 3) := by decide +kernel
theorem d_RootI_130 : decode prog_1_method_1_code 130 = .ok (.iload_n 1, 1) := by decide +kernel
theorem d_RootI_131 : decode prog_1_method_1_code 131 = .ok (.new 9, 3) := by decide +kernel
theorem d_RootI_134 : decode prog_1_method_1_code 134 = .ok (.dup, 1) := by decide +kernel
theorem d_RootI_135 : decode prog_1_method_1_code 135 = .ok (.invokespecial 78, 3) := by decide +kernel
theorem d_RootI_138 : decode prog_1_method_1_code 138 = .ok (.aastore, 1) := by decide +kernel
theorem d_RootI_139 : decode prog_1_method_1_code 139 = .ok (.iinc 1 1, 3) := by decide +kernel
theorem d_RootI_142 : decode prog_1_method_1_code 142 = .ok (.goto (-22), 3) := by decide +kernel
theorem d_RootI_145 : decode prog_1_method_1_code 145 = .ok (.iconst 0, 1) := by decide +kernel
theorem d_RootI_146 : decode prog_1_method_1_code 146 = .ok (.istore_n 1, 1) := by decide +kernel
theorem d_RootI_147 : decode prog_1_method_1_code 147 = .ok (.iload_n 1, 1) := by decide +kernel
theorem d_RootI_148 : decode prog_1_method_1_code 148 = .ok (.iconst 4, 1) := by decide +kernel
theorem d_RootI_149 : decode prog_1_method_1_code 149 = .ok (.if_icmp .ge 22, 3) := by decide +kernel
theorem d_RootI_152 : decode prog_1_method_1_code 152 = .ok (.aload_n 0, 1) := by decide +kernel
theorem d_RootI_153 : decode prog_1_method_1_code 153 = .ok (.getfield 17, 3) := by decide +kernel
theorem d_RootI_156 : decode prog_1_method_1_code 156 = .ok (.iload_n 1, 1) := by decide +kernel
theorem d_RootI_157 : decode prog_1_method_1_code 157 = .ok (.new 15, 3) := by decide +kernel
theorem d_RootI_160 : decode prog_1_method_1_code 160 = .ok (.dup, 1) := by decide +kernel
theorem d_RootI_161 : decode prog_1_method_1_code 161 = .ok (.invokespecial 79, 3) := by decide +kernel
theorem d_RootI_164 : decode prog_1_method_1_code 164 = .ok (.aastore, 1) := by decide +kernel
theorem d_RootI_165 : decode prog_1_method_1_code 165 = .ok (.iinc 1 1, 3) := by decide +kernel
theorem d_RootI_168 : decode prog_1_method_1_code 168 = .ok (.goto (-21), 3) := by decide +kernel
theorem d_RootI_171 : decode prog_1_method_1_code 171 = .ok (.iconst 0, 1) := by decide +kernel
theorem d_RootI_172 : decode prog_1_method_1_code 172 = .ok (.istore_n 1, 1) := by decide +kernel
theorem d_RootI_173 : decode prog_1_method_1_code 173 = .ok (.iload_n 1, 1) := by decide +kernel
theorem d_RootI_174 : decode prog_1_method_1_code 174 = .ok (.iconst 3, 1) := by decide +kernel
theorem d_RootI_175 : decode prog_1_method_1_code 175 = .ok (.if_icmp .ge 22, 3) := by decide +kernel
theorem d_RootI_178 : decode prog_1_method_1_code 178 = .ok (.aload_n 0, 1) := by decide +kernel
theorem d_RootI_179 : decode prog_1_method_1_code 179 = .ok (.getfield 28, 3) := by decide +kernel
theorem d_RootI_182 : decode prog_1_method_1_code 182 = .ok (.iload_n 1, 1) := by decide +kernel
theorem d_RootI_183 : decode prog_1_method_1_code 183 = .ok (.new 21, 3) := by decide +kernel
theorem d_RootI_186 : decode prog_1_method_1_code 186 = .ok (.dup, 1) := by decide +kernel
theorem d_RootI_187 : decode prog_1_method_1_code 187 = .ok (.invokespecial 23, 3) := by decide +kernel
theorem d_RootI_190 : decode prog_1_method_1_code 190 = .ok (.aastore, 1) := by decide +kernel
theorem d_RootI_191 : decode prog_1_method_1_code 191 = .ok (.iinc 1 1, 3) := by decide +kernel
theorem d_RootI_194 : decode prog_1_method_1_code 194 = .ok (.goto (-21), 3) := by decide +kernel
theorem d_RootI_197 : decode prog_1_method_1_code 197 = .ok (.return_, 1) := by decide +kernel
theorem kE_lp_Root_a : ∀ i, i < 6 → kd (111 + 2 * i) = 3 := by decide +kernel
theorem lp_Root_a {Γ : GmT} {fr mc ms : Nat} {E' : EB} {n' : Nat} {G : EB → Nat → Nat → Nat → Nat → List (Nat × Value) → List Value → Prop} {c1 s1 : Nat} {F : EB} {fs : List Value} (C : CxB Γ "RiverTuesdays" prog_1_method_1_code 2 fr mc ms E' n' G) (hfr : 1 + 1 ≤ fr ∧ 8 + (1 + 11) + 40 * 1 ≤ 40 * fr) (hc1 : c1 + 12 ≤ mc) (hs1 : s1 + 372 ≤ ms) (hfs : fs[0]? = some (.ref (Γ.2.1 1))) (hF : ∀ k, 111 ≤ k → k < 123 → F k = bl Γ k) (kend : G (oB (oB (fB Γ F 111 (2 * 6)) 1 (.inl (Γ.2.2.2 13, 6, rfE (fA Γ 111 2 6)))) 0 (.inr (8, fs))) (111 + 2 * 6) (c1 + 2 * 6) (s1 + 62 * 6) 145 [(1, .int (zI ((6 : Nat) : Int))), (0, .ref (Γ.2.1 0))] []) : ∀ f i n cs ss, i + f = 6 → n = 111 + 2 * i → cs = c1 + 2 * i → ss = s1 + 62 * i → G (oB (oB (fB Γ F 111 (2 * i)) 1 (.inl (Γ.2.2.2 13, 6, rfE (fA Γ 111 2 i)))) 0 (.inr (8, fs))) n cs ss 120 [(1, .int (zI (i : Int))), (0, .ref (Γ.2.1 0))] [] := by
  intro f
  induction f with
  | zero =>
    intro i n cs ss h hn hcs hss
    have h : i = 6 := by omega
    subst h hn hcs hss
    refine b_iload C 0 d_RootI_120 rfl rfl ?_
    refine b_bipush C d_RootI_121 (v := 6) rfl ?_
    exact b_icmpge C d_RootI_123 (tgt := 145) (by decide) (fun _ => kend) (fun q => absurd (by decide +kernel) q)
  | succ f ih =>
    intro i n cs ss h hn hcs hss
    subst hn
    refine b_iload C 0 d_RootI_120 rfl rfl ?_
    refine b_bipush C d_RootI_121 (v := 6) rfl ?_
    refine b_icmpge C d_RootI_123 (tgt := 145) (by decide) (fun q => absurd q (by rw [show (6 : Int32) = zI 6 from rfl, zI_le (by omega) (by omega) (by omega) (by omega)]; omega)) (fun _ => ?_)
    refine b_aload C 1 d_RootI_126 rfl rfl ?_
    refine b_get C (a := 0) (ci := 8) (T := cT8) (N := 14) (oB_eq _ _ _) (by omega) rfl cW8 0 (by decide) rfl hfs (mGW (List.mem_of_getElem? (i := 333) (by decide +kernel)) rfl) d_RootI_127 ?_
    refine b_iload C 0 d_RootI_130 rfl rfl ?_
    have hk := kE_lp_Root_a i (by omega)
    refine b_mk C okI_Row (Or.inl (by decide +kernel)) (mGW (List.mem_of_getElem? (i := 96) (by decide +kernel)) rfl) hk (by omega) (by decide) (sz := 2) (fun k h1 h2 => (oB_ne (by omega)).trans ((fB_out (Or.inr (by omega))).trans (hF k (by omega) (by omega)))) hfr (Nat.le_of_ble_eq_true rfl) (c_Row_init Γ hk) (by omega) (by omega) d_RootI_131 d_RootI_134 d_RootI_135 ?_
    refine b_aast C (a := 1) (w := 111 + 2 * i) (t := 13) (N := 6) (q := 3) (ci := 3) (f := fA Γ 111 2 i) ((oB_ne (by decide)).trans ((fB_out (Or.inl (by omega))).trans (oB_eq _ _ _))) (by omega) rfl ((oB_ne (by omega)).trans ((fB_in (by omega) (by omega)).trans (enc3 Γ _ hk))) (by omega) rfl (inb_in (inb_t (by omega) (by omega) (by omega))) d_RootI_138 ?_
    rw [fB_oB (Or.inl (by omega)), fB_fB, oB_comm (show 0 ≠ 1 by decide), oB_idem, zI_nat (by omega), fA_up, show 2 * i + 2 = 2 * (i + 1) by omega]
    refine b_iinc C 0 d_RootI_139 rfl (v := zI ((i + 1 : Nat) : Int)) (by show zI _ + zI 1 = _; rw [zI_add]; rfl) (by decide) rfl ?_
    exact b_goto C d_RootI_142 (tgt := 120) (by decide) (ih (i + 1) _ _ _ (by omega) (by omega) (by omega) (by omega))
theorem lp_Root_a_all {Γ : GmT} {fr mc ms : Nat} {E' : EB} {n' : Nat} {G : EB → Nat → Nat → Nat → Nat → List (Nat × Value) → List Value → Prop} {c1 s1 : Nat} {F : EB} {fs : List Value} (C : CxB Γ "RiverTuesdays" prog_1_method_1_code 2 fr mc ms E' n' G) (hfr : 1 + 1 ≤ fr ∧ 8 + (1 + 11) + 40 * 1 ≤ 40 * fr) (hc1 : c1 + 12 ≤ mc) (hs1 : s1 + 372 ≤ ms) (hfs : fs[0]? = some (.ref (Γ.2.1 1))) (hF : ∀ k, 111 ≤ k → k < 123 → F k = bl Γ k) (hFa : F 1 = (.inl (Γ.2.2.2 13, 6, rfE (fun _ => none)))) (kend : G (oB (oB (fB Γ F 111 12) 1 (enc Γ (D0 1) 1)) 0 (.inr (8, fs))) 123 (c1 + 12) (s1 + 372) 145 [(1, .int (zI ((6 : Nat) : Int))), (0, .ref (Γ.2.1 0))] []) : G (oB F 0 (.inr (8, fs))) 111 c1 s1 120 [(1, .int (zI ((0 : Nat) : Int))), (0, .ref (Γ.2.1 0))] [] := by
  have h0 : oB (fB Γ F 111 (2 * 0)) 1 (.inl (Γ.2.2.2 13, 6, rfE (fA Γ 111 2 0))) = F := by
    rw [show 2 * 0 = 0 from rfl, fB_0, fA_0]
    exact oB_self hFa
  rw [← h0]
  refine lp_Root_a C hfr hc1 hs1 hfs hF ?_ 6 0 _ _ _ rfl rfl rfl rfl
  refine b_conv C (a := 1) (N := 6) (f := fA Γ 111 2 6) (g := fun j => some (Γ.2.1 (111 + 2 * j))) ((oB_ne (by decide)).trans (oB_eq _ _ _)) (fun j hj => if_pos hj) ?_
  rw [oB_comm (show 0 ≠ 1 by decide), oB_idem]
  have h1 : enc Γ (D0 1) 1 = .inl (Γ.2.2.2 13, 6, rfE (fun j => some (Γ.2.1 (111 + 2 * j)))) := by rw [enc13 Γ _ (by decide +kernel), show ln 1 = 6 by decide +kernel]; rfl
  rw [h1] at kend
  exact kend
theorem kE_lp_Root_b : ∀ i, i < 4 → kd (123 + 2 * i) = 5 := by decide +kernel
theorem lp_Root_b {Γ : GmT} {fr mc ms : Nat} {E' : EB} {n' : Nat} {G : EB → Nat → Nat → Nat → Nat → List (Nat × Value) → List Value → Prop} {c1 s1 : Nat} {F : EB} {fs : List Value} (C : CxB Γ "RiverTuesdays" prog_1_method_1_code 2 fr mc ms E' n' G) (hfr : 1 + 1 ≤ fr ∧ 8 + (1 + 11) + 40 * 1 ≤ 40 * fr) (hc1 : c1 + 8 ≤ mc) (hs1 : s1 + 248 ≤ ms) (hfs : fs[1]? = some (.ref (Γ.2.1 2))) (hF : ∀ k, 123 ≤ k → k < 131 → F k = bl Γ k) (kend : G (oB (oB (fB Γ F 123 (2 * 4)) 2 (.inl (Γ.2.2.2 15, 4, rfE (fA Γ 123 2 4)))) 0 (.inr (8, fs))) (123 + 2 * 4) (c1 + 2 * 4) (s1 + 62 * 4) 171 [(1, .int (zI ((4 : Nat) : Int))), (0, .ref (Γ.2.1 0))] []) : ∀ f i n cs ss, i + f = 4 → n = 123 + 2 * i → cs = c1 + 2 * i → ss = s1 + 62 * i → G (oB (oB (fB Γ F 123 (2 * i)) 2 (.inl (Γ.2.2.2 15, 4, rfE (fA Γ 123 2 i)))) 0 (.inr (8, fs))) n cs ss 147 [(1, .int (zI (i : Int))), (0, .ref (Γ.2.1 0))] [] := by
  intro f
  induction f with
  | zero =>
    intro i n cs ss h hn hcs hss
    have h : i = 4 := by omega
    subst h hn hcs hss
    refine b_iload C 0 d_RootI_147 rfl rfl ?_
    refine b_iconst C d_RootI_148 (v := 4) rfl ?_
    exact b_icmpge C d_RootI_149 (tgt := 171) (by decide) (fun _ => kend) (fun q => absurd (by decide +kernel) q)
  | succ f ih =>
    intro i n cs ss h hn hcs hss
    subst hn
    refine b_iload C 0 d_RootI_147 rfl rfl ?_
    refine b_iconst C d_RootI_148 (v := 4) rfl ?_
    refine b_icmpge C d_RootI_149 (tgt := 171) (by decide) (fun q => absurd q (by rw [show (4 : Int32) = zI 4 from rfl, zI_le (by omega) (by omega) (by omega) (by omega)]; omega)) (fun _ => ?_)
    refine b_aload C 1 d_RootI_152 rfl rfl ?_
    refine b_get C (a := 0) (ci := 8) (T := cT8) (N := 14) (oB_eq _ _ _) (by omega) rfl cW8 1 (by decide) rfl hfs (mGW (List.mem_of_getElem? (i := 334) (by decide +kernel)) rfl) d_RootI_153 ?_
    refine b_iload C 0 d_RootI_156 rfl rfl ?_
    have hk := kE_lp_Root_b i (by omega)
    refine b_mk C okI_Text (Or.inl (by decide +kernel)) (mGW (List.mem_of_getElem? (i := 98) (by decide +kernel)) rfl) hk (by omega) (by decide) (sz := 2) (fun k h1 h2 => (oB_ne (by omega)).trans ((fB_out (Or.inr (by omega))).trans (hF k (by omega) (by omega)))) hfr (Nat.le_of_ble_eq_true rfl) (c_Text_init Γ hk) (by omega) (by omega) d_RootI_157 d_RootI_160 d_RootI_161 ?_
    refine b_aast C (a := 2) (w := 123 + 2 * i) (t := 15) (N := 4) (q := 5) (ci := 5) (f := fA Γ 123 2 i) ((oB_ne (by decide)).trans ((fB_out (Or.inl (by omega))).trans (oB_eq _ _ _))) (by omega) rfl ((oB_ne (by omega)).trans ((fB_in (by omega) (by omega)).trans (enc5 Γ _ hk))) (by omega) rfl (inb_in (inb_t (by omega) (by omega) (by omega))) d_RootI_164 ?_
    rw [fB_oB (Or.inl (by omega)), fB_fB, oB_comm (show 0 ≠ 2 by decide), oB_idem, zI_nat (by omega), fA_up, show 2 * i + 2 = 2 * (i + 1) by omega]
    refine b_iinc C 0 d_RootI_165 rfl (v := zI ((i + 1 : Nat) : Int)) (by show zI _ + zI 1 = _; rw [zI_add]; rfl) (by decide) rfl ?_
    exact b_goto C d_RootI_168 (tgt := 147) (by decide) (ih (i + 1) _ _ _ (by omega) (by omega) (by omega) (by omega))
theorem lp_Root_b_all {Γ : GmT} {fr mc ms : Nat} {E' : EB} {n' : Nat} {G : EB → Nat → Nat → Nat → Nat → List (Nat × Value) → List Value → Prop} {c1 s1 : Nat} {F : EB} {fs : List Value} (C : CxB Γ "RiverTuesdays" prog_1_method_1_code 2 fr mc ms E' n' G) (hfr : 1 + 1 ≤ fr ∧ 8 + (1 + 11) + 40 * 1 ≤ 40 * fr) (hc1 : c1 + 8 ≤ mc) (hs1 : s1 + 248 ≤ ms) (hfs : fs[1]? = some (.ref (Γ.2.1 2))) (hF : ∀ k, 123 ≤ k → k < 131 → F k = bl Γ k) (hFa : F 2 = (.inl (Γ.2.2.2 15, 4, rfE (fun _ => none)))) (kend : G (oB (oB (fB Γ F 123 8) 2 (enc Γ (D0 2) 2)) 0 (.inr (8, fs))) 131 (c1 + 8) (s1 + 248) 171 [(1, .int (zI ((4 : Nat) : Int))), (0, .ref (Γ.2.1 0))] []) : G (oB F 0 (.inr (8, fs))) 123 c1 s1 147 [(1, .int (zI ((0 : Nat) : Int))), (0, .ref (Γ.2.1 0))] [] := by
  have h0 : oB (fB Γ F 123 (2 * 0)) 2 (.inl (Γ.2.2.2 15, 4, rfE (fA Γ 123 2 0))) = F := by
    rw [show 2 * 0 = 0 from rfl, fB_0, fA_0]
    exact oB_self hFa
  rw [← h0]
  refine lp_Root_b C hfr hc1 hs1 hfs hF ?_ 4 0 _ _ _ rfl rfl rfl rfl
  refine b_conv C (a := 2) (N := 4) (f := fA Γ 123 2 4) (g := fun j => some (Γ.2.1 (123 + 2 * j))) ((oB_ne (by decide)).trans (oB_eq _ _ _)) (fun j hj => if_pos hj) ?_
  rw [oB_comm (show 0 ≠ 2 by decide), oB_idem]
  have h1 : enc Γ (D0 2) 2 = .inl (Γ.2.2.2 15, 4, rfE (fun j => some (Γ.2.1 (123 + 2 * j)))) := by rw [enc15 Γ _ (by decide +kernel), show ln 2 = 4 by decide +kernel]; rfl
  rw [h1] at kend
  exact kend
theorem kE_lp_Root_c : ∀ i, i < 3 → kd (131 + 15 * i) = 4 := by decide +kernel
theorem lp_Root_c {Γ : GmT} {fr mc ms : Nat} {E' : EB} {n' : Nat} {G : EB → Nat → Nat → Nat → Nat → List (Nat × Value) → List Value → Prop} {c1 s1 : Nat} {F : EB} {fs : List Value} (C : CxB Γ "RiverTuesdays" prog_1_method_1_code 2 fr mc ms E' n' G) (hfr : 2 + 1 ≤ fr ∧ 8 + (1 + 11) + 40 * 2 ≤ 40 * fr) (hc1 : c1 + 45 ≤ mc) (hs1 : s1 + 5160 ≤ ms) (hfs : fs[3]? = some (.ref (Γ.2.1 18))) (hF : ∀ k, 131 ≤ k → k < 176 → F k = bl Γ k) (kend : G (oB (oB (fB Γ F 131 (15 * 3)) 18 (.inl (Γ.2.2.2 14, 3, rfE (fA Γ 131 15 3)))) 0 (.inr (8, fs))) (131 + 15 * 3) (c1 + 15 * 3) (s1 + 1720 * 3) 197 [(1, .int (zI ((3 : Nat) : Int))), (0, .ref (Γ.2.1 0))] []) : ∀ f i n cs ss, i + f = 3 → n = 131 + 15 * i → cs = c1 + 15 * i → ss = s1 + 1720 * i → G (oB (oB (fB Γ F 131 (15 * i)) 18 (.inl (Γ.2.2.2 14, 3, rfE (fA Γ 131 15 i)))) 0 (.inr (8, fs))) n cs ss 173 [(1, .int (zI (i : Int))), (0, .ref (Γ.2.1 0))] [] := by
  intro f
  induction f with
  | zero =>
    intro i n cs ss h hn hcs hss
    have h : i = 3 := by omega
    subst h hn hcs hss
    refine b_iload C 0 d_RootI_173 rfl rfl ?_
    refine b_iconst C d_RootI_174 (v := 3) rfl ?_
    exact b_icmpge C d_RootI_175 (tgt := 197) (by decide) (fun _ => kend) (fun q => absurd (by decide +kernel) q)
  | succ f ih =>
    intro i n cs ss h hn hcs hss
    subst hn
    refine b_iload C 0 d_RootI_173 rfl rfl ?_
    refine b_iconst C d_RootI_174 (v := 3) rfl ?_
    refine b_icmpge C d_RootI_175 (tgt := 197) (by decide) (fun q => absurd q (by rw [show (3 : Int32) = zI 3 from rfl, zI_le (by omega) (by omega) (by omega) (by omega)]; omega)) (fun _ => ?_)
    refine b_aload C 1 d_RootI_178 rfl rfl ?_
    refine b_get C (a := 0) (ci := 8) (T := cT8) (N := 14) (oB_eq _ _ _) (by omega) rfl cW8 3 (by decide) rfl hfs (mGW (List.mem_of_getElem? (i := 336) (by decide +kernel)) rfl) d_RootI_179 ?_
    refine b_iload C 0 d_RootI_182 rfl rfl ?_
    have hk := kE_lp_Root_c i (by omega)
    refine b_mk C okI_Street (Or.inl (by decide +kernel)) (mGW (List.mem_of_getElem? (i := 100) (by decide +kernel)) rfl) hk (by omega) (by decide) (sz := 15) (fun k h1 h2 => (oB_ne (by omega)).trans ((fB_out (Or.inr (by omega))).trans (hF k (by omega) (by omega)))) hfr (Nat.le_of_ble_eq_true rfl) (c_Street_init Γ hk) (by omega) (by omega) d_RootI_183 d_RootI_186 d_RootI_187 ?_
    refine b_aast C (a := 18) (w := 131 + 15 * i) (t := 14) (N := 3) (q := 4) (ci := 4) (f := fA Γ 131 15 i) ((oB_ne (by decide)).trans ((fB_out (Or.inl (by omega))).trans (oB_eq _ _ _))) (by omega) rfl ((oB_ne (by omega)).trans ((fB_in (by omega) (by omega)).trans (enc4 Γ _ hk))) (by omega) rfl (inb_in (inb_t (by omega) (by omega) (by omega))) d_RootI_190 ?_
    rw [fB_oB (Or.inl (by omega)), fB_fB, oB_comm (show 0 ≠ 18 by decide), oB_idem, zI_nat (by omega), fA_up, show 15 * i + 15 = 15 * (i + 1) by omega]
    refine b_iinc C 0 d_RootI_191 rfl (v := zI ((i + 1 : Nat) : Int)) (by show zI _ + zI 1 = _; rw [zI_add]; rfl) (by decide) rfl ?_
    exact b_goto C d_RootI_194 (tgt := 173) (by decide) (ih (i + 1) _ _ _ (by omega) (by omega) (by omega) (by omega))
theorem lp_Root_c_all {Γ : GmT} {fr mc ms : Nat} {E' : EB} {n' : Nat} {G : EB → Nat → Nat → Nat → Nat → List (Nat × Value) → List Value → Prop} {c1 s1 : Nat} {F : EB} {fs : List Value} (C : CxB Γ "RiverTuesdays" prog_1_method_1_code 2 fr mc ms E' n' G) (hfr : 2 + 1 ≤ fr ∧ 8 + (1 + 11) + 40 * 2 ≤ 40 * fr) (hc1 : c1 + 45 ≤ mc) (hs1 : s1 + 5160 ≤ ms) (hfs : fs[3]? = some (.ref (Γ.2.1 18))) (hF : ∀ k, 131 ≤ k → k < 176 → F k = bl Γ k) (hFa : F 18 = (.inl (Γ.2.2.2 14, 3, rfE (fun _ => none)))) (kend : G (oB (oB (fB Γ F 131 45) 18 (enc Γ (D0 18) 18)) 0 (.inr (8, fs))) 176 (c1 + 45) (s1 + 5160) 197 [(1, .int (zI ((3 : Nat) : Int))), (0, .ref (Γ.2.1 0))] []) : G (oB F 0 (.inr (8, fs))) 131 c1 s1 173 [(1, .int (zI ((0 : Nat) : Int))), (0, .ref (Γ.2.1 0))] [] := by
  have h0 : oB (fB Γ F 131 (15 * 0)) 18 (.inl (Γ.2.2.2 14, 3, rfE (fA Γ 131 15 0))) = F := by
    rw [show 15 * 0 = 0 from rfl, fB_0, fA_0]
    exact oB_self hFa
  rw [← h0]
  refine lp_Root_c C hfr hc1 hs1 hfs hF ?_ 3 0 _ _ _ rfl rfl rfl rfl
  refine b_conv C (a := 18) (N := 3) (f := fA Γ 131 15 3) (g := fun j => some (Γ.2.1 (131 + 15 * j))) ((oB_ne (by decide)).trans (oB_eq _ _ _)) (fun j hj => if_pos hj) ?_
  rw [oB_comm (show 0 ≠ 18 by decide), oB_idem]
  have h1 : enc Γ (D0 18) 18 = .inl (Γ.2.2.2 14, 3, rfE (fun j => some (Γ.2.1 (131 + 15 * j)))) := by rw [enc14 Γ _ (by decide +kernel), show ln 18 = 3 by decide +kernel]; rfl
  rw [h1] at kend
  exact kend
theorem c_Root_init (Γ : GmT) (MT : CtB Γ yI_Tuesday prog_8_method_1_code 2 2 67 531 32 68) : CtB Γ yI_Root prog_1_method_1_code 2 3 175 11499 0 176 := by
  have hb : kd 0 = 8 := by decide +kernel
  intro E hE
  refine MtB_of rfl rfl (Nat.le_of_ble_eq_true rfl) fun G C => ?_
  have h0 : E 0 = .inr (8, dfl 8) := (hE _ (by omega) (by omega)).trans (bl_o hb (by decide))
  rw [← oB_self h0]
  refine b_aload C 0 d_RootI_0 rfl rfl ?_
  refine b_objInit C oi_Root (by decide) ow1 ow2 d_RootI_1 ?_
  refine b_aload C 0 d_RootI_4 rfl rfl ?_
  refine b_bipush C d_RootI_5 (v := 6) rfl ?_
  refine b_anew C (D := "RiverTuesdays$Row") (t := 13) (N := 6) (q := 3) rfl (by decide +kernel) (mGW (List.mem_of_getElem? (i := 96) (by decide +kernel)) rfl) (by decide) (by decide) (by decide) ((oB_ne (by omega)).trans ((hE _ (by omega) (by omega)).trans (bl_r (show isA 13 1 6 from ⟨by decide +kernel, by decide +kernel⟩) (by decide)))) (by decide) (by decide) d_RootI_7 ?_
  refine b_putF C (ci := 8) (T := cT8) (N := 14) (Y := cY8) (ty := .array (.object "RiverTuesdays$Row")) (by omega) rfl cW8 cYo8 cD8 0 (by decide) rfl (by decide +kernel) rfl rfl (Nat.le_of_ble_eq_true rfl) (mGW (List.mem_of_getElem? (i := 333) (by decide +kernel)) rfl) d_RootI_10 ?_
  refine b_aload C 0 d_RootI_13 rfl rfl ?_
  refine b_iconst C d_RootI_14 (v := 4) rfl ?_
  refine b_anew C (D := "RiverTuesdays$Text") (t := 15) (N := 4) (q := 5) rfl (by decide +kernel) (mGW (List.mem_of_getElem? (i := 98) (by decide +kernel)) rfl) (by decide) (by decide) (by decide) ((oB_ne (by omega)).trans ((hE _ (by omega) (by omega)).trans (bl_r (show isA 15 2 4 from ⟨by decide +kernel, by decide +kernel⟩) (by decide)))) (by decide) (by decide) d_RootI_15 ?_
  refine b_putF C (ci := 8) (T := cT8) (N := 14) (Y := cY8) (ty := .array (.object "RiverTuesdays$Text")) (by omega) rfl cW8 cYo8 cD8 1 (by decide) rfl (by decide +kernel) rfl rfl (Nat.le_of_ble_eq_true rfl) (mGW (List.mem_of_getElem? (i := 334) (by decide +kernel)) rfl) d_RootI_18 ?_
  refine b_aload C 0 d_RootI_21 rfl rfl ?_
  refine b_mk C okI_Street (Or.inl (by decide +kernel)) (mGW (List.mem_of_getElem? (i := 100) (by decide +kernel)) rfl) (by decide +kernel) (by omega) (by decide) (fun k h1 h2 => hE k (by omega) (by omega)) ⟨by decide, by decide⟩ (Nat.le_of_ble_eq_true rfl) (c_Street_init Γ (by decide +kernel)) (by decide) (by decide) d_RootI_22 d_RootI_25 d_RootI_26 ?_
  refine b_putF C (ci := 8) (T := cT8) (N := 14) (Y := cY8) (ty := .object "RiverTuesdays$Street") (by omega) rfl cW8 cYo8 cD8 2 (by decide) rfl (by decide +kernel) rfl rfl (Nat.le_of_ble_eq_true rfl) (mGW (List.mem_of_getElem? (i := 335) (by decide +kernel)) rfl) d_RootI_29 ?_
  refine b_aload C 0 d_RootI_32 rfl rfl ?_
  refine b_iconst C d_RootI_33 (v := 3) rfl ?_
  refine b_anew C (D := "RiverTuesdays$Street") (t := 14) (N := 3) (q := 4) rfl (by decide +kernel) (mGW (List.mem_of_getElem? (i := 100) (by decide +kernel)) rfl) (by decide) (by decide) (by decide) ((oB_ne (by omega)).trans ((fB_out (Or.inr (by omega))).trans ((hE _ (by omega) (by omega)).trans (bl_r (show isA 14 18 3 from ⟨by decide +kernel, by decide +kernel⟩) (by decide))))) (by decide) (by decide) d_RootI_34 ?_
  refine b_putF C (ci := 8) (T := cT8) (N := 14) (Y := cY8) (ty := .array (.object "RiverTuesdays$Street")) (by omega) rfl cW8 cYo8 cD8 3 (by decide) rfl (by decide +kernel) rfl rfl (Nat.le_of_ble_eq_true rfl) (mGW (List.mem_of_getElem? (i := 336) (by decide +kernel)) rfl) d_RootI_37 ?_
  refine b_aload C 0 d_RootI_40 rfl rfl ?_
  refine b_iconst C d_RootI_41 (v := 3) rfl ?_
  refine b_newa C (t := 12) (N := 3) (q := 2) (ty := .boolean) rfl rfl (fun _ _ h => h) rfl acw_boolean (by decide) (by decide) (by decide) ((oB_ne (by omega)).trans ((fB_out (Or.inr (by omega))).trans ((hE _ (by omega) (by omega)).trans (bl_a (show isA 12 19 3 from ⟨by decide +kernel, by decide +kernel⟩) (by decide))))) (by decide) (by decide) d_RootI_42 ?_
  refine b_putF C (ci := 8) (T := cT8) (N := 14) (Y := cY8) (ty := .array .boolean) (by omega) rfl cW8 cYo8 cD8 4 (by decide) rfl (by decide +kernel) rfl rfl (Nat.le_of_ble_eq_true rfl) (mGW (List.mem_of_getElem? (i := 337) (by decide +kernel)) rfl) d_RootI_44 ?_
  refine b_aload C 0 d_RootI_47 rfl rfl ?_
  refine b_mk C okI_Bed (Or.inl (by decide +kernel)) (mGW (List.mem_of_getElem? (i := 218) (by decide +kernel)) rfl) (by decide +kernel) (by omega) (by decide) (fun k h1 h2 => (fB_out (Or.inr (by omega))).trans (hE k (by omega) (by omega))) ⟨by decide, by decide⟩ (Nat.le_of_ble_eq_true rfl) (c_Bed_init Γ (by decide +kernel)) (by decide) (by decide) d_RootI_48 d_RootI_51 d_RootI_52 ?_
  refine b_putF C (ci := 8) (T := cT8) (N := 14) (Y := cY8) (ty := .object "RiverTuesdays$Bed") (by omega) rfl cW8 cYo8 cD8 5 (by decide) rfl (by decide +kernel) rfl rfl (Nat.le_of_ble_eq_true rfl) (mGW (List.mem_of_getElem? (i := 338) (by decide +kernel)) rfl) d_RootI_55 ?_
  refine b_aload C 0 d_RootI_58 rfl rfl ?_
  refine b_mk C okI_Waters (Or.inl (by decide +kernel)) (mGW (List.mem_of_getElem? (i := 220) (by decide +kernel)) rfl) (by decide +kernel) (by omega) (by decide) (fun k h1 h2 => (fB_out (Or.inr (by omega))).trans ((fB_out (Or.inr (by omega))).trans (hE k (by omega) (by omega)))) ⟨by decide, by decide⟩ (Nat.le_of_ble_eq_true rfl) (c_Waters_init Γ (by decide +kernel)) (by decide) (by decide) d_RootI_59 d_RootI_62 d_RootI_63 ?_
  refine b_putF C (ci := 8) (T := cT8) (N := 14) (Y := cY8) (ty := .object "RiverTuesdays$Waters") (by omega) rfl cW8 cYo8 cD8 6 (by decide) rfl (by decide +kernel) rfl rfl (Nat.le_of_ble_eq_true rfl) (mGW (List.mem_of_getElem? (i := 339) (by decide +kernel)) rfl) d_RootI_66 ?_
  refine b_aload C 0 d_RootI_69 rfl rfl ?_
  refine b_mk C okI_Tuesday (Or.inr (mGW (List.mem_of_getElem? (i := 224) (by decide +kernel)) rfl)) (mGW (List.mem_of_getElem? (i := 222) (by decide +kernel)) rfl) (by decide +kernel) (by omega) (by decide) (fun k h1 h2 => (fB_out (Or.inr (by omega))).trans ((fB_out (Or.inr (by omega))).trans ((fB_out (Or.inr (by omega))).trans (hE k (by omega) (by omega))))) ⟨by decide, by decide⟩ (Nat.le_of_ble_eq_true rfl) (MT) (by decide) (by decide) d_RootI_70 d_RootI_73 d_RootI_74 ?_
  refine b_putF C (ci := 8) (T := cT8) (N := 14) (Y := cY8) (ty := .object "RiverTuesdays$Tuesday") (by omega) rfl cW8 cYo8 cD8 7 (by decide) rfl (by decide +kernel) rfl rfl (Nat.le_of_ble_eq_true rfl) (mGW (List.mem_of_getElem? (i := 340) (by decide +kernel)) rfl) d_RootI_77 ?_
  refine b_aload C 0 d_RootI_80 rfl rfl ?_
  refine b_mk C okI_Fits (Or.inl (by decide +kernel)) (mGW (List.mem_of_getElem? (i := 256) (by decide +kernel)) rfl) (by decide +kernel) (by omega) (by decide) (fun k h1 h2 => (fB_out (Or.inr (by omega))).trans ((fB_out (Or.inr (by omega))).trans ((fB_out (Or.inr (by omega))).trans ((fB_out (Or.inr (by omega))).trans (hE k (by omega) (by omega)))))) ⟨by decide, by decide⟩ (Nat.le_of_ble_eq_true rfl) (c_Fits_init Γ) (by decide) (by decide) d_RootI_81 d_RootI_84 d_RootI_85 ?_
  refine b_putF C (ci := 8) (T := cT8) (N := 14) (Y := cY8) (ty := .object "RiverTuesdays$Fits") (by omega) rfl cW8 cYo8 cD8 8 (by decide) rfl (by decide +kernel) rfl rfl (Nat.le_of_ble_eq_true rfl) (mGW (List.mem_of_getElem? (i := 341) (by decide +kernel)) rfl) d_RootI_88 ?_
  refine b_aload C 0 d_RootI_91 rfl rfl ?_
  refine b_mk C okI_Jobs (Or.inl (by decide +kernel)) (mGW (List.mem_of_getElem? (i := 276) (by decide +kernel)) rfl) (by decide +kernel) (by omega) (by decide) (fun k h1 h2 => (fB_out (Or.inr (by omega))).trans ((fB_out (Or.inr (by omega))).trans ((fB_out (Or.inr (by omega))).trans ((fB_out (Or.inr (by omega))).trans ((fB_out (Or.inr (by omega))).trans (hE k (by omega) (by omega))))))) ⟨by decide, by decide⟩ (Nat.le_of_ble_eq_true rfl) (c_Jobs_init Γ) (by decide) (by decide) d_RootI_92 d_RootI_95 d_RootI_96 ?_
  refine b_putF C (ci := 8) (T := cT8) (N := 14) (Y := cY8) (ty := .object "RiverTuesdays$Jobs") (by omega) rfl cW8 cYo8 cD8 9 (by decide) rfl (by decide +kernel) rfl rfl (Nat.le_of_ble_eq_true rfl) (mGW (List.mem_of_getElem? (i := 342) (by decide +kernel)) rfl) d_RootI_99 ?_
  refine b_aload C 0 d_RootI_102 rfl rfl ?_
  refine b_bipush C d_RootI_103 (v := 8) rfl ?_
  refine b_newa C (t := 11) (N := 8) (q := 1) (ty := .int) rfl rfl (fun _ _ h => h) rfl acw_int (by decide) (by decide) (by decide) ((oB_ne (by omega)).trans ((fB_out (Or.inr (by omega))).trans ((fB_out (Or.inr (by omega))).trans ((fB_out (Or.inr (by omega))).trans ((fB_out (Or.inr (by omega))).trans ((fB_out (Or.inr (by omega))).trans ((fB_out (Or.inr (by omega))).trans ((hE _ (by omega) (by omega)).trans (bl_a (show isA 11 109 8 from ⟨by decide +kernel, by decide +kernel⟩) (by decide)))))))))) (by decide) (by decide) d_RootI_105 ?_
  refine b_putF C (ci := 8) (T := cT8) (N := 14) (Y := cY8) (ty := .array .int) (by omega) rfl cW8 cYo8 cD8 10 (by decide) rfl (by decide +kernel) rfl rfl (Nat.le_of_ble_eq_true rfl) (mGW (List.mem_of_getElem? (i := 343) (by decide +kernel)) rfl) d_RootI_107 ?_
  refine b_aload C 0 d_RootI_110 rfl rfl ?_
  refine b_bipush C d_RootI_111 (v := 6) rfl ?_
  refine b_newa C (t := 11) (N := 6) (q := 1) (ty := .int) rfl rfl (fun _ _ h => h) rfl acw_int (by decide) (by decide) (by decide) ((oB_ne (by omega)).trans ((fB_out (Or.inr (by omega))).trans ((fB_out (Or.inr (by omega))).trans ((fB_out (Or.inr (by omega))).trans ((fB_out (Or.inr (by omega))).trans ((fB_out (Or.inr (by omega))).trans ((fB_out (Or.inr (by omega))).trans ((hE _ (by omega) (by omega)).trans (bl_a (show isA 11 110 6 from ⟨by decide +kernel, by decide +kernel⟩) (by decide)))))))))) (by decide) (by decide) d_RootI_113 ?_
  refine b_putF C (ci := 8) (T := cT8) (N := 14) (Y := cY8) (ty := .array .int) (by omega) rfl cW8 cYo8 cD8 11 (by decide) rfl (by decide +kernel) rfl rfl (Nat.le_of_ble_eq_true rfl) (mGW (List.mem_of_getElem? (i := 344) (by decide +kernel)) rfl) d_RootI_115 ?_
  generalize hfs : List.set (α := Value) _ 11 _ = fs
  have q0 : fs[0]? = some (.ref (Γ.2.1 1)) := by rw [← hfs]; rfl
  have q1 : fs[1]? = some (.ref (Γ.2.1 2)) := by rw [← hfs]; rfl
  have q3 : fs[3]? = some (.ref (Γ.2.1 18)) := by rw [← hfs]; rfl
  have hff : fs = fl8 Γ (fun _ => 0) 0 := by rw [← hfs]; rfl
  generalize hF9 : fB Γ (fB Γ (fB Γ (fB Γ (fB Γ (fB Γ E _ _) _ _) _ _) _ _) _ _) _ _ = F9
  have r1 : ∀ k, 111 ≤ k → k < 176 → F9 k = bl Γ k := fun k h1 h2 => by rw [← hF9]; exact (fB_out (Or.inr (by omega))).trans ((fB_out (Or.inr (by omega))).trans ((fB_out (Or.inr (by omega))).trans ((fB_out (Or.inr (by omega))).trans ((fB_out (Or.inr (by omega))).trans ((fB_out (Or.inr (by omega))).trans (hE k (by omega) (by omega)))))))
  have r2 : F9 1 = .inl (Γ.2.2.2 13, 6, rfE (fun _ => none)) := by rw [← hF9]; exact (fB_out (Or.inl (by decide))).trans ((fB_out (Or.inl (by decide))).trans ((fB_out (Or.inl (by decide))).trans ((fB_out (Or.inl (by decide))).trans ((fB_out (Or.inl (by decide))).trans ((fB_out (Or.inl (by decide))).trans ((hE 1 (by omega) (by omega)).trans (bl_r (t := 13) (N := 6) ⟨by decide +kernel, by decide +kernel⟩ (by decide))))))))
  have r3 : F9 2 = .inl (Γ.2.2.2 15, 4, rfE (fun _ => none)) := by rw [← hF9]; exact (fB_out (Or.inl (by decide))).trans ((fB_out (Or.inl (by decide))).trans ((fB_out (Or.inl (by decide))).trans ((fB_out (Or.inl (by decide))).trans ((fB_out (Or.inl (by decide))).trans ((fB_out (Or.inl (by decide))).trans ((hE 2 (by omega) (by omega)).trans (bl_r (t := 15) (N := 4) ⟨by decide +kernel, by decide +kernel⟩ (by decide))))))))
  have r4 : F9 18 = .inl (Γ.2.2.2 14, 3, rfE (fun _ => none)) := by rw [← hF9]; exact (fB_out (Or.inl (by decide))).trans ((fB_out (Or.inl (by decide))).trans ((fB_out (Or.inl (by decide))).trans ((fB_out (Or.inl (by decide))).trans ((fB_out (Or.inl (by decide))).trans ((fB_out (Or.inr (by decide))).trans ((hE 18 (by omega) (by omega)).trans (bl_r (t := 14) (N := 3) ⟨by decide +kernel, by decide +kernel⟩ (by decide))))))))
  have r5 : ∀ k, 2 < k → k < 111 → k ≠ 18 → F9 k = enc Γ (D0 k) k := fun k h1 h2 h3 => by
    rw [← hF9]
    by_cases g1 : 104 ≤ k ∧ k < 104 + 5
    · exact fB_in g1.1 g1.2
    refine (fB_out (by omega)).trans ?_
    by_cases g2 : 100 ≤ k ∧ k < 100 + 4
    · exact fB_in g2.1 g2.2
    refine (fB_out (by omega)).trans ?_
    by_cases g3 : 32 ≤ k ∧ k < 32 + 68
    · exact fB_in g3.1 g3.2
    refine (fB_out (by omega)).trans ?_
    by_cases g4 : 26 ≤ k ∧ k < 26 + 6
    · exact fB_in g4.1 g4.2
    refine (fB_out (by omega)).trans ?_
    by_cases g5 : 20 ≤ k ∧ k < 20 + 6
    · exact fB_in g5.1 g5.2
    refine (fB_out (by omega)).trans ?_
    by_cases g6 : 3 ≤ k ∧ k < 3 + 15
    · exact fB_in g6.1 g6.2
    refine (fB_out (by omega)).trans ((hE k (by omega) (by omega)).trans ?_)
    rcases (show k = 19 ∨ k = 109 ∨ k = 110 by omega) with h | h | h
    · rw [h]; exact bl_d (t := 12) (by decide +kernel) (by decide) (by decide) (by decide)
    · rw [h]; exact bl_d (t := 11) (by decide +kernel) (by decide) (by decide) (by decide)
    · rw [h]; exact bl_d (t := 11) (by decide +kernel) (by decide) (by decide) (by decide)
  clear hF9
  refine b_iconst C d_RootI_118 (v := 0) rfl ?_
  refine b_istore C d_RootI_119 rfl (by decide) rfl ?_
  refine lp_Root_a_all C (c1 := 110) (s1 := 5719) ⟨by decide, by decide⟩ (by decide) (by decide) q0 (fun k h1 h2 => r1 k (by omega) (by omega)) r2 ?_
  refine b_iconst C d_RootI_145 (v := 0) rfl ?_
  refine b_istore C d_RootI_146 rfl (by decide) rfl ?_
  refine lp_Root_b_all C (c1 := 122) (s1 := 6091) ⟨by decide, by decide⟩ (by decide) (by decide) q1 (fun k h1 h2 => (oB_ne (by omega)).trans ((fB_out (Or.inr (by omega))).trans (r1 k (by omega) (by omega)))) ((oB_ne (by decide)).trans ((fB_out (Or.inl (by decide))).trans r3)) ?_
  refine b_iconst C d_RootI_171 (v := 0) rfl ?_
  refine b_istore C d_RootI_172 rfl (by decide) rfl ?_
  refine lp_Root_c_all C (c1 := 130) (s1 := 6339) ⟨by decide, by decide⟩ (by decide) (by decide) q3 (fun k h1 h2 => (oB_ne (by omega)).trans ((fB_out (Or.inr (by omega))).trans ((oB_ne (by omega)).trans ((fB_out (Or.inr (by omega))).trans (r1 k (by omega) (by omega)))))) ((oB_ne (by decide)).trans ((fB_out (Or.inl (by decide))).trans ((oB_ne (by decide)).trans ((fB_out (Or.inl (by decide))).trans r4)))) ?_
  refine b_ret C (by decide) (by decide) rfl (fun k hk => ?_) d_RootI_197
  rw [fB_in (a := 0) (sz := 176) (by omega) (by omega)]
  by_cases e : k = 0
  · rw [e, oB_eq, enc8 Γ _ hb, d0_z (by omega) (by omega) (by decide) (by decide), hff]
  rw [oB_ne e]
  by_cases e1 : k = 18
  · rw [e1, oB_eq]
  rw [oB_ne e1]
  by_cases e2 : 131 ≤ k ∧ k < 131 + 45
  · exact fB_in e2.1 e2.2
  refine (fB_out (by omega)).trans ?_
  by_cases e3 : k = 2
  · rw [e3, oB_eq]
  rw [oB_ne e3]
  by_cases e4 : 123 ≤ k ∧ k < 123 + 8
  · exact fB_in e4.1 e4.2
  refine (fB_out (by omega)).trans ?_
  by_cases e5 : k = 1
  · rw [e5, oB_eq]
  rw [oB_ne e5]
  by_cases e6 : 111 ≤ k ∧ k < 111 + 12
  · exact fB_in e6.1 e6.2
  refine (fB_out (by omega)).trans ?_
  exact r5 k (by omega) (by omega) e1
