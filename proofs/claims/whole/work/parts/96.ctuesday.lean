/-! the Tuesday's constructor: an array of arrays -/
theorem outA (c : ClassId) (N h : Nat) : ∀ i : Nat, mn_out c N h i = arrV c N (fun j => va_rf (if j < i then some (h + 1 + j) else none))
  | 0 => by
    have e : (fun j : Nat => va_rf (if j < 0 then some (h + 1 + j) else none)) = fun _ => Value.null := by
      funext j
      rw [if_neg (Nat.not_lt_zero j)]
      rfl
    rw [e]
    exact arrV_new c N .null
  | i + 1 => by
    show (mn_out c N h i).setSlot i (.ref (h + 1 + i)) = _
    rw [outA c N h i, arrV_store]
    congr 1
    funext j
    unfold updV
    by_cases e : j = i
    · subst e
      rw [if_pos rfl, if_pos (Nat.lt_succ_self j)]
      rfl
    · rw [if_neg e]
      show va_rf (if j < i then some (h + 1 + j) else none) = _
      by_cases h2 : j < i
      · rw [if_pos h2, if_pos (Nat.lt_succ_of_lt h2)]
      · rw [if_neg h2, if_neg (by omega)]
theorem arrV_cg {c : ClassId} {N : Nat} {f g : Nat → Value} (h : ∀ j, j < N → f j = g j) : arrV c N f = arrV c N g := by
  unfold arrV
  congr 2
  funext j
  exact h j.val j.isLt
theorem b_mna {Γ : GmT} {own : String} {cc : ByteArray} {nL fr mc ms : Nat} {E' : EB} {n' : Nat} {G : EB → Nat → Nat → Nat → Nat → List (Nat × Value) → List Value → Prop} {E : EB} {n cs ss pc : Nat} {lv : List (Nat × Value)} {st0 : List Value} (C : CxB Γ own cc nL fr mc ms E' n' G) {ix : Nat} {f : Nat → Option Nat} (hw : Cond.classLink own ix "[[I" ∈ GW) (hE0 : E n = .inl (Γ.2.2.2 17, 9, rfE f)) (hf : ∀ j, j < 9 → f j = some (Γ.2.1 (n + 1 + j))) (hE1 : ∀ j, j < 9 → E (n + 1 + j) = .inl (Γ.2.2.2 11, 8, .inl (fun _ => 0))) (hc : cs + (1 + 9) ≤ mc) (hs : ss + (9 + 9 * 8) ≤ ms) (d : decode cc pc = .ok (.multianewarray ix 2, 4)) (kk : G E (n + 10) (cs + 1 + 9) (ss + 9 + 9 * 8) (pc + 4) lv (.ref (Γ.2.1 n) :: st0)) : G E n cs ss pc lv (.int 8 :: .int 9 :: st0) := by
  obtain ⟨p, e, s, m, args, below, meth, c, hx, hb, hml, hr, hlk, hin, hown, hts, hSt, rfl⟩ := C
  intro H locs ls hP hS hl T hT X
  have e1 : "[" ++ (FieldType.array FieldType.int).toString = "[[I" := by decide +kernel
  obtain ⟨comp, cA, kA, g1, -, g3, g4, g5⟩ := arrayOverA_spec hSt.2.2.2.1
  have hA : cA = Γ.2.2.2 17 := Option.some.inj (g5.symm.trans (hSt.1.2 7 (Γ.2.2.2 17, .array .int) rfl).2)
  have hC : comp = Γ.2.2.2 11 := Option.some.inj (g1.symm.trans (hSt.1.2 1 (Γ.2.2.2 11, .int) rfl).2)
  subst hA hC
  obtain ⟨-, kI, hkI, ci, hkindI⟩ := (hSt.1.2 1 (Γ.2.2.2 11, .int) rfl).1 0 (fun _ => .null)
  obtain ⟨vm₁, X', step⟩ := mn_law X hx (own := own) (index := ix) hown (hts _ hw) (by rw [← e1]; exact g5) g3 g4 hkI hkindI (g := F0 m pc ls (.int 8 :: .int 9 :: st0)) rfl (by rw [hb]; exact d) (n := 9) (k := 8) (N := 9) (K := 8) (rest := st0) rfl (by decide) (by decide) (by decide) (by decide) (by decide) (by decide) (by decide) hc hs
  have hg := hSt.2.2.2.2
  have hTh : (T.setVm vm₁).heap = H := hT
  obtain ⟨-, -, f1, f2, f3, f4, -⟩ := mn_st_facts (T.setVm vm₁) (Γ.2.2.2 17) (Γ.2.2.2 11) 9 8 9
  rw [hTh] at f1 f2 f3 f4
  generalize mn_st (T.setVm vm₁) (Γ.2.2.2 17) (Γ.2.2.2 11) 9 8 9 = F at X' step f1 f2 f3 f4
  have hsz := hP.2
  have hk : PB Γ E (n + 10) F.heap := by
    refine ⟨fun k hk => ?_, by rw [f1, hsz, hg n, hg (n + 10)]; omega⟩
    by_cases h1 : k < n
    · have h2 := hP.1 k h1
      exact h2.kept (f3 _ h2.lt)
    · by_cases h3 : k = n
      · subst h3
        rw [hE0]
        show F.heap[Γ.2.1 k]? = some (vp_cell _ (9, .inr (.inr (.inr (.inr f)))))
        rw [← hsz, f2, outA, vp_cell_q]
        congr 1
        refine arrV_cg (fun j hj => ?_)
        rw [if_pos hj, hf j hj, hsz, hg k, hg (k + 1 + j), show Γ.2.1 0 + k + 1 + j = Γ.2.1 0 + (k + 1 + j) by omega]
      · obtain ⟨j, rfl⟩ : ∃ j, k = n + 1 + j := ⟨k - (n + 1), by omega⟩
        rw [hE1 j (by omega)]
        show F.heap[Γ.2.1 (n + 1 + j)]? = some (vp_cell _ _)
        have h4 := f4 j (by omega)
        rw [hsz, hg n] at h4
        rw [hg (n + 1 + j), show Γ.2.1 0 + (n + 1 + j) = Γ.2.1 0 + n + 1 + j by omega, h4]
        show some ({ cls := Γ.2.2.2 11, slots := Array.replicate 8 (.int 0), vm := .none } : Cell) = _
        rw [arrV_new]
        rfl
  have hL : ∀ l ∈ locs ++ mn_lc T.heap.size 9, AB Γ l.base := fun l h => by
    rcases List.mem_append.mp h with h1 | h1
    · exact hS.2.2 l h1
    · rw [mn_lc_base _ _ l h1, hT, hsz]
      show Γ.2.1 0 ≤ Γ.2.1 n
      rw [hg n]
      omega
  obtain ⟨t, a1, b1⟩ := kk F.heap (locs ++ mn_lc T.heap.size 9) ls hk ⟨Nat.le_trans hS.1 (by omega), fun q h1 h2 => (f3 q (Nat.lt_of_lt_of_le h1 hS.1)).trans (hS.2.1 q h1 h2), hL⟩ hl F rfl X'
  refine ⟨t, step t ?_, b1⟩
  rw [show T.heap.size = Γ.2.1 n by rw [hT]; exact hsz]
  exact a1
theorem kE_lp_Tue : ∀ i, i < 9 → kd (46 + 6 * i) = 7 := by decide +kernel
theorem lp_Tue {Γ : GmT} {fr mc ms : Nat} {E' : EB} {n' : Nat} {G : EB → Nat → Nat → Nat → Nat → List (Nat × Value) → List Value → Prop} {c1 s1 : Nat} {F : EB} {fs : List Value} (C : CxB Γ "RiverTuesdays$Tuesday" prog_8_method_1_code 2 fr mc ms E' n' G) (hfr : 1 + 1 ≤ fr ∧ 8 + (1 + 11) + 40 * 1 ≤ 40 * fr) (hc1 : c1 + 54 ≤ mc) (hs1 : s1 + 423 ≤ ms) (hfs : fs[0]? = some (.ref (Γ.2.1 33))) (hF : ∀ k, 46 ≤ k → k < 100 → F k = bl Γ k) (kend : G (oB (oB (fB Γ F 46 (6 * 9)) 33 (.inl (Γ.2.2.2 16, 9, rfE (fA Γ 46 6 9)))) 32 (.inr (6, fs))) (46 + 6 * 9) (c1 + 6 * 9) (s1 + 47 * 9) 68 [(1, .int (zI ((9 : Nat) : Int))), (0, .ref (Γ.2.1 32))] []) : ∀ f i n cs ss, i + f = 9 → n = 46 + 6 * i → cs = c1 + 6 * i → ss = s1 + 47 * i → G (oB (oB (fB Γ F 46 (6 * i)) 33 (.inl (Γ.2.2.2 16, 9, rfE (fA Γ 46 6 i)))) 32 (.inr (6, fs))) n cs ss 43 [(1, .int (zI (i : Int))), (0, .ref (Γ.2.1 32))] [] := by
  intro f
  induction f with
  | zero =>
    intro i n cs ss h hn hcs hss
    have h : i = 9 := by omega
    subst h hn hcs hss
    refine b_iload C 0 d_TuesdayI_43 rfl rfl ?_
    refine b_bipush C d_TuesdayI_44 (v := 8) rfl ?_
    exact b_icmpgt C d_TuesdayI_46 (tgt := 68) (by decide) (fun _ => kend) (fun q => absurd (by decide +kernel) q)
  | succ f ih =>
    intro i n cs ss h hn hcs hss
    subst hn
    refine b_iload C 0 d_TuesdayI_43 rfl rfl ?_
    refine b_bipush C d_TuesdayI_44 (v := 8) rfl ?_
    refine b_icmpgt C d_TuesdayI_46 (tgt := 68) (by decide) (fun q => absurd q (by rw [show (8 : Int32) = zI 8 from rfl, zI_lt (by omega) (by omega) (by omega) (by omega)]; omega)) (fun _ => ?_)
    refine b_aload C 1 d_TuesdayI_49 rfl rfl ?_
    refine b_get C (a := 32) (ci := 6) (T := cT6) (N := 6) (oB_eq _ _ _) (by omega) rfl cW6 0 (by decide) rfl hfs (mGW (List.mem_of_getElem? (i := 233) (by decide +kernel)) rfl) d_TuesdayI_50 ?_
    refine b_iload C 0 d_TuesdayI_53 rfl rfl ?_
    have hk := kE_lp_Tue i (by omega)
    refine b_mk C okI_Waters (Or.inl (by decide +kernel)) (mGW (List.mem_of_getElem? (i := 228) (by decide +kernel)) rfl) hk (by omega) (by decide) (sz := 6) (fun k h1 h2 => (oB_ne (by omega)).trans ((fB_out (Or.inr (by omega))).trans (hF k (by omega) (by omega)))) hfr (Nat.le_of_ble_eq_true rfl) (c_Waters_init Γ hk) (by omega) (by omega) d_TuesdayI_54 d_TuesdayI_57 d_TuesdayI_58 ?_
    refine b_aast C (a := 33) (w := 46 + 6 * i) (t := 16) (N := 9) (q := 6) (ci := 7) (f := fA Γ 46 6 i) ((oB_ne (by decide)).trans ((fB_out (Or.inl (by omega))).trans (oB_eq _ _ _))) (by omega) rfl ((oB_ne (by omega)).trans ((fB_in (by omega) (by omega)).trans (enc7 Γ _ hk))) (by omega) rfl (inb_in (inb_t (by omega) (by omega) (by omega))) d_TuesdayI_61 ?_
    rw [fB_oB (Or.inl (by omega)), fB_fB, oB_comm (show 32 ≠ 33 by decide), oB_idem, zI_nat (by omega), fA_up, show 6 * i + 6 = 6 * (i + 1) by omega]
    refine b_iinc C 0 d_TuesdayI_62 rfl (v := zI ((i + 1 : Nat) : Int)) (by show zI _ + zI 1 = _; rw [zI_add]; rfl) (by decide) rfl ?_
    exact b_goto C d_TuesdayI_65 (tgt := 43) (by decide) (ih (i + 1) _ _ _ (by omega) (by omega) (by omega) (by omega))
theorem lp_Tue_all {Γ : GmT} {fr mc ms : Nat} {E' : EB} {n' : Nat} {G : EB → Nat → Nat → Nat → Nat → List (Nat × Value) → List Value → Prop} {c1 s1 : Nat} {F : EB} {fs : List Value} (C : CxB Γ "RiverTuesdays$Tuesday" prog_8_method_1_code 2 fr mc ms E' n' G) (hfr : 1 + 1 ≤ fr ∧ 8 + (1 + 11) + 40 * 1 ≤ 40 * fr) (hc1 : c1 + 54 ≤ mc) (hs1 : s1 + 423 ≤ ms) (hfs : fs[0]? = some (.ref (Γ.2.1 33))) (hF : ∀ k, 46 ≤ k → k < 100 → F k = bl Γ k) (hFa : F 33 = (.inl (Γ.2.2.2 16, 9, rfE (fun _ => none)))) (kend : G (oB (oB (fB Γ F 46 54) 33 (enc Γ (D0 33) 33)) 32 (.inr (6, fs))) 100 (c1 + 54) (s1 + 423) 68 [(1, .int (zI ((9 : Nat) : Int))), (0, .ref (Γ.2.1 32))] []) : G (oB F 32 (.inr (6, fs))) 46 c1 s1 43 [(1, .int (zI ((0 : Nat) : Int))), (0, .ref (Γ.2.1 32))] [] := by
  have h0 : oB (fB Γ F 46 (6 * 0)) 33 (.inl (Γ.2.2.2 16, 9, rfE (fA Γ 46 6 0))) = F := by
    rw [show 6 * 0 = 0 from rfl, fB_0, fA_0]
    exact oB_self hFa
  rw [← h0]
  refine lp_Tue C hfr hc1 hs1 hfs hF ?_ 9 0 _ _ _ rfl rfl rfl rfl
  refine b_conv C (a := 33) (N := 9) (f := fA Γ 46 6 9) (g := fun j => some (Γ.2.1 (46 + 6 * j))) ((oB_ne (by decide)).trans (oB_eq _ _ _)) (fun j hj => if_pos hj) ?_
  rw [oB_comm (show 32 ≠ 33 by decide), oB_idem]
  have h1 : enc Γ (D0 33) 33 = .inl (Γ.2.2.2 16, 9, rfE (fun j => some (Γ.2.1 (46 + 6 * j)))) := by rw [enc16 Γ _ (by decide +kernel), show ln 33 = 9 by decide +kernel]; rfl
  rw [h1] at kend
  exact kend
theorem kL_Tue : ∀ j, j < 9 → kd (36 + 1 + j) = 11 ∧ ln (36 + 1 + j) = 8 := by decide +kernel
theorem c_Tuesday_init (Γ : GmT) : CtB Γ yI_Tuesday prog_8_method_1_code 2 2 67 531 32 68 := by
  have hb : kd 32 = 6 := by decide +kernel
  intro E hE
  refine MtB_of rfl rfl (Nat.le_of_ble_eq_true rfl) fun G C => ?_
  have h0 : E 32 = .inr (6, dfl 6) := (hE _ (by omega) (by omega)).trans (bl_o hb (by decide))
  rw [← oB_self h0]
  refine b_aload C 0 d_TuesdayI_0 rfl rfl ?_
  refine b_objInit C oi_Tuesday (by decide) ow1 ow2 d_TuesdayI_1 ?_
  refine b_aload C 0 d_TuesdayI_4 rfl rfl ?_
  refine b_bipush C d_TuesdayI_5 (v := 9) rfl ?_
  refine b_anew C (D := "RiverTuesdays$Waters") (t := 16) (N := 9) (q := 6) rfl (by decide +kernel) (mGW (List.mem_of_getElem? (i := 228) (by decide +kernel)) rfl) (by decide) (by decide) (by decide) ((oB_ne (by omega)).trans ((hE _ (by omega) (by omega)).trans (bl_r (show isA 16 33 9 from ⟨by decide +kernel, by decide +kernel⟩) (by decide)))) (by decide) (by decide) d_TuesdayI_7 ?_
  refine b_putF C (ci := 6) (T := cT6) (N := 6) (Y := cY6) (ty := .array (.object "RiverTuesdays$Waters")) (by omega) rfl cW6 cYo6 cD6 0 (by decide) rfl (by decide +kernel) rfl rfl (Nat.le_of_ble_eq_true rfl) (mGW (List.mem_of_getElem? (i := 233) (by decide +kernel)) rfl) d_TuesdayI_10 ?_
  refine b_aload C 0 d_TuesdayI_13 rfl rfl ?_
  refine b_bipush C d_TuesdayI_14 (v := 9) rfl ?_
  refine b_newa C (t := 11) (N := 9) (q := 1) (ty := .int) rfl rfl (fun _ _ h => h) rfl acw_int (by decide) (by decide) (by decide) ((oB_ne (by omega)).trans ((hE _ (by omega) (by omega)).trans (bl_a (show isA 11 34 9 from ⟨by decide +kernel, by decide +kernel⟩) (by decide)))) (by decide) (by decide) d_TuesdayI_16 ?_
  refine b_putF C (ci := 6) (T := cT6) (N := 6) (Y := cY6) (ty := .array .int) (by omega) rfl cW6 cYo6 cD6 1 (by decide) rfl (by decide +kernel) rfl rfl (Nat.le_of_ble_eq_true rfl) (mGW (List.mem_of_getElem? (i := 235) (by decide +kernel)) rfl) d_TuesdayI_18 ?_
  refine b_aload C 0 d_TuesdayI_21 rfl rfl ?_
  refine b_bipush C d_TuesdayI_22 (v := 9) rfl ?_
  refine b_newa C (t := 11) (N := 9) (q := 1) (ty := .int) rfl rfl (fun _ _ h => h) rfl acw_int (by decide) (by decide) (by decide) ((oB_ne (by omega)).trans ((hE _ (by omega) (by omega)).trans (bl_a (show isA 11 35 9 from ⟨by decide +kernel, by decide +kernel⟩) (by decide)))) (by decide) (by decide) d_TuesdayI_24 ?_
  refine b_putF C (ci := 6) (T := cT6) (N := 6) (Y := cY6) (ty := .array .int) (by omega) rfl cW6 cYo6 cD6 2 (by decide) rfl (by decide +kernel) rfl rfl (Nat.le_of_ble_eq_true rfl) (mGW (List.mem_of_getElem? (i := 236) (by decide +kernel)) rfl) d_TuesdayI_26 ?_
  refine b_aload C 0 d_TuesdayI_29 rfl rfl ?_
  refine b_bipush C d_TuesdayI_30 (v := 9) rfl ?_
  refine b_bipush C d_TuesdayI_32 (v := 8) rfl ?_
  have h36 : E 36 = .inl (Γ.2.2.2 17, 9, rfE (fun j => some (Γ.2.1 (37 + 1 * j)))) := (hE 36 (by omega) (by omega)).trans (by unfold bl; rw [show kd 36 = 17 by decide +kernel, if_neg (by decide), if_neg (by decide), if_pos rfl, enc17 Γ _ (by decide +kernel), show ln 36 = 9 by decide +kernel]; rfl)
  refine b_mna C (n := 36) (mGW (List.mem_of_getElem? (i := 230) (by decide +kernel)) rfl) ((oB_ne (by decide)).trans h36) (fun j _ => by rw [Nat.one_mul]) (fun j hj => (oB_ne (by omega)).trans ((hE _ (by omega) (by omega)).trans (bl_a (kL_Tue j hj) (by decide)))) (by decide) (by decide) d_TuesdayI_34 ?_
  refine b_putF C (ci := 6) (T := cT6) (N := 6) (Y := cY6) (ty := .array (.array .int)) (by omega) rfl cW6 cYo6 cD6 3 (by decide) rfl (by decide +kernel) rfl rfl (Nat.le_of_ble_eq_true rfl) (mGW (List.mem_of_getElem? (i := 238) (by decide +kernel)) rfl) d_TuesdayI_38 ?_
  generalize hfs : List.set (α := Value) _ 3 _ = fs
  have q0 : fs[0]? = some (.ref (Γ.2.1 33)) := by rw [← hfs]; rfl
  have hff : fs = fl6 Γ (fun _ => 0) 32 := by rw [← hfs]; rfl
  refine b_iconst C d_TuesdayI_41 (v := 0) rfl ?_
  refine b_istore C d_TuesdayI_42 rfl (by decide) rfl ?_
  refine lp_Tue_all C (c1 := 13) (s1 := 108) ⟨by decide, by decide⟩ (by decide) (by decide) q0 (fun k h1 h2 => hE k (by omega) (by omega)) ((hE 33 (by omega) (by omega)).trans (bl_r (t := 16) (N := 9) ⟨by decide +kernel, by decide +kernel⟩ (by decide))) ?_
  refine b_ret C (by decide) (by decide) rfl (fun k hk => ?_) d_TuesdayI_68
  by_cases e : k = 32
  · rw [e, oB_eq, fB_in (by omega) (by omega), enc6 Γ _ hb, d0_z (by omega) (by omega) (by decide) (by decide), hff]
  rw [oB_ne e]
  by_cases h1 : k < 32
  · rw [oB_ne (by omega), fB_out (by omega), fB_out (Or.inl h1)]
  rw [fB_in (a := 32) (sz := 68) (by omega) (by omega)]
  by_cases e1 : k = 33
  · rw [e1, oB_eq]
  rw [oB_ne e1]
  by_cases e2 : 46 ≤ k ∧ k < 46 + 54
  · exact fB_in e2.1 e2.2
  refine (fB_out (by omega)).trans ?_
  rw [hE k (by omega) (by omega)]
  by_cases e3 : k = 36
  · rw [e3]; unfold bl; rw [show kd 36 = 17 by decide +kernel, if_neg (by decide), if_neg (by decide), if_pos rfl]
  have h9 : ∀ k, k < 46 → 33 < k → k ≠ 36 → kd k = 11 := by decide +kernel
  exact bl_d (h9 k (by omega) (by omega) e3) (by decide) (by omega) (by omega)
