/-! the law: its loop, to the end -/
theorem and63 (x : Int32) : 0 ≤ (x &&& 63).toInt ∧ (x &&& 63).toInt < 64 := by
  have h : (x &&& 63).toBitVec.toNat = x.toBitVec.toNat &&& 63 := by
    show (x.toBitVec &&& (63 : BitVec 32)).toNat = _
    rw [BitVec.toNat_and]; rfl
  have h2 : x.toBitVec.toNat &&& 63 ≤ 63 := Nat.and_le_right
  have h3 : (x &&& 63).toInt = ((x &&& 63).toBitVec.toNat : Int) := by
    show (x &&& 63).toBitVec.toInt = _
    exact BitVec.toInt_eq_toNat_of_lt (by omega)
  omega
theorem law_loop {Γ : GmT} {b L : Nat} {xs : Nat → Int32} {CL SL : Nat} {G : Dt → Nat → List (Nat × Value) → List Value → Prop} (C : LawG Γ b L xs CL SL G) : ∀ (f j : Nat) (D : Dt), Inv D → L < 6 * j + 6 * f + 6 → 6 * j ≤ 3072 → G D 18 (lvL Γ b (zI ((6 * j : Nat) : Int))) [] := by
  have hL : L ≤ 3072 := by
    obtain ⟨p, e, s, m, below, meth, c, h0, hSt, hA, hL, hr⟩ := C
    exact hL
  intro f
  induction f with
  | zero =>
    intro j D hI h1 h2
    refine l_iload C 3 d_law_18 rfl rfl ?_
    refine l_aload C 0 d_law_19 rfl rfl ?_
    refine l_slen C d_law_20 ?_
    refine l_bipush C d_law_21 (v := 6) rfl ?_
    refine l_isub C d_law_23 ?_
    rw [zI_ofNat, show (6 : Int32) = zI 6 from rfl, zI_sub]
    refine l_icmpgt C d_law_24 (tgt := 1600) (by decide) (fun _ => ?_) (fun q => absurd ((zI_lt (by omega) (by omega) (by omega) (by omega)).mpr (by omega)) q)
    exact l_iconst C d_law_1600 (v := 1) rfl (l_end C d_law_1601)
  | succ f ih =>
    intro j D hI h1 h2
    refine l_iload C 3 d_law_18 rfl rfl ?_
    refine l_aload C 0 d_law_19 rfl rfl ?_
    refine l_slen C d_law_20 ?_
    refine l_bipush C d_law_21 (v := 6) rfl ?_
    refine l_isub C d_law_23 ?_
    rw [zI_ofNat, show (6 : Int32) = zI 6 from rfl, zI_sub]
    refine l_icmpgt C d_law_24 (tgt := 1600) (by decide) (fun _ => ?_) (fun q => ?_)
    · exact l_iconst C d_law_1600 (v := 1) rfl (l_end C d_law_1601)
    · have q : 6 * j + 6 ≤ L := by
        rw [zI_lt (by omega) (by omega) (by omega) (by omega)] at q
        omega
      have hin : ∀ k : Nat, k < 6 → vp_in (zI ((6 * j : Nat) : Int) + zI (k : Int)) L := fun k hk => by
        rw [zI_add]
        exact inb_in (inb_t (by omega) (by omega) (by omega))
      have next : ∀ D2, Inv D2 → G D2 1594 (lvL Γ b (zI ((6 * j : Nat) : Int))) [] := fun D2 hI2 => by
        refine l_iinc C 3 d_law_1594 rfl (v := zI ((6 * (j + 1) : Nat) : Int)) ?_ (by decide) rfl ?_
        · show zI _ + zI 6 = _
          rw [zI_add]; congr 1
        · refine l_goto C d_law_1597 (tgt := 18) (by decide) ?_
          refine l_lv C [1, 2, 3, 0] (lv' := lvL Γ b (zI ((6 * (j + 1) : Nat) : Int))) rfl ?_
          exact ih (j + 1) D2 hI2 (by omega) (by omega)
      refine l_aload C 0 d_law_27 rfl rfl ?_
      refine l_iload C 3 d_law_28 rfl rfl ?_
      refine l_sld C ?_ d_law_29 ?_
      · have := hin 0 (by omega)
        rw [show zI ((0 : Nat) : Int) = 0 from rfl, Int32.add_zero] at this
        exact this
      refine l_bipush C d_law_30 (v := 63) rfl ?_
      refine l_iand C d_law_32 ?_
      generalize xs _ = y
      have hy := and63 y
      by_cases hlt : (y &&& 63).toInt < 49
      · have h9 : (y &&& 63).toInt = (((y &&& 63).toInt.toNat : Nat) : Int) := by omega
        refine l_tsIn C d_law_33 (off := ((tgN (y &&& 63).toInt.toNat : Nat) : Int) - 33) (tgt := tgN (y &&& 63).toInt.toNat) (by omega) (by omega) ?_ (by omega) ?_
        · rw [Int.sub_zero]
          exact tg_d _ (by omega)
        · exact law_case C hI ⟨hin 1 (by omega), hin 2 (by omega), hin 3 (by omega), hin 4 (by omega), hin 5 (by omega)⟩ next _ (by omega)
      · exact l_tsOut C d_law_33 (Or.inr (by omega)) (tgt := 1594) (by decide) (next D hI)
