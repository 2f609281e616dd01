/-! the class's hour -/
theorem zI_1 (z : Int) : zI z + 1 = zI (z + 1) := by rw [show (1 : Int32) = zI 1 from rfl, zI_add]
theorem BRep.at {D : Dt} {b : Nat} {B : BedT} (h : BRep D b B) (hB : BOk B) {j : Nat} (hj : j < B.1) : D (b + 1) j = zI (kK B j) ∧ D (b + 2) j = zI (fF B j) ∧ D (b + 3) j = zI (sS B j) ∧ D (b + 4) j = zI (rR B j) ∧ D (b + 5) j = zI (hH B j) := h.2.2 j (by have := hB.1; omega) hj
theorem c_drop {D : Dt} {b w i : Nat} {B : BedT} {a : Nat → Int} (hb : BRep D b B) (hB : BOk B) (ha : ∀ j, j < 8 → D (w + 1) j = zI (a j)) (hi : i < B.1) : f_Waters_drop w b (zI i) D = some (zI (drpZ B a i), D) := by
  have h8 := hB.1
  unfold f_Waters_drop b_Waters_drop_34
  rw [hb.1, zI_s]
  have e1 := (hb.at hB hi).2.1
  have e2 := ha i (by omega)
  simp only [inb_t (show (0 : Int) ≤ (i : Int) by omega) (show (i : Int) < (8 : Nat) by omega) (by omega), if_true, zI_nat (show i < 2147483648 by omega), e1, e2]
  unfold drpZ nxtZ
  by_cases c : i + 1 < B.1
  · rw [if_neg (by rw [zI_le (by omega) (by omega) (by omega) (by omega)]; omega), if_pos c]
    simp only [inb_t (show (0 : Int) ≤ ((i + 1 : Nat) : Int) by omega) (show ((i + 1 : Nat) : Int) < (8 : Nat) by omega) (by omega), if_true, zI_nat (show i + 1 < 2147483648 by omega), (hb.at hB c).2.1, ha (i + 1) (by omega), zI_add, zI_sub]
  · rw [if_pos (by rw [zI_le (by omega) (by omega) (by omega) (by omega)]; omega), if_neg c, (hb.2.1 (by omega)).2, zI_add, zI_sub]
theorem c_letsOn {D : Dt} {b i : Nat} {B : BedT} (hb : BRep D b B) (hB : BOk B) (hi : i < B.1) : f_Bed_letsOn b (zI i) D = some (zI (if hH B i = 1 then 0 else if kK B i = 3 ∨ kK B i = 5 then 2 else 1000000000), D) := by
  have h8 := hB.1
  obtain ⟨⟨k0, k5⟩, -, -, -, h01⟩ := hB.2.2.2 i hi
  unfold f_Bed_letsOn b_Bed_letsOn_32
  obtain ⟨e1, -, -, -, e5⟩ := hb.at hB hi
  simp only [inb_t (show (0 : Int) ≤ (i : Int) by omega) (show (i : Int) < (8 : Nat) by omega) (by omega), if_true, zI_nat (show i < 2147483648 by omega), e1, e5, show (1 : Int32) = zI 1 from rfl, show (3 : Int32) = zI 3 from rfl, show (5 : Int32) = zI 5 from rfl, zI_eq (show -2147483648 ≤ hH B i by omega) (show hH B i < 2147483648 by omega) (show -2147483648 ≤ (1 : Int) by omega) (show (1 : Int) < 2147483648 by omega), zI_eq (show -2147483648 ≤ kK B i by omega) (show kK B i < 2147483648 by omega) (show -2147483648 ≤ (3 : Int) by omega) (show (3 : Int) < 2147483648 by omega), zI_eq (show -2147483648 ≤ kK B i by omega) (show kK B i < 2147483648 by omega) (show -2147483648 ≤ (5 : Int) by omega) (show (5 : Int) < 2147483648 by omega)]
  by_cases c : hH B i = 1
  · simp only [c, if_true]; rfl
  · simp only [c, if_false]
    by_cases d : kK B i = 3
    · simp only [d, if_true, true_or]; rfl
    · simp only [d, if_false, false_or]
      by_cases d2 : kK B i = 5
      · simp only [d2, if_true]; rfl
      · simp only [d2, if_false]; rfl
theorem c_grinds {D : Dt} {b i : Nat} {B : BedT} {r : Int} (hb : BRep D b B) (hB : BOk B) (hi : i < B.1) (h0 : 0 ≤ r) (h1 : r < 1000000) : f_Bed_grinds b (zI i) (zI r) D = some (zI (grdZ (kK B i) r), D) := by
  have h8 := hB.1
  obtain ⟨⟨k0, k5⟩, -⟩ := hB.2.2.2 i hi
  unfold f_Bed_grinds grdZ
  obtain ⟨e1, -⟩ := hb.at hB hi
  simp only [inb_t (show (0 : Int) ≤ (i : Int) by omega) (show (i : Int) < (8 : Nat) by omega) (by omega), if_true, zI_nat (show i < 2147483648 by omega), e1, show (1 : Int32) = zI 1 from rfl, show (4 : Int32) = zI 4 from rfl, show (2 : Int32) = zI 2 from rfl, show (0 : Int32) = zI 0 from rfl, zI_eq (show -2147483648 ≤ kK B i by omega) (show kK B i < 2147483648 by omega) (show -2147483648 ≤ (4 : Int) by omega) (show (4 : Int) < 2147483648 by omega), zI_eq (show -2147483648 ≤ kK B i by omega) (show kK B i < 2147483648 by omega) (show -2147483648 ≤ (1 : Int) by omega) (show (1 : Int) < 2147483648 by omega), zI_lt (show -2147483648 ≤ r by omega) (show r < 2147483648 by omega) (show -2147483648 ≤ (2 : Int) by omega) (show (2 : Int) < 2147483648 by omega), zI_div h0 (show r < 2147483648 by omega) (show (0 : Int) < 2 by omega) (show (2 : Int) < 2147483648 by omega)]
  by_cases c : kK B i = 4
  · simp only [c, if_true]
    rw [if_neg (by decide)]
  · simp only [c, if_false]
    by_cases d : kK B i = 1
    · simp only [d, if_true, true_and]
      by_cases q : r < 2
      · rw [if_pos q, if_neg (by omega)]
      · rw [if_neg q, if_pos (by omega)]
    · simp only [d, if_false, false_and]
theorem run_eq {B : BedT} {a : Nat → Int} {i : Nat} (h0 : 0 ≤ a i) (h1 : a i < 1000000) (d1 : -1000000 ≤ drpZ B a i) (d2 : drpZ B a i < 1000000) : imin (imin ((imax (zI (drpZ B a i) + 1) 0) / 2) (zI (a i))) (zI (if hH B i = 1 then 0 else if kK B i = 3 ∨ kK B i = 5 then 2 else 1000000000)) = zI (runZ B a i) := by
  have hL : 0 ≤ (if hH B i = 1 then (0 : Int) else if kK B i = 3 ∨ kK B i = 5 then 2 else 1000000000) ∧ (if hH B i = 1 then (0 : Int) else if kK B i = 3 ∨ kK B i = 5 then 2 else 1000000000) ≤ 1000000000 := by
    by_cases c : hH B i = 1
    · rw [if_pos c]; omega
    · rw [if_neg c]
      by_cases d : kK B i = 3 ∨ kK B i = 5
      · rw [if_pos d]; omega
      · rw [if_neg d]; omega
  rw [zI_1, show (0 : Int32) = zI 0 from rfl, show (2 : Int32) = zI 2 from rfl, imax_z (by omega) (by omega) (by omega) (by omega), zI_div (by omega) (by omega) (by omega) (by omega), imin_z (by omega) (by omega) (by omega) (by omega), imin_z (by omega) (by omega) (by omega) (by omega)]
  congr 1
  unfold runZ halfZ
  by_cases c0 : drpZ B a i ≤ 0
  · rw [if_pos c0]
    by_cases c : hH B i = 1
    · rw [if_pos c, if_pos c]; omega
    · rw [if_neg c, if_neg c]
      by_cases d : kK B i = 3 ∨ kK B i = 5
      · rw [if_pos d, if_pos d]; omega
      · rw [if_neg d, if_neg d]; omega
  · rw [if_neg c0]
    by_cases c : hH B i = 1
    · rw [if_pos c, if_pos c]; omega
    · rw [if_neg c, if_neg c]
      by_cases d : kK B i = 3 ∨ kK B i = 5
      · rw [if_pos d, if_pos d]; omega
      · rw [if_neg d, if_neg d]; omega
/-- the class's water on the way down, houses below i done -/
def RRep (D : Dt) (w i : Nat) (x : RdT) : Prop := (∀ j, j < 8 → D (w + 1) j = zI (x.1 j)) ∧ (∀ j, j < 8 → D (w + 3) j = zI (x.2.1 j)) ∧ D w 6 = zI x.2.2.1 ∧ ∀ j, j < i → D (w + 4) j = zI (x.2.2.2 j)
theorem upd_z {f : Nat → Int32} {g : Nat → Int} {n i : Nat} (h : ∀ j, j < n → f j = zI (g j)) (v : Int) : ∀ j, j < n → upd f i (zI v) j = zI (fu g i v j) := by
  intro j hj
  by_cases e : j = i
  · subst e; rw [upd_at, fu_at]
  · rw [upd_ne e, fu_ne e]; exact h j hj
theorem drp_le {B : BedT} {a : Nat → Int} {i : Nat} (hB : BOk B) (hi : i < B.1) (h0 : ∀ j, 0 ≤ a j) (h1 : ∀ j, j < 8 → a j < 900000) : -1000000 ≤ drpZ B a i ∧ drpZ B a i < 1000000 := by
  have h8 := hB.1
  have b1 := (hB.2.2.2 i hi).2.1
  have := h0 i
  have := h1 i (by omega)
  unfold drpZ nxtZ
  by_cases c : i + 1 < B.1
  · rw [if_pos c]
    have b2 := (hB.2.2.2 (i + 1) c).2.1
    have := h0 (i + 1)
    have := h1 (i + 1) (by omega)
    omega
  · rw [if_neg c]
    have := hB.2.2.1
    omega
theorem c_runDown {D : Dt} {b w i : Nat} {B : BedT} {x : RdT} (hb : BRep D b B) (hB : BOk B) (hd : w + 5 < b ∨ b + 5 < w) (hx : RRep D w i x) (hi : i < B.1) (h0 : ∀ j, 0 ≤ x.1 j) (h1 : ∀ j, j < 8 → x.1 j < 900000) :
    ∃ D1, f_Waters_runDown w b (zI i) D = some ((), D1) ∧ RRep D1 w (i + 1) (rdS B i x) ∧ D1 w 5 = D w 5 ∧ ∀ k, k ≠ w → k ≠ w + 1 → k ≠ w + 3 → k ≠ w + 4 → D1 k = D k := by
  have h8 := hB.1
  obtain ⟨x1, x2, x3, x4⟩ := hx
  obtain ⟨d1, d2⟩ := drp_le hB hi h0 h1
  have r0 := h0 i
  have r1 := h1 i (by omega)
  obtain ⟨q1, q2⟩ := runZ_ok (B := B) (a := x.1) (i := i) r0
  unfold f_Waters_runDown
  rw [c_drop hb hB x1 hi, bnd_s, if_neg (by decide)]
  simp only [inb_t (show (0 : Int) ≤ (i : Int) by omega) (show (i : Int) < (8 : Nat) by omega) (by omega), if_true, zI_nat (show i < 2147483648 by omega)]
  rw [c_letsOn hb hB hi, bnd_s, nm_s, x1 i (by omega), run_eq r0 (by omega) d1 d2]
  have hb2 : BRep (wr D (w + 4) i (zI (runZ B x.1 i))) b B := hb.congr (fun k a c => by rw [wr_ne (by omega)])
  rw [nm_s, c_grinds hb2 hB hi q1 (by omega), bnd_s]
  simp only [nm_s]
  unfold rdS
  have z1 : (wr (wr D (w + 4) i (zI (runZ B x.1 i))) (w + 3) i (wr D (w + 4) i (zI (runZ B x.1 i)) (w + 3) i + zI (grdZ (kK B i) (runZ B x.1 i)))) (w + 1) i = zI (x.1 i) := by
    rw [wr_ne (by omega), wr_ne (by omega)]; exact x1 i (by omega)
  have z2 : wr D (w + 4) i (zI (runZ B x.1 i)) (w + 3) i + zI (grdZ (kK B i) (runZ B x.1 i)) = zI (x.2.1 i + grdZ (kK B i) (runZ B x.1 i)) := by
    rw [wr_ne (by omega), x2 i (by omega), zI_add]
  rw [z1, z2]
  generalize hr : runZ B x.1 i = r at *
  generalize hE : wr (wr (wr D (w + 4) i (zI r)) (w + 3) i (zI (x.2.1 i + grdZ (kK B i) r))) (w + 1) i (zI (x.1 i) - zI r) = E
  have E1 : E (w + 1) = upd (D (w + 1)) i (zI (x.1 i - r)) := by
    rw [← hE, wr_at, zI_sub, wr_ne (by omega), wr_ne (by omega)]
  have E3 : E (w + 3) = upd (D (w + 3)) i (zI (x.2.1 i + grdZ (kK B i) r)) := by
    rw [← hE, wr_ne (by omega), wr_at, wr_ne (by omega)]
  have E4 : E (w + 4) = upd (D (w + 4)) i (zI r) := by
    rw [← hE, wr_ne (by omega), wr_ne (by omega), wr_at]
  have Ek : ∀ k, k ≠ w + 1 → k ≠ w + 3 → k ≠ w + 4 → E k = D k := fun k p1 p3 p4 => by
    rw [← hE, wr_ne p1, wr_ne p3, wr_ne p4]
  rw [Ek b (by omega) (by omega) (by omega), hb.1, zI_s]
  have a1 : ∀ j, j < 8 → E (w + 1) j = zI (fu x.1 i (x.1 i - r) j) := by rw [E1]; exact upd_z x1 _
  have a3 : ∀ j, j < 8 → E (w + 3) j = zI (fu x.2.1 i (x.2.1 i + grdZ (kK B i) r) j) := by rw [E3]; exact upd_z x2 _
  have a4 : ∀ j, j < i + 1 → E (w + 4) j = zI (fu x.2.2.2 i r j) := by
    intro j hj
    rw [E4]
    by_cases e : j = i
    · subst e; rw [upd_at, fu_at]
    · rw [upd_ne e, fu_ne e]; exact x4 j (by omega)
  by_cases c : i + 1 < B.1
  · rw [if_neg (by rw [zI_le (by omega) (by omega) (by omega) (by omega)]; omega), if_pos (inb_t (by omega) (by omega) (by omega)), if_pos (inb_t (by omega) (by omega) (by omega)), zI_nat (by omega), a1 (i + 1) (by omega), fu_ne (by omega), zI_add]
    refine ⟨_, rfl, ⟨?_, ?_, ?_, ?_⟩, ?_, fun k p0 p1 p3 p4 => by rw [wr_ne p1]; exact Ek k p1 p3 p4⟩
    · rw [wr_at]; simp only [c, if_true]; exact upd_z a1 _
    · rw [wr_ne (by omega)]; exact a3
    · rw [wr_ne (by omega), Ek w (by omega) (by omega) (by omega)]; simp only [c, if_true]; exact x3
    · rw [wr_ne (by omega)]; exact a4
    · rw [wr_ne (by omega), Ek w (by omega) (by omega) (by omega)]
  · rw [if_pos (by rw [zI_le (by omega) (by omega) (by omega) (by omega)]; omega)]
    refine ⟨_, rfl, ⟨?_, ?_, ?_, ?_⟩, ?_, fun k p0 p1 p3 p4 => by rw [wr_ne p0]; exact Ek k p1 p3 p4⟩
    · rw [wr_ne (by omega)]; simp only [c, if_false]; exact a1
    · rw [wr_ne (by omega)]; exact a3
    · rw [wr_at, upd_at, Ek w (by omega) (by omega) (by omega), x3, zI_add]; simp only [c, if_false]
    · rw [wr_ne (by omega)]; exact a4
    · rw [wr_at, upd_ne (by omega), Ek w (by omega) (by omega) (by omega)]
