/-! rows: the model's row; lay, at, tear -/
theorem zI_p60 (r i : Nat) : (60 : Int32) * zI r + zI i = zI ((60 * r + i : Nat) : Int) := by
  rw [show (60 : Int32) = zI 60 from rfl, zI_mul, zI_add]; congr 1
theorem m_row_loop (r : Nat) (hr : r < 6) (v : Int32) (D : Dt) : ∃ D1, lp_Model_row_34 FU (zI r) v 0 D = some (v, D1) ∧ (∀ i, i < 60 → D1 179 (60 * r + i) = 0) ∧ (∀ j, (j < 60 * r ∨ 60 * r + 60 ≤ j) → D1 179 j = D 179 j) ∧ ∀ k, k ≠ 179 → D1 k = D k := by
  unfold lp_Model_row_34
  obtain ⟨m, hm⟩ := FU_eq (n := 61) (by omega)
  rw [hm, show m + 61 = (m + 1) + 60 by omega]
  obtain ⟨E, ⟨h1, h2, h3⟩, e⟩ := itr_go (fun _ _ _ _ => none) (s_Model_row_34) (fun i E k => k (zI r) v (zI i) E) 60 (fun i (E : Dt) => (∀ j, j < i → E 179 (60 * r + j) = 0) ∧ (∀ j, (j < 60 * r ∨ 60 * r + 60 ≤ j) → E 179 j = D 179 j) ∧ ∀ k, k ≠ 179 → E k = D k)
    (fun i hi E ⟨g1, g2, g3⟩ => by
      refine ⟨wr E 179 (60 * r + i) 0, ⟨fun j hj => ?_, fun j hj => ?_, fun k hk => by rw [wr_ne hk]; exact g3 k hk⟩, fun k => ?_⟩
      · rw [wr_at]
        by_cases q : j = i
        · subst q; rw [upd_at]
        · rw [upd_ne (by omega)]; exact g1 j (by omega)
      · rw [wr_at, upd_ne (by omega)]; exact g2 j hj
      · unfold s_Model_row_34
        rw [if_neg (by rw [show (60 : Int32) = zI 60 from rfl, zI_le (by omega) (by omega) (by omega) (by omega)]; omega), zI_p60, if_pos (inb_t (by omega) (by omega) (by omega)), nm_s, zI_nat (by omega), zI_s])
    D ⟨fun j hj => by omega, fun j _ => rfl, fun k _ => rfl⟩
  refine ⟨E, ?_, h1, h2, h3⟩
  refine (e (m + 1)).trans ?_
  rw [itr_s]
  unfold s_Model_row_34
  rw [if_pos (by rw [show (60 : Int32) = zI 60 from rfl]; exact (zI_le (by omega) (by omega) (by omega) (by omega)).mpr (by omega))]
theorem q_row {D : Dt} {S : SstT} (h : MRep D S) (ho : Ok1 S) (v1 v2 : Int32) : MDo (f_Model_row v1 v2 D) D (sp_row v1 v2 S).1 (sp_row v1 v2 S).2 := by
  unfold f_Model_row sp_row
  simp only [m_isRow, bnd_s, zo_if, Int32.le_iff_toInt_le, tl]
  by_cases h1 : wi v1 0 5 = true
  · by_cases h2 : v2.toInt ≤ 60
    · by_cases h3 : 0 ≤ v2.toInt
      · simp only [h1, h2, h3, and_self, if_true]
        obtain ⟨r, hr, -, rfl⟩ := wi_nat h1 (by omega)
        have hr : r < 6 := by omega
        rw [if_pos (inb_t (by omega) (by omega) (by omega)), zI_nat (by omega), zI_toInt (by omega) (by omega), Int.toNat_natCast, nm_s]
        obtain ⟨D1, e1, e2, e3, e4⟩ := m_row_loop r hr v2 (wr D 178 r v2)
        rw [e1]
        have z1 : D1 178 = upd (D 178) r v2 := by rw [e4 178 (by omega), wr_at]
        refine ⟨_, rfl, h.setRow ho ⟨by rw [z1]; show upd (D 178) r v2 r = _; rw [upd_at, zI_self], fun i hi => ?_⟩ (fun q hq hn => by rw [z1, upd_ne hn]) (fun q i hq hn hi => by rw [e3 _ (by omega), wr_ne (by omega)]) (fun k a b _ => by rw [e4 k b, wr_ne a]) (fun j _ => by rw [e4 176 (by omega), wr_ne (by omega)]), fun k hk => by rw [e4 k (by omega), wr_ne (by omega)]⟩
        simp only at hi
        exact e2 i (by omega)
      · simp only [h1, h2, h3, and_self, if_true, if_false]
        exact (m_meets h 5 (by omega)).ret
    · simp only [h1, h2, and_false, if_true, if_false]
      exact MDo.same h _
  · simp only [h1, false_and, if_false, Bool.false_eq_true]
    exact MDo.same h _
/-- a row that is there -/
def rThere (S : SstT) (r : Nat) : Prop := (S.1 r).1 ≠ -1
theorem c_refusedRow {D : Dt} {S : SstT} (h : CRep D S) (ho : Ok1 S) (v : Int32) : (wi v 0 5 = false → f_Root_refusedRow v D = some (-1, D)) ∧ ∀ r : Nat, r < 6 → v = zI r → ((S.1 r).1 = -1 → CDo (f_Root_refusedRow v D) D (-3) (sFind S 1)) ∧ ((S.1 r).1 ≠ -1 → f_Root_refusedRow v D = some (0, D)) := by
  unfold f_Root_refusedRow f_Row_isThere
  simp only [c_isRow, bnd_s, zo_if]
  refine ⟨fun h1 => by simp only [h1, Bool.false_eq_true, if_false], fun r hr e => ?_⟩
  subst e
  have h1 : wi (zI r) 0 5 = true := by
    unfold wi; rw [zI_toInt (by omega) (by omega)]; exact decide_eq_true (by omega)
  have hz := (h.1 r hr).1
  have hok := ho.1 r hr
  simp only [h1, if_true, inb_t (show (0 : Int) ≤ (r : Int) by omega) (show (r : Int) < (6 : Nat) by omega) (by omega), zI_nat (show r < 2147483648 by omega), hz, show (-1 : Int32) = zI (-1) from rfl, zI_eq (show -2147483648 ≤ (S.1 r).1 by have := hok.1; omega) (show (S.1 r).1 < 2147483648 by have := hok.2; omega) (show -2147483648 ≤ (-1 : Int) by omega) (show (-1 : Int) < 2147483648 by omega)]
  refine ⟨fun q => ?_, fun q => ?_⟩
  · simp only [q, if_true, bnd_s]
    exact (c_find h 1 (by omega)).ret
  · simp only [q, if_false, bnd_s, show ¬ ((1 : Int32) = 0) by decide]
/-! lay, at, tear -/
def rOk (v1 : Int32) (S : SstT) (e : SstT → Int32 × SstT) (g : Nat → Int32 × SstT) : Int32 × SstT := if wi v1 0 5 = true then (if (S.1 v1.toInt.toNat).1 = -1 then (-3, sFind S 1) else g v1.toInt.toNat) else (-1, S)
def sp_at (v1 v2 : Int32) (S : SstT) : Int32 × SstT := rOk v1 S (fun S => (0, S)) (fun r => if 0 ≤ v2.toInt ∧ v2.toInt < (S.1 r).1 then (1, sTell S ((S.1 r).2 v2.toInt.toNat)) else (-3, sFind S 2))
def sp_lay (v1 v2 v3 : Int32) (S : SstT) : Int32 × SstT := rOk v1 S (fun S => (0, S)) (fun r => if 0 ≤ v2.toInt ∧ v2.toInt < (S.1 r).1 then (1, sTell (sRow S r ((S.1 r).1, fu (S.1 r).2 v2.toInt.toNat v3)) ((S.1 r).2 v2.toInt.toNat)) else (-3, sFind S 2))
def sp_tear (v1 : Int32) (S : SstT) : Int32 × SstT := rOk v1 S (fun S => (0, S)) (fun r => (1, sRow S r (-1, fun _ => 0)))
/-- a place of a row: refused, or there -/
theorem c_refusedPlace {D : Dt} {S : SstT} (h : CRep D S) (ho : Ok1 S) (v1 v2 : Int32) : (wi v1 0 5 = false → f_Root_refusedPlace v1 v2 D = some (-1, D)) ∧ ∀ r : Nat, r < 6 → v1 = zI r → ((S.1 r).1 = -1 → CDo (f_Root_refusedPlace v1 v2 D) D (-3) (sFind S 1)) ∧ ((S.1 r).1 ≠ -1 → (0 ≤ v2.toInt ∧ v2.toInt < (S.1 r).1 → f_Root_refusedPlace v1 v2 D = some (0, D)) ∧ (¬ (0 ≤ v2.toInt ∧ v2.toInt < (S.1 r).1) → CDo (f_Root_refusedPlace v1 v2 D) D (-3) (sFind S 2))) := by
  obtain ⟨k1, k2⟩ := c_refusedRow h ho v1
  unfold f_Root_refusedPlace b_Root_refusedPlace_33
  refine ⟨fun q => ?_, fun r hr e => ⟨fun q => ?_, fun q => ?_⟩⟩
  · rw [k1 q, bnd_s, if_neg (by decide)]
  · obtain ⟨D1, e1, e2⟩ := (k2 r hr e).1 q
    rw [e1, bnd_s, if_neg (by decide)]
    exact ⟨D1, rfl, e2⟩
  · rw [(k2 r hr e).2 q, bnd_s, if_pos rfl]
    subst e
    have hz := (h.1 r hr).1
    have hok := ho.1 r hr
    have e0 : (v2 < 0) ↔ v2.toInt < 0 := by rw [Int32.lt_iff_toInt_lt]; rfl
    have e1 : (zI (S.1 r).1 ≤ v2) ↔ (S.1 r).1 ≤ v2.toInt := by rw [Int32.le_iff_toInt_le, zI_toInt (by have := hok.1; omega) (by have := hok.2; omega)]
    simp only [inb_t (show (0 : Int) ≤ (r : Int) by omega) (show (r : Int) < (6 : Nat) by omega) (by omega), zI_nat (show r < 2147483648 by omega), hz, e0, e1, if_true]
    refine ⟨fun z => ?_, fun z => ?_⟩
    · rw [if_neg (by omega), if_neg (by omega)]
    · by_cases c1 : v2.toInt < 0
      · rw [if_pos c1]; exact (c_find h 2 (by omega)).ret
      · rw [if_neg c1, if_pos (by omega)]; exact (c_find h 2 (by omega)).ret
theorem wi_z {r : Nat} {a b : Int} (h1 : a ≤ r) (h2 : (r : Int) ≤ b) (h3 : r < 2147483648) : wi (zI r) a b = true := by
  unfold wi; rw [zI_toInt (by omega) (by omega)]; exact decide_eq_true ⟨h1, h2⟩
theorem k_at {D : Dt} {S : SstT} (h : CRep D S) (ho : Ok1 S) (v1 v2 : Int32) : CDo (f_Root_at v1 v2 D) D (sp_at v1 v2 S).1 (sp_at v1 v2 S).2 := by
  unfold f_Root_at sp_at rOk
  obtain ⟨k1, k2⟩ := c_refusedPlace h ho v1 v2
  by_cases h1 : wi v1 0 5 = true
  · obtain ⟨r, hr, -, rfl⟩ := wi_nat h1 (by omega)
    have hr : r < 6 := by omega
    obtain ⟨k3, k4⟩ := k2 r hr rfl
    simp only [h1, if_true, zI_toInt (show -2147483648 ≤ (r : Int) by omega) (show (r : Int) < 2147483648 by omega), Int.toNat_natCast]
    by_cases h2 : (S.1 r).1 = -1
    · obtain ⟨D1, e1, e2⟩ := k3 h2
      simp only [h2, if_true, e1, bnd_s, show ¬ ((-3 : Int32) = 0) by decide, if_false]
      exact ⟨D1, rfl, e2⟩
    · by_cases h3 : 0 ≤ v2.toInt ∧ v2.toInt < (S.1 r).1
      · obtain ⟨i, hi⟩ : ∃ i : Nat, v2.toInt = i := ⟨v2.toInt.toNat, by omega⟩
        have hv : v2 = zI i := by rw [← hi, zI_self]
        have hok := (ho.1 r hr).2
        simp only [(k4 h2).1 h3, bnd_s, h2, h3, and_self, if_true, if_false]
        rw [hi, Int.toNat_natCast, hv, if_pos (inb_t (by omega) (by omega) (by omega)), if_pos (inb_t (by omega) (by omega) (by omega)), zI_nat (by omega), zI_nat (by omega), (h.1 r hr).2 i (by omega)]
        exact (c_tell h _ _).ret
      · obtain ⟨D1, e1, e2⟩ := (k4 h2).2 h3
        simp only [h2, h3, if_false, e1, bnd_s, show ¬ ((-3 : Int32) = 0) by decide]
        exact ⟨D1, rfl, e2⟩
  · have h1 : wi v1 0 5 = false := by simpa using h1
    simp only [h1, Bool.false_eq_true, if_false, k1 h1, bnd_s, show ¬ ((-1 : Int32) = 0) by decide]
    exact CDo.same h _
theorem CDo.bind {o : Option (Int32 × Dt)} {D D0 : Dt} {x : Int32} {S : SstT} (h : CDo o D0 x S) (hf : FrC D D0) : CDo (bnd o (fun a b => some (a, b))) D x S := by
  obtain ⟨D1, rfl, h2, h3⟩ := h
  exact ⟨D1, rfl, h2, fun k hk => (h3 k hk).trans (hf k hk)⟩
theorem MDo.bind {o : Option (Int32 × Dt)} {D D0 : Dt} {x : Int32} {S : SstT} (h : MDo o D0 x S) (hf : FrM D D0) : MDo (bnd o (fun a b => some (a, b))) D x S := by
  obtain ⟨D1, rfl, h2, h3⟩ := h
  exact ⟨D1, rfl, h2, fun k hk => (h3 k hk).trans (hf k hk)⟩
/-- a place of a row is written -/
theorem CRep.layRow {D : Dt} {S : SstT} (h : CRep D S) {r i : Nat} (hr : r < 6) (v : Int32) : CRep (wr D (111 + 2 * r + 1) i v) (sRow S r ((S.1 r).1, fu (S.1 r).2 i v)) := by
  refine h.setRow hr ⟨by rw [wr_ne (by omega)]; exact (h.1 r hr).1, fun j hj => ?_⟩ (fun k a b => by rw [wr_ne b])
  rw [wr_at]
  by_cases e : j = i
  · subst e; rw [upd_at]; exact (fu_at _ _ _).symm
  · rw [upd_ne e, (h.1 r hr).2 j hj]; exact (fu_ne e).symm
theorem k_lay {D : Dt} {S : SstT} (h : CRep D S) (ho : Ok1 S) (v1 v2 v3 : Int32) : CDo (f_Root_lay v1 v2 v3 D) D (sp_lay v1 v2 v3 S).1 (sp_lay v1 v2 v3 S).2 := by
  unfold f_Root_lay sp_lay rOk
  obtain ⟨k1, k2⟩ := c_refusedPlace h ho v1 v2
  by_cases h1 : wi v1 0 5 = true
  · obtain ⟨r, hr, -, rfl⟩ := wi_nat h1 (by omega)
    have hr : r < 6 := by omega
    obtain ⟨k3, k4⟩ := k2 r hr rfl
    simp only [h1, if_true, zI_toInt (show -2147483648 ≤ (r : Int) by omega) (show (r : Int) < 2147483648 by omega), Int.toNat_natCast]
    by_cases h2 : (S.1 r).1 = -1
    · obtain ⟨D1, e1, e2⟩ := k3 h2
      simp only [h2, if_true, e1, bnd_s, show ¬ ((-3 : Int32) = 0) by decide, if_false]
      exact ⟨D1, rfl, e2⟩
    · by_cases h3 : 0 ≤ v2.toInt ∧ v2.toInt < (S.1 r).1
      · obtain ⟨i, hi⟩ : ∃ i : Nat, v2.toInt = i := ⟨v2.toInt.toNat, by omega⟩
        have hv : v2 = zI i := by rw [← hi, zI_self]
        have hok := (ho.1 r hr).2
        simp only [(k4 h2).1 h3, bnd_s, h2, h3, and_self, if_true, if_false]
        rw [hi, Int.toNat_natCast, hv, if_pos (inb_t (by omega) (by omega) (by omega)), if_pos (inb_t (by omega) (by omega) (by omega)), nm_s, if_pos (inb_t (by omega) (by omega) (by omega)), if_pos (inb_t (by omega) (by omega) (by omega)), nm_s, zI_nat (by omega), zI_nat (by omega), (h.1 r hr).2 i (by omega)]
        exact (c_tell (h.layRow hr v3) _ _).bind (fun k hk => by rw [wr_ne (by omega)])
      · obtain ⟨D1, e1, e2⟩ := (k4 h2).2 h3
        simp only [h2, h3, if_false, e1, bnd_s, show ¬ ((-3 : Int32) = 0) by decide]
        exact ⟨D1, rfl, e2⟩
  · have h1 : wi v1 0 5 = false := by simpa using h1
    simp only [h1, Bool.false_eq_true, if_false, k1 h1, bnd_s, show ¬ ((-1 : Int32) = 0) by decide]
    exact CDo.same h _
theorem k_tear {D : Dt} {S : SstT} (h : CRep D S) (ho : Ok1 S) (v1 : Int32) : CDo (f_Root_tear v1 D) D (sp_tear v1 S).1 (sp_tear v1 S).2 := by
  unfold f_Root_tear sp_tear rOk
  obtain ⟨k1, k2⟩ := c_refusedRow h ho v1
  by_cases h1 : wi v1 0 5 = true
  · obtain ⟨r, hr, -, rfl⟩ := wi_nat h1 (by omega)
    have hr : r < 6 := by omega
    obtain ⟨k3, k4⟩ := k2 r hr rfl
    simp only [h1, if_true, zI_toInt (show -2147483648 ≤ (r : Int) by omega) (show (r : Int) < 2147483648 by omega), Int.toNat_natCast]
    by_cases h2 : (S.1 r).1 = -1
    · obtain ⟨D1, e1, e2⟩ := k3 h2
      simp only [h2, if_true, e1, bnd_s, show ¬ ((-3 : Int32) = 0) by decide, if_false]
      exact ⟨D1, rfl, e2⟩
    · simp only [k4 h2, bnd_s, h2, if_true, if_false]
      rw [if_pos (inb_t (by omega) (by omega) (by omega)), nm_s, zI_nat (by omega)]
      refine ⟨_, rfl, h.setRow hr ⟨by rw [wr_at, upd_at]; rfl, fun j hj => ?_⟩ (fun k a b => by rw [wr_ne a]), fun k hk => by rw [wr_ne (by omega)]⟩
      simp only at hj
      omega
  · have h1 : wi v1 0 5 = false := by simpa using h1
    simp only [h1, Bool.false_eq_true, if_false, k1 h1, bnd_s, show ¬ ((-1 : Int32) = 0) by decide]
    exact CDo.same h _
/-! the model's -/
theorem zI_ge0 {z : Int} (h1 : -2147483648 ≤ z) (h2 : z < 2147483648) : (0 ≤ zI z) ↔ 0 ≤ z := by rw [show (0 : Int32) = zI 0 from rfl, zI_le (by omega) (by omega) h1 h2]
theorem wi_lt {v : Int32} {z : Int} (h1 : -2147483647 ≤ z) (h2 : z < 2147483648) : wi v (0 : Int32).toInt (zI z - 1).toInt = decide (0 ≤ v.toInt ∧ v.toInt < z) := by
  unfold wi
  rw [show (1 : Int32) = zI 1 from rfl, zI_sub, zI_toInt (by omega) (by omega), show (0 : Int32).toInt = 0 by decide]
  exact decide_eq_decide.mpr (by omega)
theorem m_rowAt {r i : Nat} (hr : r < 6) (hi : i < 60) (D : Dt) : f_Model_rowAt (zI r) (zI i) D = some (D 179 (60 * r + i), D) := by
  unfold f_Model_rowAt
  rw [zI_p60, if_pos (inb_t (by omega) (by omega) (by omega)), zI_nat (by omega)]
theorem q_at {D : Dt} {S : SstT} (h : MRep D S) (ho : Ok1 S) (v1 v2 : Int32) : MDo (f_Model_at v1 v2 D) D (sp_at v1 v2 S).1 (sp_at v1 v2 S).2 := by
  unfold f_Model_at sp_at rOk
  simp only [m_isRow, bnd_s, zo_if]
  by_cases h1 : wi v1 0 5 = true
  · obtain ⟨r, hr, -, rfl⟩ := wi_nat h1 (by omega)
    have hr : r < 6 := by omega
    have hz := (h.1 r hr).1
    have hok := ho.1 r hr
    have ho1 := hok.1
    have ho2 := hok.2
    simp only [h1, if_true, inb_t (show (0 : Int) ≤ (r : Int) by omega) (show (r : Int) < (6 : Nat) by omega) (by omega), zI_nat (show r < 2147483648 by omega), zI_toInt (show -2147483648 ≤ (r : Int) by omega) (show (r : Int) < 2147483648 by omega), Int.toNat_natCast, hz, zI_ge0 (show -2147483648 ≤ (S.1 r).1 by omega) (show (S.1 r).1 < 2147483648 by omega), m_in, bnd_s, zo_if, wi_lt (show -2147483647 ≤ (S.1 r).1 by omega) (show (S.1 r).1 < 2147483648 by omega), decide_eq_true_eq]
    by_cases h2 : (S.1 r).1 = -1
    · rw [if_neg (by omega)]
      simp only [h2, if_true]
      exact (m_meets h 1 (by omega)).ret
    · rw [if_pos (by omega)]
      simp only [h2, if_false]
      by_cases h3 : 0 ≤ v2.toInt ∧ v2.toInt < (S.1 r).1
      · obtain ⟨i, hi⟩ : ∃ i : Nat, v2.toInt = i := ⟨v2.toInt.toNat, by omega⟩
        have hv : v2 = zI i := by rw [← hi, zI_self]
        simp only [h3, and_self, if_true]
        rw [hi, Int.toNat_natCast, hv, m_rowAt hr (by omega), bnd_s, (h.1 r hr).2 i (by omega)]
        exact (m_tells h _ _).ret
      · simp only [h3, if_false]
        exact (m_meets h 2 (by omega)).ret
  · simp only [h1, if_false, Bool.false_eq_true]
    exact MDo.same h _
theorem MRep.layRow {D : Dt} {S : SstT} (h : MRep D S) (ho : Ok1 S) {r i : Nat} (hr : r < 6) (hi : i < 60) (v : Int32) : MRep (wr D 179 (60 * r + i) v) (sRow S r ((S.1 r).1, fu (S.1 r).2 i v)) := by
  refine h.setRow ho ⟨by rw [wr_ne (by omega)]; exact (h.1 r hr).1, fun j hj => ?_⟩ (fun q _ _ => by rw [wr_ne (by omega)]) (fun q j hq hn hj => by rw [wr_at, upd_ne (by omega)]) (fun k a b _ => by rw [wr_ne b]) (fun j _ => by rw [wr_ne (by omega)])
  rw [wr_at]
  by_cases e : j = i
  · subst e; rw [upd_at]; exact (fu_at _ _ _).symm
  · rw [upd_ne (by omega), (h.1 r hr).2 j hj]; exact (fu_ne e).symm
theorem q_lay {D : Dt} {S : SstT} (h : MRep D S) (ho : Ok1 S) (v1 v2 v3 : Int32) : MDo (f_Model_lay v1 v2 v3 D) D (sp_lay v1 v2 v3 S).1 (sp_lay v1 v2 v3 S).2 := by
  unfold f_Model_lay sp_lay rOk
  simp only [m_isRow, bnd_s, zo_if]
  by_cases h1 : wi v1 0 5 = true
  · obtain ⟨r, hr, -, rfl⟩ := wi_nat h1 (by omega)
    have hr : r < 6 := by omega
    have hz := (h.1 r hr).1
    have hok := ho.1 r hr
    have ho1 := hok.1
    have ho2 := hok.2
    simp only [h1, if_true, inb_t (show (0 : Int) ≤ (r : Int) by omega) (show (r : Int) < (6 : Nat) by omega) (by omega), zI_nat (show r < 2147483648 by omega), zI_toInt (show -2147483648 ≤ (r : Int) by omega) (show (r : Int) < 2147483648 by omega), Int.toNat_natCast, hz, zI_ge0 (show -2147483648 ≤ (S.1 r).1 by omega) (show (S.1 r).1 < 2147483648 by omega), m_in, bnd_s, zo_if, wi_lt (show -2147483647 ≤ (S.1 r).1 by omega) (show (S.1 r).1 < 2147483648 by omega), decide_eq_true_eq]
    by_cases h2 : (S.1 r).1 = -1
    · rw [if_neg (by omega)]
      simp only [h2, if_true]
      exact (m_meets h 1 (by omega)).ret
    · rw [if_pos (by omega)]
      simp only [h2, if_false]
      by_cases h3 : 0 ≤ v2.toInt ∧ v2.toInt < (S.1 r).1
      · obtain ⟨i, hi⟩ : ∃ i : Nat, v2.toInt = i := ⟨v2.toInt.toNat, by omega⟩
        have hv : v2 = zI i := by rw [← hi, zI_self]
        simp only [h3, and_self, if_true]
        rw [hi, Int.toNat_natCast, hv, m_rowAt hr (by omega), bnd_s, zI_p60, if_pos (inb_t (by omega) (by omega) (by omega)), nm_s, zI_nat (by omega), (h.1 r hr).2 i (by omega)]
        exact (m_tells (h.layRow ho hr (by omega) v3) _ _).bind (fun k hk => by rw [wr_ne (by omega)])
      · simp only [h3, if_false]
        exact (m_meets h 2 (by omega)).ret
  · simp only [h1, if_false, Bool.false_eq_true]
    exact MDo.same h _
theorem q_tear {D : Dt} {S : SstT} (h : MRep D S) (ho : Ok1 S) (v1 : Int32) : MDo (f_Model_tear v1 D) D (sp_tear v1 S).1 (sp_tear v1 S).2 := by
  unfold f_Model_tear sp_tear rOk
  simp only [m_isRow, bnd_s, zo_if]
  by_cases h1 : wi v1 0 5 = true
  · obtain ⟨r, hr, -, rfl⟩ := wi_nat h1 (by omega)
    have hr : r < 6 := by omega
    have hz := (h.1 r hr).1
    have hok := ho.1 r hr
    have ho1 := hok.1
    have ho2 := hok.2
    simp only [h1, if_true, inb_t (show (0 : Int) ≤ (r : Int) by omega) (show (r : Int) < (6 : Nat) by omega) (by omega), zI_nat (show r < 2147483648 by omega), zI_toInt (show -2147483648 ≤ (r : Int) by omega) (show (r : Int) < 2147483648 by omega), Int.toNat_natCast, hz, zI_ge0 (show -2147483648 ≤ (S.1 r).1 by omega) (show (S.1 r).1 < 2147483648 by omega)]
    by_cases h2 : (S.1 r).1 = -1
    · rw [if_neg (by omega)]
      simp only [h2, if_true]
      exact (m_meets h 1 (by omega)).ret
    · rw [if_pos (by omega)]
      simp only [h2, if_false, nm_s]
      refine ⟨_, rfl, h.setRow ho ⟨by rw [wr_at, upd_at]; rfl, fun j hj => ?_⟩ (fun q _ hn => by rw [wr_at, upd_ne hn]) (fun q j hq hn hj => by rw [wr_ne (by omega)]) (fun k a b _ => by rw [wr_ne a]) (fun j _ => by rw [wr_ne (by omega)]), fun k hk => by rw [wr_ne (by omega)]⟩
      simp only at hj
      omega
  · simp only [h1, if_false, Bool.false_eq_true]
    exact MDo.same h _
