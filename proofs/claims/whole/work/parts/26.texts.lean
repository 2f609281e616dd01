/-! mean; texts -/
def sumL (f : Nat → Int32) : Nat → Int64
  | 0 => 0
  | n + 1 => sumL f n + (f n).toInt64
def sp_mean (v1 : Int32) (S : SstT) : Int32 × SstT := rOk v1 S (fun S => (0, S)) (fun r => if (S.1 r).1 = 0 then (-3, sFind S 4) else (1, sTell S ((sumL (S.1 r).2 (S.1 r).1.toNat / (zI (S.1 r).1).toInt64).toInt32)))
theorem c_sum (a n : Nat) (f : Nat → Int32) (hn : n ≤ 60) (D : Dt) (h1 : D a 1 = zI n) (h2 : ∀ i : Nat, i < n → D (a + 1) i = f i) : f_Row_sum a D = some (sumL f n, D) := by
  unfold f_Row_sum lp_Row_sum_4
  obtain ⟨m, hm⟩ := FU_eq (n := n + 1) (by omega)
  rw [hm, show m + (n + 1) = (m + 1) + n by omega]
  obtain ⟨E, hE, e⟩ := itr_go (fun _ _ _ => none) (s_Row_sum_4 a) (fun i (E : Unit) k => k (sumL f i) (zI i) D) n (fun i E => True)
    (fun i hi E _ => ⟨(), trivial, fun k => by
      unfold s_Row_sum_4
      rw [h1, if_neg (by rw [zI_le (by omega) (by omega) (by omega) (by omega)]; omega), if_pos (inb_t (by omega) (by omega) (by omega)), nm_s, zI_nat (by omega), zI_s, h2 i hi]
      rfl⟩)
    () trivial
  refine (e (m + 1)).trans ?_
  rw [itr_s]
  unfold s_Row_sum_4
  rw [h1, if_pos ((zI_le (by omega) (by omega) (by omega) (by omega)).mpr (by omega))]
theorem toI64_ne0 {n : Int} (h0 : 0 < n) (h : n < 2147483648) : ¬ (zI n).toInt64 = 0 := by
  intro q
  have := congrArg Int64.toInt q
  rw [i64_i, zI_toInt (by omega) h] at this
  have e : (0 : Int64).toInt = 0 := by decide
  omega
theorem k_mean {D : Dt} {S : SstT} (h : CRep D S) (ho : Ok1 S) (v1 : Int32) : CDo (f_Root_mean v1 D) D (sp_mean v1 S).1 (sp_mean v1 S).2 := by
  unfold f_Root_mean sp_mean rOk
  obtain ⟨k1, k2⟩ := c_refusedRow h ho v1
  by_cases h1 : wi v1 0 5 = true
  · obtain ⟨r, hr, -, rfl⟩ := wi_nat h1 (by omega)
    have hr : r < 6 := by omega
    obtain ⟨k3, k4⟩ := k2 r hr rfl
    have ho1 := (ho.1 r hr).1
    have ho2 := (ho.1 r hr).2
    simp only [h1, if_true, zI_toInt (show -2147483648 ≤ (r : Int) by omega) (show (r : Int) < 2147483648 by omega), Int.toNat_natCast]
    by_cases h2 : (S.1 r).1 = -1
    · obtain ⟨D1, e1, e2⟩ := k3 h2
      simp only [h2, if_true, e1, bnd_s, show ¬ ((-3 : Int32) = 0) by decide, if_false]
      exact ⟨D1, rfl, e2⟩
    · simp only [k4 h2, bnd_s, h2, if_true, if_false, inb_t (show (0 : Int) ≤ (r : Int) by omega) (show (r : Int) < (6 : Nat) by omega) (by omega), zI_nat (show r < 2147483648 by omega), nm_s, (h.1 r hr).1]
      by_cases h3 : (S.1 r).1 = 0
      · rw [if_neg (by rw [show (0 : Int32) = zI 0 from rfl, zI_lt (by omega) (by omega) (by omega) (by omega)]; omega), if_pos h3]
        exact (c_find h 4 (by omega)).ret
      · rw [if_pos (by rw [show (0 : Int32) = zI 0 from rfl, zI_lt (by omega) (by omega) (by omega) (by omega)]; omega), if_neg h3]
        obtain ⟨n, hn⟩ : ∃ n : Nat, (S.1 r).1 = n := ⟨(S.1 r).1.toNat, by omega⟩
        rw [hn, c_sum (111 + 2 * r) n (S.1 r).2 (by omega) D (by rw [(h.1 r hr).1, hn]) (fun i hi => (h.1 r hr).2 i (by omega)), bnd_s, if_neg (toI64_ne0 (by omega) (by omega))]
        exact (c_tell h _ _).ret
  · have h1 : wi v1 0 5 = false := by simpa using h1
    simp only [h1, Bool.false_eq_true, if_false, k1 h1, bnd_s, show ¬ ((-1 : Int32) = 0) by decide]
    exact CDo.same h _
theorem q_mean {D : Dt} {S : SstT} (h : MRep D S) (ho : Ok1 S) (v1 : Int32) : MDo (f_Model_mean v1 D) D (sp_mean v1 S).1 (sp_mean v1 S).2 := by
  unfold f_Model_mean sp_mean rOk
  simp only [m_isRow, bnd_s, zo_if]
  by_cases h1 : wi v1 0 5 = true
  · obtain ⟨r, hr, -, rfl⟩ := wi_nat h1 (by omega)
    have hr : r < 6 := by omega
    have ho1 := (ho.1 r hr).1
    have ho2 := (ho.1 r hr).2
    simp only [h1, if_true, inb_t (show (0 : Int) ≤ (r : Int) by omega) (show (r : Int) < (6 : Nat) by omega) (by omega), zI_nat (show r < 2147483648 by omega), zI_toInt (show -2147483648 ≤ (r : Int) by omega) (show (r : Int) < 2147483648 by omega), Int.toNat_natCast, (h.1 r hr).1, zI_ge0 (show -2147483648 ≤ (S.1 r).1 by omega) (show (S.1 r).1 < 2147483648 by omega)]
    by_cases h2 : (S.1 r).1 = -1
    · rw [if_neg (by omega)]
      simp only [h2, if_true]
      exact (m_meets h 1 (by omega)).ret
    · rw [if_pos (by omega)]
      simp only [h2, if_false]
      by_cases h3 : (S.1 r).1 = 0
      · rw [if_pos (by rw [h3]; rfl), if_pos h3]
        exact (m_meets h 4 (by omega)).ret
      · rw [if_neg (by rw [show (0 : Int32) = zI 0 from rfl, zI_eq (by omega) (by omega) (by omega) (by omega)]; exact h3), if_neg h3]
        obtain ⟨n, hn⟩ : ∃ n : Nat, (S.1 r).1 = n := ⟨(S.1 r).1.toNat, by omega⟩
        have hz : D 178 r = zI n := by rw [(h.1 r hr).1, hn]
        have hc : ∀ i : Nat, i < n → D 179 (60 * r + i) = (S.1 r).2 i := fun i hi => (h.1 r hr).2 i (by omega)
        unfold lp_Model_mean_44
        obtain ⟨m, hm⟩ := FU_eq (n := n + 1) (by omega)
        rw [hm, show m + (n + 1) = (m + 1) + n by omega, hn]
        obtain ⟨E, hE, e⟩ := itr_go (fun _ _ _ _ => none) (s_Model_mean_44) (fun i (E : Unit) k => k (zI r) (sumL (S.1 r).2 i) (zI i) D) n (fun i E => True)
          (fun i hi E _ => ⟨(), trivial, fun k => by
            unfold s_Model_mean_44
            rw [if_pos (inb_t (by omega) (by omega) (by omega)), zI_nat (by omega), hz, if_neg (by rw [zI_le (by omega) (by omega) (by omega) (by omega)]; omega), m_rowAt hr (by omega), bnd_s, zI_s, hc i hi]
            rfl⟩)
          () trivial
        have e2 := e (m + 1)
        rw [itr_s] at e2
        rw [show (0 : Int64) = sumL (S.1 r).2 0 from rfl, show (0 : Int32) = zI ((0 : Nat) : Int) from rfl]
        refine e2 ▸ ?_
        unfold s_Model_mean_44
        rw [if_pos (inb_t (by omega) (by omega) (by omega)), zI_nat (by omega), hz, if_pos ((zI_le (by omega) (by omega) (by omega) (by omega)).mpr (by omega)), if_pos (inb_t (by omega) (by omega) (by omega)), if_neg (toI64_ne0 (by omega) (by omega))]
        exact (m_tells h _ _).ret
  · simp only [h1, if_false, Bool.false_eq_true]
    exact MDo.same h _
def sp_text (v1 v2 : Int32) (S : SstT) : Int32 × SstT := if wi v1 0 3 = true ∧ v2.toInt ≤ 60 then (if 0 ≤ v2.toInt then (v2, sTxt S v1.toInt.toNat (v2.toInt, fun _ => 32)) else (-3, sFind S 5)) else (-1, S)
theorem k_text {D : Dt} {S : SstT} (h : CRep D S) (v1 v2 : Int32) : CDo (f_Root_text v1 v2 D) D (sp_text v1 v2 S).1 (sp_text v1 v2 S).2 := by
  unfold f_Root_text sp_text
  simp only [c_isText, bnd_s, zo_if, Int32.le_iff_toInt_le, tl]
  by_cases h1 : wi v1 0 3 = true
  · by_cases h2 : v2.toInt ≤ 60
    · by_cases h3 : 0 ≤ v2.toInt
      · simp only [h1, h2, h3, and_self, if_true]
        obtain ⟨r, hr, -, rfl⟩ := wi_nat h1 (by omega)
        have hr : r < 4 := by omega
        rw [if_pos (inb_t (by omega) (by omega) (by omega)), zI_nat (by omega), zI_toInt (by omega) (by omega)]
        unfold f_Text_begin
        obtain ⟨D1, e1, e2, e3⟩ := fillB_ok (123 + 2 * r + 1) 32 D (by rw [ln_txt hr]; omega)
        rw [e1]
        simp only [bnd_s, nm_s]
        refine ⟨_, rfl, h.setTxt hr ⟨by rw [wr_at, upd_at, zI_self], fun i hi => ?_⟩ (fun k a b => by rw [wr_ne a, e3 k b]), fun k hk => by rw [wr_ne (by omega), e3 k (by omega)]⟩
        rw [wr_ne (by omega), e2, ln_txt hr, if_pos]
        · rfl
        · simp only at hi
          omega
      · simp only [h1, h2, h3, and_self, if_true, if_false]
        exact (c_find h 5 (by omega)).ret
    · simp only [h1, h2, and_false, if_true, if_false]
      exact CDo.same h _
  · simp only [h1, false_and, if_false, Bool.false_eq_true]
    exact CDo.same h _
theorem m_text_loop (r : Nat) (hr : r < 4) (v : Int32) (D : Dt) : ∃ D1, lp_Model_text_34 FU (zI r) v 0 D = some (v, D1) ∧ (∀ i, i < 60 → D1 182 (60 * r + i) = 32) ∧ (∀ j, (j < 60 * r ∨ 60 * r + 60 ≤ j) → D1 182 j = D 182 j) ∧ ∀ k, k ≠ 182 → D1 k = D k := by
  unfold lp_Model_text_34
  obtain ⟨m, hm⟩ := FU_eq (n := 61) (by omega)
  rw [hm, show m + 61 = (m + 1) + 60 by omega]
  obtain ⟨E, ⟨h1, h2, h3⟩, e⟩ := itr_go (fun _ _ _ _ => none) (s_Model_text_34) (fun i E k => k (zI r) v (zI i) E) 60 (fun i (E : Dt) => (∀ j, j < i → E 182 (60 * r + j) = 32) ∧ (∀ j, (j < 60 * r ∨ 60 * r + 60 ≤ j) → E 182 j = D 182 j) ∧ ∀ k, k ≠ 182 → E k = D k)
    (fun i hi E ⟨g1, g2, g3⟩ => by
      refine ⟨wr E 182 (60 * r + i) (vp_nar .byte 32), ⟨fun j hj => ?_, fun j hj => ?_, fun k hk => by rw [wr_ne hk]; exact g3 k hk⟩, fun k => ?_⟩
      · rw [wr_at]
        by_cases q : j = i
        · subst q; rw [upd_at]; rfl
        · rw [upd_ne (by omega)]; exact g1 j (by omega)
      · rw [wr_at, upd_ne (by omega)]; exact g2 j hj
      · unfold s_Model_text_34
        rw [if_neg (by rw [show (60 : Int32) = zI 60 from rfl, zI_le (by omega) (by omega) (by omega) (by omega)]; omega), zI_p60, if_pos (inb_t (by omega) (by omega) (by omega)), nm_s, zI_nat (by omega), zI_s])
    D ⟨fun j hj => by omega, fun j _ => rfl, fun k _ => rfl⟩
  refine ⟨E, ?_, h1, h2, h3⟩
  refine (e (m + 1)).trans ?_
  rw [itr_s]
  unfold s_Model_text_34
  rw [if_pos (by rw [show (60 : Int32) = zI 60 from rfl]; exact (zI_le (by omega) (by omega) (by omega) (by omega)).mpr (by omega))]
theorem q_text {D : Dt} {S : SstT} (h : MRep D S) (ho : Ok1 S) (v1 v2 : Int32) : MDo (f_Model_text v1 v2 D) D (sp_text v1 v2 S).1 (sp_text v1 v2 S).2 := by
  unfold f_Model_text sp_text
  simp only [m_isText, bnd_s, zo_if, Int32.le_iff_toInt_le, tl]
  by_cases h1 : wi v1 0 3 = true
  · by_cases h2 : v2.toInt ≤ 60
    · by_cases h3 : 0 ≤ v2.toInt
      · simp only [h1, h2, h3, and_self, if_true]
        obtain ⟨r, hr, -, rfl⟩ := wi_nat h1 (by omega)
        have hr : r < 4 := by omega
        rw [if_pos (inb_t (by omega) (by omega) (by omega)), zI_nat (by omega), zI_toInt (by omega) (by omega), Int.toNat_natCast, nm_s]
        obtain ⟨D1, e1, e2, e3, e4⟩ := m_text_loop r hr v2 (wr D 181 r v2)
        rw [e1]
        have z1 : D1 181 = upd (D 181) r v2 := by rw [e4 181 (by omega), wr_at]
        refine ⟨_, rfl, h.setTxt ho ⟨by rw [z1]; show upd (D 181) r v2 r = _; rw [upd_at, zI_self], fun i hi => ?_⟩ (fun q hq hn => by rw [z1, upd_ne hn]) (fun q i hq hn hi => by rw [e3 _ (by omega), wr_ne (by omega)]) (fun k a b => by rw [e4 k b, wr_ne a]), fun k hk => by rw [e4 k (by omega), wr_ne (by omega)]⟩
        simp only at hi
        exact e2 i (by omega)
      · simp only [h1, h2, h3, and_self, if_true, if_false]
        exact (m_meets h 5 (by omega)).ret
    · simp only [h1, h2, and_false, if_true, if_false]
      exact MDo.same h _
  · simp only [h1, false_and, if_false, Bool.false_eq_true]
    exact MDo.same h _
theorem c_refusedText {D : Dt} {S : SstT} (h : CRep D S) (ho : Ok1 S) (v : Int32) : (wi v 0 3 = false → f_Root_refusedText v D = some (-1, D)) ∧ ∀ r : Nat, r < 4 → v = zI r → ((S.2.1 r).1 = -1 → CDo (f_Root_refusedText v D) D (-3) (sFind S 1)) ∧ ((S.2.1 r).1 ≠ -1 → f_Root_refusedText v D = some (0, D)) := by
  unfold f_Root_refusedText f_Text_isThere
  simp only [c_isText, bnd_s, zo_if]
  refine ⟨fun h1 => by simp only [h1, Bool.false_eq_true, if_false], fun r hr e => ?_⟩
  subst e
  have h1 : wi (zI r) 0 3 = true := by
    unfold wi; rw [zI_toInt (by omega) (by omega)]; exact decide_eq_true (by omega)
  have hz := (h.2.1 r hr).1
  have hok := ho.2 r hr
  simp only [h1, if_true, inb_t (show (0 : Int) ≤ (r : Int) by omega) (show (r : Int) < (4 : Nat) by omega) (by omega), zI_nat (show r < 2147483648 by omega), hz, show (-1 : Int32) = zI (-1) from rfl, zI_eq (show -2147483648 ≤ (S.2.1 r).1 by have := hok.1; omega) (show (S.2.1 r).1 < 2147483648 by have := hok.2; omega) (show -2147483648 ≤ (-1 : Int) by omega) (show (-1 : Int) < 2147483648 by omega)]
  refine ⟨fun q => ?_, fun q => ?_⟩
  · simp only [q, if_true, bnd_s]
    exact (c_find h 1 (by omega)).ret
  · simp only [q, if_false, bnd_s, show ¬ ((1 : Int32) = 0) by decide]
theorem CRep.layTxt {D : Dt} {S : SstT} (h : CRep D S) {r i : Nat} (hr : r < 4) (v : Int32) : CRep (wr D (123 + 2 * r + 1) i v) (sTxt S r ((S.2.1 r).1, fu (S.2.1 r).2 i v)) := by
  refine h.setTxt hr ⟨by rw [wr_ne (by omega)]; exact (h.2.1 r hr).1, fun j hj => ?_⟩ (fun k a b => by rw [wr_ne b])
  rw [wr_at]
  by_cases e : j = i
  · subst e; rw [upd_at]; exact (fu_at _ _ _).symm
  · rw [upd_ne e, (h.2.1 r hr).2 j hj]; exact (fu_ne e).symm
theorem MRep.layTxt {D : Dt} {S : SstT} (h : MRep D S) (ho : Ok1 S) {r i : Nat} (hr : r < 4) (hi : i < 60) (v : Int32) : MRep (wr D 182 (60 * r + i) v) (sTxt S r ((S.2.1 r).1, fu (S.2.1 r).2 i v)) := by
  refine h.setTxt ho ⟨by rw [wr_ne (by omega)]; exact (h.2.1 r hr).1, fun j hj => ?_⟩ (fun q _ _ => by rw [wr_ne (by omega)]) (fun q j hq hn hj => by rw [wr_at, upd_ne (by omega)]) (fun k a b => by rw [wr_ne b])
  rw [wr_at]
  by_cases e : j = i
  · subst e; rw [upd_at]; exact (fu_at _ _ _).symm
  · rw [upd_ne (by omega), (h.2.1 r hr).2 j hj]; exact (fu_ne e).symm
def sp_put (v1 v2 v3 : Int32) (S : SstT) : Int32 × SstT := if wi v1 0 3 = true then (if (S.2.1 v1.toInt.toNat).1 = -1 then (-3, sFind S 1) else if 0 ≤ v2.toInt ∧ v2.toInt < (S.2.1 v1.toInt.toNat).1 then ((S.2.1 v1.toInt.toNat).2 v2.toInt.toNat + 1000, sTxt S v1.toInt.toNat ((S.2.1 v1.toInt.toNat).1, fu (S.2.1 v1.toInt.toNat).2 v2.toInt.toNat (vp_nar .byte (v3.toInt8.toInt32)))) else (-3, sFind S 2)) else (-1, S)
theorem k_put {D : Dt} {S : SstT} (h : CRep D S) (ho : Ok1 S) (v1 v2 v3 : Int32) : CDo (f_Root_put v1 v2 v3 D) D (sp_put v1 v2 v3 S).1 (sp_put v1 v2 v3 S).2 := by
  unfold f_Root_put sp_put b_Root_put_32
  obtain ⟨k1, k2⟩ := c_refusedText h ho v1
  by_cases h1 : wi v1 0 3 = true
  · obtain ⟨r, hr, -, rfl⟩ := wi_nat h1 (by omega)
    have hr : r < 4 := by omega
    obtain ⟨k3, k4⟩ := k2 r hr rfl
    have ho1 := (ho.2 r hr).1
    have ho2 := (ho.2 r hr).2
    simp only [h1, if_true, zI_toInt (show -2147483648 ≤ (r : Int) by omega) (show (r : Int) < 2147483648 by omega), Int.toNat_natCast]
    by_cases h2 : (S.2.1 r).1 = -1
    · obtain ⟨D1, e1, e2⟩ := k3 h2
      simp only [h2, if_true, e1, bnd_s, show ¬ ((-3 : Int32) = 0) by decide, if_false]
      exact ⟨D1, rfl, e2⟩
    · simp only [k4 h2, bnd_s, h2, if_true, if_false, inb_t (show (0 : Int) ≤ (r : Int) by omega) (show (r : Int) < (4 : Nat) by omega) (by omega), zI_nat (show r < 2147483648 by omega), nm_s, (h.2.1 r hr).1, Int32.lt_iff_toInt_lt, tl, zI_toInt (show -2147483648 ≤ (S.2.1 r).1 by omega) (show (S.2.1 r).1 < 2147483648 by omega)]
      by_cases h3 : 0 ≤ v2.toInt ∧ v2.toInt < (S.2.1 r).1
      · obtain ⟨i, hi⟩ : ∃ i : Nat, v2.toInt = i := ⟨v2.toInt.toNat, by omega⟩
        have hv : v2 = zI i := by rw [← hi, zI_self]
        rw [if_pos h3, if_neg (by omega), if_pos (by omega), hi, Int.toNat_natCast, hv, if_pos (inb_t (by omega) (by omega) (by omega)), if_pos (inb_t (by omega) (by omega) (by omega)), zI_nat (by omega), (h.2.1 r hr).2 i (by omega)]
        exact ⟨_, rfl, h.layTxt hr _, fun k hk => by rw [wr_ne (by omega)]⟩
      · rw [if_neg h3]
        by_cases c1 : v2.toInt < 0
        · rw [if_pos c1]; exact (c_find h 2 (by omega)).ret
        · rw [if_neg c1, if_neg (by omega)]; exact (c_find h 2 (by omega)).ret
  · have h1 : wi v1 0 3 = false := by simpa using h1
    simp only [h1, Bool.false_eq_true, if_false, k1 h1, bnd_s, show ¬ ((-1 : Int32) = 0) by decide]
    exact CDo.same h _
theorem q_put {D : Dt} {S : SstT} (h : MRep D S) (ho : Ok1 S) (v1 v2 v3 : Int32) : MDo (f_Model_put v1 v2 v3 D) D (sp_put v1 v2 v3 S).1 (sp_put v1 v2 v3 S).2 := by
  unfold f_Model_put sp_put
  simp only [m_isText, bnd_s, zo_if]
  by_cases h1 : wi v1 0 3 = true
  · obtain ⟨r, hr, -, rfl⟩ := wi_nat h1 (by omega)
    have hr : r < 4 := by omega
    have ho1 := (ho.2 r hr).1
    have ho2 := (ho.2 r hr).2
    simp only [h1, if_true, inb_t (show (0 : Int) ≤ (r : Int) by omega) (show (r : Int) < (4 : Nat) by omega) (by omega), zI_nat (show r < 2147483648 by omega), zI_toInt (show -2147483648 ≤ (r : Int) by omega) (show (r : Int) < 2147483648 by omega), Int.toNat_natCast, (h.2.1 r hr).1, zI_ge0 (show -2147483648 ≤ (S.2.1 r).1 by omega) (show (S.2.1 r).1 < 2147483648 by omega), m_in, bnd_s, zo_if, wi_lt (show -2147483647 ≤ (S.2.1 r).1 by omega) (show (S.2.1 r).1 < 2147483648 by omega), decide_eq_true_eq]
    by_cases h2 : (S.2.1 r).1 = -1
    · rw [if_neg (by omega)]
      simp only [h2, if_true]
      exact (m_meets h 1 (by omega)).ret
    · rw [if_pos (by omega)]
      simp only [h2, if_false]
      by_cases h3 : 0 ≤ v2.toInt ∧ v2.toInt < (S.2.1 r).1
      · obtain ⟨i, hi⟩ : ∃ i : Nat, v2.toInt = i := ⟨v2.toInt.toNat, by omega⟩
        have hv : v2 = zI i := by rw [← hi, zI_self]
        simp only [h3, and_self, if_true]
        rw [hi, Int.toNat_natCast, hv, zI_p60, if_pos (inb_t (by omega) (by omega) (by omega)), nm_s, if_pos (inb_t (by omega) (by omega) (by omega)), nm_s, zI_nat (by omega), (h.2.1 r hr).2 i (by omega), Int32.add_comm]
        exact ⟨_, rfl, h.layTxt ho hr (by omega) _, fun k hk => by rw [wr_ne (by omega)]⟩
      · simp only [h3, if_false]
        exact (m_meets h 2 (by omega)).ret
  · simp only [h1, if_false, Bool.false_eq_true]
    exact MDo.same h _
