theorem zI_tmod {a b : Int} (h1 : -1000000 ≤ a) (h2 : a < 1000000) (h3 : 0 < b) (h4 : b < 1000) : zI a % zI b = zI (a.tmod b) ∧ -b < a.tmod b ∧ a.tmod b < b ∧ (a.tmod b) % b = a % b := by
  have hq : -b < a.tmod b ∧ a.tmod b < b := by
    have l := Int.tmod_lt_of_pos a h3
    have l2 := Int.tmod_lt_of_pos (-a) h3
    rw [Int.neg_tmod] at l2
    omega
  have he : (a.tmod b) % b = a % b := by
    have := Int.mul_tdiv_add_tmod a b
    have e : a % b = (b * a.tdiv b + a.tmod b) % b := by rw [this]
    rw [e, Int.mul_comm, Int.add_comm, Int.add_mul_emod_self_right]
  refine ⟨?_, hq.1, hq.2, he⟩
  apply Int32.toInt_inj.mp
  rw [Int32.toInt_mod, zI_toInt (by omega) (by omega), zI_toInt (by omega) (by omega), zI_toInt (by omega) (by omega)]
theorem fmod_z {a b : Int} (h1 : -1000000 ≤ a) (h2 : a < 1000000) (h3 : 0 < b) (h4 : b < 1000) : fmodI (zI a) (zI b) = zI (a % b) := by
  obtain ⟨e1, e2, e3, e4⟩ := zI_tmod h1 h2 h3 h4
  unfold fmodI
  rw [e1, if_cg (zI_ltl (by omega) (by omega)), zI_add, ← e4]
  by_cases c : a.tmod b < 0
  · rw [if_pos c, ← Int.add_emod_right, Int.emod_eq_of_lt (by omega) (by omega)]
  · rw [if_neg c, Int.emod_eq_of_lt (by omega) (by omega)]
theorem cal_c {d p s x : Int} (hd : 0 ≤ d ∧ d ≤ 9999) (hp : 1 ≤ p ∧ p ≤ 30) (hs : -9 ≤ s ∧ s ≤ 9) (hx : 0 ≤ x ∧ x ≤ p - 1) : ((zI x + fmodI (zI d / zI p * zI s) (zI p)) % zI p = zI d % zI p) ↔ calB d p s x = true := by
  have hq0 : 0 ≤ d / p := Int.ediv_nonneg hd.1 (by omega)
  have hq1 : d / p ≤ d := Int.ediv_le_self p hd.1
  have hqs : -100000 ≤ d / p * s ∧ d / p * s ≤ 100000 := by
    generalize d / p = q at *
    have h1 : q * s ≤ q * 9 := Int.mul_le_mul_of_nonneg_left hs.2 hq0
    have h2 : q * (-9) ≤ q * s := Int.mul_le_mul_of_nonneg_left hs.1 hq0
    omega
  have hm0 : 0 ≤ (d / p * s) % p := Int.emod_nonneg _ (by omega)
  have hm1 : (d / p * s) % p < p := Int.emod_lt_of_pos _ (by omega)
  have hr0 : 0 ≤ (x + (d / p * s) % p) % p := Int.emod_nonneg _ (by omega)
  have hr1 : (x + (d / p * s) % p) % p < p := Int.emod_lt_of_pos _ (by omega)
  have hd0 : 0 ≤ d % p := Int.emod_nonneg _ (by omega)
  have hd1 : d % p < p := Int.emod_lt_of_pos _ (by omega)
  rw [zI_div hd.1 (by omega) (by omega) (by omega), zI_mul, fmod_z (by omega) (by omega) (by omega) (by omega), zI_add, zI_mod (by omega) (by omega) (by omega) (by omega), zI_mod hd.1 (by omega) (by omega) (by omega), zI_eq (by omega) (by omega) (by omega) (by omega), Int.add_emod_emod]
  unfold calB
  rw [decide_eq_true_eq]
theorem cal_m {d p s x : Int} (hd : 0 ≤ d ∧ d ≤ 9999) (hp : 1 ≤ p ∧ p ≤ 30) (hs : -9 ≤ s ∧ s ≤ 9) (hx : 0 ≤ x ∧ x ≤ p - 1) : ((((zI x + zI d / zI p * zI s) % zI p) + zI p) % zI p = zI d % zI p) ↔ calB d p s x = true := by
  have hq0 : 0 ≤ d / p := Int.ediv_nonneg hd.1 (by omega)
  have hq1 : d / p ≤ d := Int.ediv_le_self p hd.1
  have hqs : -100000 ≤ d / p * s ∧ d / p * s ≤ 100000 := by
    generalize d / p = q at *
    have h1 : q * s ≤ q * 9 := Int.mul_le_mul_of_nonneg_left hs.2 hq0
    have h2 : q * (-9) ≤ q * s := Int.mul_le_mul_of_nonneg_left hs.1 hq0
    omega
  obtain ⟨e1, e2, e3, e4⟩ := zI_tmod (a := x + d / p * s) (b := p) (by omega) (by omega) (by omega) (by omega)
  have hr0 : 0 ≤ ((x + d / p * s).tmod p + p) % p := Int.emod_nonneg _ (by omega)
  have hr1 : ((x + d / p * s).tmod p + p) % p < p := Int.emod_lt_of_pos _ (by omega)
  have hd0 : 0 ≤ d % p := Int.emod_nonneg _ (by omega)
  have hd1 : d % p < p := Int.emod_lt_of_pos _ (by omega)
  rw [zI_div hd.1 (by omega) (by omega) (by omega), zI_mul, zI_add, e1, zI_add, zI_mod (by omega) (by omega) (by omega) (by omega), zI_mod hd.1 (by omega) (by omega) (by omega), zI_eq (by omega) (by omega) (by omega) (by omega), Int.add_emod_right, e4]
  unfold calB
  rw [decide_eq_true_eq]
theorem k_calendar {D : Dt} {S : SstT} (h : CRep D S) (ho : Ok1 S) (v1 v2 v3 v4 : Int32) : CDo (f_Root_calendar v1 v2 v3 v4 D) D (sp_calendar v1 v2 v3 v4 S).1 (sp_calendar v1 v2 v3 v4 S).2 := by
  unfold f_Root_calendar sp_calendar
  simp only [c_isWithin, c_isRow, bnd_s, zo_if, tl]
  by_cases c1 : wi v1 0 9999 = true
  · by_cases c2 : wi v2 1 30 = true
    · by_cases c3 : wi v3 0 5 = true
      · by_cases c4 : wi v4 (-9) 9 = true
        · have hv4 := of_decide_eq_true c4
          have hv2 := of_decide_eq_true c2
          have hv1 := of_decide_eq_true c1
          obtain ⟨r, hr, -, rfl⟩ := wi_nat c3 (by omega)
          have hz := ho.1 r (by omega)
          unfold rwOk at hz
          simp only [c1, c2, c3, c4, if_true, and_self, zI_toInt (show -2147483648 ≤ (r : Int) by omega) (show (r : Int) < 2147483648 by omega), Int.toNat_natCast]
          rw [if_pos (inb_t (by omega) (by omega) (by omega)), zI_nat (by omega), c_isThere h ho (by omega), bnd_s]
          by_cases g : (S.1 r).1 = -1
          · simp only [g, if_true]
            exact (c_find h 1 (by omega)).ret
          · simp only [g, if_false]
            have e21 : (v2 - 1).toInt = v2.toInt - 1 := by
              rw [← zI_self v2, show (1 : Int32) = zI 1 from rfl, zI_sub, zI_toInt (by omega) (by omega), zI_toInt (by omega) (by omega)]
            rw [if_neg (by decide), if_pos (inb_t (by omega) (by omega) (by omega)), c_allWithin h ho (by omega) (by omega), bnd_s, e21]
            simp only [tl]
            by_cases w : nwB (S.1 r) 0 (v2.toInt - 1) = true
            · simp only [w, if_true]
              exact (c_find h 3 (by omega)).ret
            · simp only [w, if_false, Bool.false_eq_true]
              have n0 : ¬ v2 = 0 := fun q => by rw [q] at hv2; revert hv2; decide
              have p0 : (0 : Int32) < v2 := by rw [Int32.lt_iff_toInt_lt]; simp only [tl]; omega
              rw [if_neg (by decide), if_neg n0, if_pos p0]
              unfold lp_Root_calendar_97
              obtain ⟨m, hm⟩ := FU_eq (n := (S.1 r).1.toNat + 1) (by omega)
              rw [hm, show m + ((S.1 r).1.toNat + 1) = m + 1 + (S.1 r).1.toNat by omega]
              obtain ⟨g1, g2⟩ := h.1 r (by omega)
              have wf : anyB (fun i => !(wi ((S.1 r).2 i) 0 (v2.toInt - 1))) (S.1 r).1.toNat = false := Bool.eq_false_iff.mpr w
              have e := itr_any (fun _ _ _ _ _ _ => none) s_Root_calendar_97 (fun i k => k v1 v2 (zI r) (fmodI ((v1 / v2) * v4) v2) (zI i) D) (S.1 r).1.toNat (fun i => calB v1.toInt v2.toInt v4.toInt ((S.1 r).2 i).toInt) (some (1, D)) (some (0, D))
                (fun i hi k => by
                  have hx := anyB_f wf i hi
                  have hx : wi ((S.1 r).2 i) 0 (v2.toInt - 1) = true := by simpa using hx
                  have hx := of_decide_eq_true hx
                  have hcal := cal_c hv1 hv2 hv4 hx
                  rw [zI_self, zI_self, zI_self, zI_self] at hcal
                  show s_Root_calendar_97 k v1 v2 (zI r) (fmodI ((v1 / v2) * v4) v2) (zI i) D = _
                  unfold s_Root_calendar_97
                  rw [if_pos (inb_t (by omega) (by omega) (by omega)), zI_nat (by omega), g1, if_neg (by rw [zI_le (by omega) (by omega) (by omega) (by omega)]; omega), if_pos (inb_t (by omega) (by omega) (by omega)), if_pos (inb_t (by omega) (by omega) (by omega)), if_neg n0, if_neg n0, zI_nat (by omega), g2 i (by omega), if_cg hcal, zI_s])
                (fun k => by
                  show s_Root_calendar_97 k v1 v2 (zI r) (fmodI ((v1 / v2) * v4) v2) (zI ((S.1 r).1.toNat : Nat)) D = _
                  unfold s_Root_calendar_97
                  rw [if_pos (inb_t (by omega) (by omega) (by omega)), zI_nat (by omega), g1, if_pos (by rw [zI_le (by omega) (by omega) (by omega) (by omega)]; omega)]) m
              refine (show CDo (itr (fun _ _ _ _ _ _ => none) s_Root_calendar_97 (m + 1 + (S.1 r).1.toNat) v1 v2 (zI r) (fmodI ((v1 / v2) * v4) v2) (zI ((0 : Nat) : Int)) D) D _ _ from ?_)
              rw [e]
              by_cases a : anyB (fun i => calB v1.toInt v2.toInt v4.toInt ((S.1 r).2 i).toInt) (S.1 r).1.toNat = true
              · simp only [a, if_true]; exact CDo.same h _
              · simp only [a, if_false, Bool.false_eq_true]; exact CDo.same h _
        · simp only [c1, c2, c3, c4, if_true, if_false, and_false, Bool.false_eq_true]
          exact CDo.same h _
      · simp only [c1, c2, c3, if_true, if_false, and_false, false_and, Bool.false_eq_true]
        exact CDo.same h _
    · simp only [c1, c2, if_true, if_false, and_false, false_and, Bool.false_eq_true]
      exact CDo.same h _
  · simp only [c1, if_false, false_and, Bool.false_eq_true]
    exact CDo.same h _
theorem q_calendar {D : Dt} {S : SstT} (h : MRep D S) (ho : Ok1 S) (v1 v2 v3 v4 : Int32) : MDo (f_Model_calendar v1 v2 v3 v4 D) D (sp_calendar v1 v2 v3 v4 S).1 (sp_calendar v1 v2 v3 v4 S).2 := by
  unfold f_Model_calendar sp_calendar
  simp only [m_in, m_isRow, bnd_s, zo_if, tl]
  by_cases c1 : wi v1 0 9999 = true
  · by_cases c2 : wi v2 1 30 = true
    · by_cases c3 : wi v3 0 5 = true
      · by_cases c4 : wi v4 (-9) 9 = true
        · have hv4 := of_decide_eq_true c4
          have hv2 := of_decide_eq_true c2
          have hv1 := of_decide_eq_true c1
          obtain ⟨r, hr, -, rfl⟩ := wi_nat c3 (by omega)
          have hz := ho.1 r (by omega)
          unfold rwOk at hz
          obtain ⟨g1, g2⟩ := h.1 r (by omega)
          have hin : inb (zI (r : Int)) 6 = true := inb_t (by omega) (by omega) (by omega)
          simp only [c1, c2, c3, c4, if_true, and_self, zI_toInt (show -2147483648 ≤ (r : Int) by omega) (show (r : Int) < 2147483648 by omega), Int.toNat_natCast]
          rw [if_pos hin, zI_nat (by omega), g1, if_cg (zI_ge0 (by omega) (by omega))]
          by_cases g : (S.1 r).1 = -1
          · rw [if_neg (by omega), if_pos g]
            exact (m_meets h 1 (by omega)).ret
          · rw [if_pos (by omega), if_neg g]
            have e21 : (v2 - 1).toInt = v2.toInt - 1 := by
              rw [← zI_self v2, show (1 : Int32) = zI 1 from rfl, zI_sub, zI_toInt (by omega) (by omega), zI_toInt (by omega) (by omega)]
            unfold lp_Model_calendar_63
            obtain ⟨m, hm⟩ := FU_eq (n := (S.1 r).1.toNat + 1) (by omega)
            rw [hm, show m + ((S.1 r).1.toNat + 1) = (m + 1) + (S.1 r).1.toNat by omega]
            obtain ⟨U, -, e⟩ := itr_go (fun _ _ _ _ _ _ _ => none) s_Model_calendar_63 (fun i (U : Unit) k => k v1 v2 (zI r) v4 (if anyB (fun i => !(wi ((S.1 r).2 i) 0 (v2.toInt - 1))) i = true then 0 else 1) (zI i) D) (S.1 r).1.toNat (fun i U => True)
              (fun i hi U _ => ⟨(), trivial, fun k => by
                unfold s_Model_calendar_63 b_Model_calendar_100 b_Model_calendar_101
                rw [if_pos hin, zI_nat (by omega), g1, if_neg (by rw [zI_le (by omega) (by omega) (by omega) (by omega)]; omega), m_rowAt (by omega) (by omega), bnd_s, g2 i (by omega), m_in, bnd_s, zo_if, e21, zI_s, show anyB (fun i => !(wi ((S.1 r).2 i) 0 (v2.toInt - 1))) (i + 1) = (anyB (fun i => !(wi ((S.1 r).2 i) 0 (v2.toInt - 1))) i || !(wi ((S.1 r).2 i) 0 (v2.toInt - 1))) from rfl]
                simp only [tl]
                by_cases a : anyB (fun i => !(wi ((S.1 r).2 i) 0 (v2.toInt - 1))) i = true
                · simp [a]
                · by_cases b : wi ((S.1 r).2 i) 0 (v2.toInt - 1) = true
                  · simp [a, b]
                  · simp [a, b]⟩)
              () trivial
            have e := e (m + 1)
            refine (show MDo (itr (fun _ _ _ _ _ _ _ => none) s_Model_calendar_63 (m + 1 + (S.1 r).1.toNat) v1 v2 (zI r) v4 (if anyB (fun i => !(wi ((S.1 r).2 i) 0 (v2.toInt - 1))) 0 = true then 0 else 1) (zI ((0 : Nat) : Int)) D) D _ _ from ?_)
            rw [e, itr_s]
            unfold s_Model_calendar_63
            rw [if_pos hin, zI_nat (by omega), g1, if_pos (by rw [zI_le (by omega) (by omega) (by omega) (by omega)]; omega)]
            by_cases w : nwB (S.1 r) 0 (v2.toInt - 1) = true
            · have w' : anyB (fun i => !(wi ((S.1 r).2 i) 0 (v2.toInt - 1))) (S.1 r).1.toNat = true := w
              rw [if_pos w', if_pos rfl, if_pos w]
              exact (m_meets h 3 (by omega)).ret
            · have wf : anyB (fun i => !(wi ((S.1 r).2 i) 0 (v2.toInt - 1))) (S.1 r).1.toNat = false := Bool.eq_false_iff.mpr w
              rw [wf, if_neg (show ¬ false = true by decide), if_neg (show ¬ (1 : Int32) = 0 by decide), if_neg w]
              have n0 : ¬ v2 = 0 := fun q => by rw [q] at hv2; revert hv2; decide
              unfold lp_Model_calendar_126
              rw [hm, show m + ((S.1 r).1.toNat + 1) = (m + 1) + (S.1 r).1.toNat by omega]
              obtain ⟨U, -, e⟩ := itr_go (fun _ _ _ _ _ _ _ => none) s_Model_calendar_126 (fun i (U : Unit) k => k v1 v2 (zI r) v4 (if anyB (fun i => calB v1.toInt v2.toInt v4.toInt ((S.1 r).2 i).toInt) i = true then 1 else 0) (zI i) D) (S.1 r).1.toNat (fun i U => True)
                (fun i hi U _ => ⟨(), trivial, fun k => by
                  have hx := anyB_f wf i hi
                  have hx : wi ((S.1 r).2 i) 0 (v2.toInt - 1) = true := by simpa using hx
                  have hx := of_decide_eq_true hx
                  have hcal := cal_m hv1 hv2 hv4 hx
                  rw [zI_self, zI_self, zI_self, zI_self] at hcal
                  unfold s_Model_calendar_126 b_Model_calendar_173
                  rw [if_pos hin, zI_nat (by omega), g1, if_neg (by rw [zI_le (by omega) (by omega) (by omega) (by omega)]; omega), m_rowAt (by omega) (by omega), bnd_s, g2 i (by omega), if_neg n0, if_neg n0, if_neg n0, if_neg n0, if_cg hcal, zI_s, show anyB (fun i => calB v1.toInt v2.toInt v4.toInt ((S.1 r).2 i).toInt) (i + 1) = (anyB (fun i => calB v1.toInt v2.toInt v4.toInt ((S.1 r).2 i).toInt) i || calB v1.toInt v2.toInt v4.toInt ((S.1 r).2 i).toInt) from rfl]
                  by_cases a : calB v1.toInt v2.toInt v4.toInt ((S.1 r).2 i).toInt = true
                  · simp [a]
                  · simp [a]⟩)
                () trivial
              have e := e (m + 1)
              refine (show MDo (itr (fun _ _ _ _ _ _ _ => none) s_Model_calendar_126 (m + 1 + (S.1 r).1.toNat) v1 v2 (zI r) v4 (if anyB (fun i => calB v1.toInt v2.toInt v4.toInt ((S.1 r).2 i).toInt) 0 = true then 1 else 0) (zI ((0 : Nat) : Int)) D) D _ _ from ?_)
              rw [e, itr_s]
              unfold s_Model_calendar_126
              rw [if_pos hin, zI_nat (by omega), g1, if_pos (by rw [zI_le (by omega) (by omega) (by omega) (by omega)]; omega)]
              exact MDo.same h _
        · simp only [c1, c2, c3, c4, if_true, if_false, and_false, Bool.false_eq_true]
          exact MDo.same h _
      · simp only [c1, c2, c3, if_true, if_false, and_false, false_and, Bool.false_eq_true]
        exact MDo.same h _
    · simp only [c1, c2, if_true, if_false, and_false, false_and, Bool.false_eq_true]
      exact MDo.same h _
  · simp only [c1, if_false, false_and, Bool.false_eq_true]
    exact MDo.same h _
