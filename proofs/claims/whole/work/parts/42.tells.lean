/-! asked, finding, findings, count, upper, lower -/
def sp_asked (S : SstT) : Int32 × SstT := (S.2.2.1.2.2, S)
def sp_finding (S : SstT) : Int32 × SstT := (S.2.2.1.1, S)
def sp_findings (v1 : Int32) (S : SstT) : Int32 × SstT := if wi v1 1 5 = true then (S.2.2.1.2.1 v1.toInt.toNat, S) else (-1, S)
theorem k_asked {D : Dt} {S : SstT} (h : CRep D S) : CDo (f_Root_asked D) D (sp_asked S).1 (sp_asked S).2 := by
  unfold f_Root_asked sp_asked
  rw [h.2.2.1.2.2]; exact CDo.same h _
theorem q_asked {D : Dt} {S : SstT} (h : MRep D S) : MDo (f_Model_asked D) D (sp_asked S).1 (sp_asked S).2 := by
  unfold f_Model_asked sp_asked
  rw [h.2.2.1.2.2]; exact MDo.same h _
theorem k_finding {D : Dt} {S : SstT} (h : CRep D S) : CDo (f_Root_finding D) D (sp_finding S).1 (sp_finding S).2 := by
  unfold f_Root_finding sp_finding
  rw [h.2.2.1.1]; exact CDo.same h _
theorem q_finding {D : Dt} {S : SstT} (h : MRep D S) : MDo (f_Model_finding D) D (sp_finding S).1 (sp_finding S).2 := by
  unfold f_Model_finding sp_finding
  rw [h.2.2.1.1]; exact MDo.same h _
theorem k_findings {D : Dt} {S : SstT} (h : CRep D S) (v1 : Int32) : CDo (f_Root_findings v1 D) D (sp_findings v1 S).1 (sp_findings v1 S).2 := by
  unfold f_Root_findings sp_findings
  simp only [c_isWithin, bnd_s, zo_if, tl]
  by_cases c : wi v1 1 5 = true
  · obtain ⟨n, hn, hn1, rfl⟩ := wi_nat c (by omega)
    simp only [c, if_true, zI_toInt (show -2147483648 ≤ (n : Int) by omega) (show (n : Int) < 2147483648 by omega), Int.toNat_natCast]
    rw [if_pos (inb_t (by omega) (by omega) (by omega)), zI_nat (by omega), h.2.2.1.2.1 n (by omega)]
    exact CDo.same h _
  · simp only [c, if_false, Bool.false_eq_true]
    exact CDo.same h _
theorem q_findings {D : Dt} {S : SstT} (h : MRep D S) (v1 : Int32) : MDo (f_Model_findings v1 D) D (sp_findings v1 S).1 (sp_findings v1 S).2 := by
  unfold f_Model_findings sp_findings
  simp only [m_in, bnd_s, zo_if, tl]
  by_cases c : wi v1 1 5 = true
  · obtain ⟨n, hn, hn1, rfl⟩ := wi_nat c (by omega)
    simp only [c, if_true, zI_toInt (show -2147483648 ≤ (n : Int) by omega) (show (n : Int) < 2147483648 by omega), Int.toNat_natCast]
    rw [if_pos (inb_t (by omega) (by omega) (by omega)), zI_nat (by omega), h.2.2.1.2.1 n (by omega)]
    exact MDo.same h _
  · simp only [c, if_false, Bool.false_eq_true]
    exact MDo.same h _
/-! loops that only add up -/
theorem cnt2 {ρ : Type} {F : (Int32 → Int32 → Dt → Option ρ) → Int32 → Int32 → Dt → Option ρ} {bot : Int32 → Int32 → Dt → Option ρ} {D : Dt} (g : Nat → Int) (N : Nat) (hN : N < 4096) (R : Int → Option ρ) (h : ∀ i, i < N → ∀ v k, F k (zI v) (zI i) D = k (zI (v + g i)) (zI ((i + 1 : Nat) : Int)) D) (he : ∀ v k, F k (zI v) (zI N) D = R v) : itr bot F FU 0 0 D = R (sumN g N) := by
  obtain ⟨m, hm⟩ := FU_eq (n := N + 1) (by omega)
  rw [hm, show m + (N + 1) = (m + 1) + N by omega]
  obtain ⟨E, -, e⟩ := itr_go bot F (fun i (E : Unit) k => k (zI (sumN g i)) (zI i) D) N (fun i E => True) (fun i hi E _ => ⟨(), trivial, fun k => h i hi _ k⟩) () trivial
  refine (e (m + 1)).trans ?_
  rw [itr_s]
  exact he _ _
theorem cnt3 {ρ : Type} {F : (Int32 → Int32 → Int32 → Dt → Option ρ) → Int32 → Int32 → Int32 → Dt → Option ρ} {bot : Int32 → Int32 → Int32 → Dt → Option ρ} {D : Dt} {a : Int32} (g : Nat → Int) (N : Nat) (hN : N < 4096) (R : Int → Option ρ) (v0 : Int) (h : ∀ i, i < N → ∀ v k, F k a (zI v) (zI i) D = k a (zI (v + g i)) (zI ((i + 1 : Nat) : Int)) D) (he : ∀ v k, F k a (zI v) (zI N) D = R v) : itr bot F FU a (zI v0) 0 D = R (v0 + sumN g N) := by
  obtain ⟨m, hm⟩ := FU_eq (n := N + 1) (by omega)
  rw [hm, show m + (N + 1) = (m + 1) + N by omega]
  obtain ⟨E, -, e⟩ := itr_go bot F (fun i (E : Unit) k => k a (zI (v0 + sumN g i)) (zI i) D) N (fun i E => True) (fun i hi E _ => ⟨(), trivial, fun k => by rw [h i hi]; simp only [sumN]; rw [Int.add_assoc]⟩) () trivial
  have e := e (m + 1)
  simp only [sumN, Int.add_zero] at e
  refine e.trans ?_
  rw [itr_s]
  exact he _ _
theorem sumN_0 (n : Nat) : sumN (fun _ => 0) n = 0 := by
  induction n with
  | zero => rfl
  | succ n ih => simp only [sumN, ih]; rfl
theorem sumN_c {f g : Nat → Int} {n : Nat} (h : ∀ i, i < n → f i = g i) : sumN f n = sumN g n := by
  induction n with
  | zero => rfl
  | succ n ih => simp only [sumN, ih (fun i hi => h i (by omega)), h n (by omega)]
def cg1 (w : Nat) (B : BedT) (i : Nat) : Int := if (w = 2 ∧ kindB (kK B i) 1 = true) ∨ (w = 3 ∧ kindB (kK B i) 3 = true) ∨ (w = 4 ∧ hH B i = 1) then 1 else 0
def cg2 (w : Nat) (S : SstT) (i : Nat) : Int := if w = 5 ∧ (S.2.2.2.2 i).1 = true then 1 else 0
def cg3 (w : Nat) (S : SstT) (i : Nat) : Int := if w = 6 ∧ (S.1 i).1 ≠ -1 then 1 else 0
def cg4 (w : Nat) (S : SstT) (i : Nat) : Int := if w = 7 ∧ (S.2.1 i).1 ≠ -1 then 1 else 0
def cntV (w : Nat) (S : SstT) : Int := if w = 0 then S.2.2.2.1.1.1 else if w = 1 then S.2.2.2.1.2.2.1 else sumN (cg1 w S.2.2.2.1.1) S.2.2.2.1.1.1 + sumN (cg2 w S) 3 + sumN (cg3 w S) 6 + sumN (cg4 w S) 4
theorem cg1_0 {w : Nat} {B : BedT} (h : w < 2 ∨ 4 < w) (n : Nat) : sumN (cg1 w B) n = 0 := by
  rw [show cg1 w B = fun _ => 0 from funext (fun i => if_neg (by omega))]; exact sumN_0 n
theorem cg2_0 {w : Nat} {S : SstT} (h : w ≠ 5) (n : Nat) : sumN (cg2 w S) n = 0 := by
  rw [show cg2 w S = fun _ => 0 from funext (fun i => if_neg (by omega))]; exact sumN_0 n
theorem cg3_0 {w : Nat} {S : SstT} (h : w ≠ 6) (n : Nat) : sumN (cg3 w S) n = 0 := by
  rw [show cg3 w S = fun _ => 0 from funext (fun i => if_neg (by omega))]; exact sumN_0 n
theorem cg4_0 {w : Nat} {S : SstT} (h : w ≠ 7) (n : Nat) : sumN (cg4 w S) n = 0 := by
  rw [show cg4 w S = fun _ => 0 from funext (fun i => if_neg (by omega))]; exact sumN_0 n
theorem c_howMany {D : Dt} {b : Nat} {B : BedT} (hb : BRep D b B) (hB : BOk B) (v : Int32) : f_Bed_howManyOf b v D = some (zI (sumN (fun i => if kindB (kK B i) v.toInt = true then 1 else 0) B.1), D) := by
  have h8 := hB.1
  unfold f_Bed_howManyOf lp_Bed_howManyOf_4
  have e := cnt3 (F := s_Bed_howManyOf_4 b) (bot := fun _ _ _ _ => none) (D := D) (a := v) (fun i => if kindB (kK B i) v.toInt = true then 1 else 0) B.1 (by omega) (fun z => some (zI z, D)) 0
    (fun i hi w k => by
      unfold s_Bed_howManyOf_4 b_Bed_howManyOf_27
      rw [hb.1, if_neg (by rw [zI_le (by omega) (by omega) (by omega) (by omega)]; omega), c_isOfKind hb hB hi, bnd_s, zo_if, zI_s]
      by_cases c : kindB (kK B i) v.toInt = true
      · simp only [c, if_true]; rw [show (1 : Int32) = zI 1 from rfl, zI_add]
      · simp only [c, if_false, Bool.false_eq_true]; rw [show (0 : Int32) = zI 0 from rfl, zI_add])
    (fun w k => by unfold s_Bed_howManyOf_4; rw [hb.1, if_pos ((zI_le (by omega) (by omega) (by omega) (by omega)).mpr (by omega))])
  rw [Int.zero_add] at e
  exact e
theorem c_howShut {D : Dt} {b : Nat} {B : BedT} (hb : BRep D b B) (hB : BOk B) : f_Bed_howManyShut b D = some (zI (sumN (fun i => hH B i) B.1), D) := by
  have h8 := hB.1
  unfold f_Bed_howManyShut lp_Bed_howManyShut_4
  exact cnt2 (F := s_Bed_howManyShut_4 b) (fun i => hH B i) B.1 (by omega) (fun z => some (zI z, D))
    (fun i hi w k => by
      unfold s_Bed_howManyShut_4
      rw [hb.1, if_neg (by rw [zI_le (by omega) (by omega) (by omega) (by omega)]; omega), if_pos (inb_t (by omega) (by omega) (by omega)), nm_s, zI_nat (by omega), (hb.2.2 i (by omega) hi).2.2.2.2, zI_add, zI_s])
    (fun w k => by unfold s_Bed_howManyShut_4; rw [hb.1, if_pos ((zI_le (by omega) (by omega) (by omega) (by omega)).mpr (by omega))])
theorem c_keptStreets {D : Dt} {S : SstT} (h : CRep D S) : f_Root_keptStreets D = some (zI (sumN (cg2 5 S) 3), D) := by
  unfold f_Root_keptStreets lp_Root_keptStreets_4
  exact cnt2 (F := s_Root_keptStreets_4) (cg2 5 S) 3 (by omega) (fun z => some (zI z, D))
    (fun i hi w k => by
      unfold s_Root_keptStreets_4 b_Root_keptStreets_24 cg2
      rw [if_neg (by rw [show (3 : Int32) = zI 3 from rfl, zI_le (by omega) (by omega) (by omega) (by omega)]; omega), if_pos (inb_t (by omega) (by omega) (by omega)), zI_nat (by omega), (h.2.2.2.2.1 i hi).1, zI_s]
      by_cases c : (S.2.2.2.2 i).1 = true
      · simp only [c, if_true, true_and]; rw [if_neg (by decide), show (1 : Int32) = zI 1 from rfl, zI_add]
      · simp only [c, if_false, Bool.false_eq_true, and_false]; rw [if_pos (by decide), show (0 : Int32) = zI 0 from rfl, zI_add])
    (fun w k => by unfold s_Root_keptStreets_4; rw [if_pos (by decide)])
theorem c_rowsThere {D : Dt} {S : SstT} (h : CRep D S) (ho : Ok1 S) : f_Root_rowsThere D = some (zI (sumN (cg3 6 S) 6), D) := by
  unfold f_Root_rowsThere lp_Root_rowsThere_4
  exact cnt2 (F := s_Root_rowsThere_4) (cg3 6 S) 6 (by omega) (fun z => some (zI z, D))
    (fun i hi w k => by
      unfold s_Root_rowsThere_4 b_Root_rowsThere_28 cg3
      rw [if_neg (by rw [show (6 : Int32) = zI 6 from rfl, zI_le (by omega) (by omega) (by omega) (by omega)]; omega), if_pos (inb_t (by omega) (by omega) (by omega)), zI_nat (by omega), c_isThere h ho hi, bnd_s, zI_s]
      by_cases c : (S.1 i).1 = -1
      · simp only [c, if_true, true_and, ne_eq, not_true_eq_false, if_false]; rw [show (0 : Int32) = zI 0 from rfl, zI_add]
      · simp only [c, if_false, true_and, ne_eq, not_false_eq_true, if_true]; rw [if_neg (by decide), show (1 : Int32) = zI 1 from rfl, zI_add])
    (fun w k => by unfold s_Root_rowsThere_4; rw [if_pos (by decide)])
theorem c_textsThere {D : Dt} {S : SstT} (h : CRep D S) (ho : Ok1 S) : f_Root_textsThere D = some (zI (sumN (cg4 7 S) 4), D) := by
  unfold f_Root_textsThere lp_Root_textsThere_4
  exact cnt2 (F := s_Root_textsThere_4) (cg4 7 S) 4 (by omega) (fun z => some (zI z, D))
    (fun i hi w k => by
      have hz := ho.2 i hi
      unfold rwOk at hz
      unfold s_Root_textsThere_4 b_Root_textsThere_27 cg4 f_Text_isThere
      rw [if_neg (by rw [show (4 : Int32) = zI 4 from rfl, zI_le (by omega) (by omega) (by omega) (by omega)]; omega), if_pos (inb_t (by omega) (by omega) (by omega)), zI_nat (by omega), (h.2.1 i hi).1, zI_s]
      by_cases c : (S.2.1 i).1 = -1
      · rw [if_pos (by rw [c]; rfl), bnd_s]
        simp only [c, if_true, true_and, ne_eq, not_true_eq_false, if_false]; rw [show (0 : Int32) = zI 0 from rfl, zI_add]
      · rw [if_neg (by rw [show (-1 : Int32) = zI (-1) from rfl, zI_eq (by omega) (by omega) (by omega) (by omega)]; exact c), bnd_s]
        simp only [c, if_false, true_and, ne_eq, not_false_eq_true, if_true]; rw [if_neg (by decide), show (1 : Int32) = zI 1 from rfl, zI_add])
    (fun w k => by unfold s_Root_textsThere_4; rw [if_pos (by decide)])
def sp_count (v1 : Int32) (S : SstT) : Int32 × SstT := if wi v1 0 7 = true then (zI (cntV v1.toInt.toNat S), S) else (-1, S)
theorem c_count {D : Dt} {S : SstT} (h : CRep D S) (ho : Ok S) {w : Nat} (hw : w ≤ 7) : f_Root_count (zI w) D = some (zI (cntV w S), D) := by
  have hb := h.2.2.2.1.1
  have hB := ho.2.1.1
  unfold f_Root_count cntV
  rcases (show w = 0 ∨ w = 1 ∨ w = 2 ∨ w = 3 ∨ w = 4 ∨ w = 5 ∨ w = 6 ∨ w = 7 by omega) with rfl | rfl | rfl | rfl | rfl | rfl | rfl | rfl
  · rw [if_pos (by rfl), if_pos rfl, hb.1]
  · rw [if_neg (by decide), if_pos (by rfl), if_neg (by omega), if_pos rfl, h.2.2.2.1.2.2.1]
  · rw [if_neg (by decide), if_neg (by decide), if_pos (by rfl), if_neg (by omega), if_neg (by omega), c_howMany hb hB, bnd_s, cg2_0 (by omega), cg3_0 (by omega), cg4_0 (by omega), Int.add_zero, Int.add_zero, Int.add_zero]
    congr 2
    congr 1
    refine sumN_c (fun i hi => ?_)
    unfold cg1
    simp only [tl]
    simp
  · rw [if_neg (by decide), if_neg (by decide), if_neg (by decide), if_pos (by rfl), if_neg (by omega), if_neg (by omega), c_howMany hb hB, bnd_s, cg2_0 (by omega), cg3_0 (by omega), cg4_0 (by omega), Int.add_zero, Int.add_zero, Int.add_zero]
    congr 2
    congr 1
    refine sumN_c (fun i hi => ?_)
    unfold cg1
    simp only [tl]
    simp
  · rw [if_neg (by decide), if_neg (by decide), if_neg (by decide), if_neg (by decide), if_pos (by rfl), if_neg (by omega), if_neg (by omega), c_howShut hb hB, bnd_s, cg2_0 (by omega), cg3_0 (by omega), cg4_0 (by omega), Int.add_zero, Int.add_zero, Int.add_zero]
    congr 2
    congr 1
    refine sumN_c (fun i hi => ?_)
    have hh := (hB.2.2.2 i hi).2.2.2.2
    unfold cg1
    rcases hh with hh | hh
    · rw [hh]; simp
    · rw [hh]; simp
  · rw [if_neg (by decide), if_neg (by decide), if_neg (by decide), if_neg (by decide), if_neg (by decide), if_pos (by rfl), if_neg (by omega), if_neg (by omega), c_keptStreets h, bnd_s, cg1_0 (by omega), cg3_0 (by omega), cg4_0 (by omega), Int.add_zero, Int.add_zero, Int.zero_add]
  · rw [if_neg (by decide), if_neg (by decide), if_neg (by decide), if_neg (by decide), if_neg (by decide), if_neg (by decide), if_pos (by rfl), if_neg (by omega), if_neg (by omega), c_rowsThere h ho.1, bnd_s, cg1_0 (by omega), cg2_0 (by omega), cg4_0 (by omega), Int.add_zero, Int.add_zero, Int.zero_add]
  · rw [if_neg (by decide), if_neg (by decide), if_neg (by decide), if_neg (by decide), if_neg (by decide), if_neg (by decide), if_neg (by decide), if_pos (by rfl), if_neg (by omega), if_neg (by omega), c_textsThere h ho.1, bnd_s, cg1_0 (by omega), cg2_0 (by omega), cg3_0 (by omega), Int.add_zero, Int.add_zero, Int.zero_add]
theorem k_count {D : Dt} {S : SstT} (h : CRep D S) (ho : Ok S) (v1 : Int32) : CDo (f_Root_count v1 D) D (sp_count v1 S).1 (sp_count v1 S).2 := by
  unfold sp_count
  by_cases c : wi v1 0 7 = true
  · obtain ⟨n, hn, hn1, rfl⟩ := wi_nat c (by omega)
    simp only [c, if_true, zI_toInt (show -2147483648 ≤ (n : Int) by omega) (show (n : Int) < 2147483648 by omega), Int.toNat_natCast]
    rw [c_count h ho (by omega)]
    exact CDo.same h _
  · simp only [c, if_false, Bool.false_eq_true]
    have c' : ∀ n : Int32, 0 ≤ n.toInt → n.toInt ≤ 7 → ¬ v1 = n := fun n a b e => by subst e; exact c (decide_eq_true ⟨a, b⟩)
    unfold f_Root_count
    rw [if_neg (c' 0 (by decide) (by decide)), if_neg (c' 1 (by decide) (by decide)), if_neg (c' 2 (by decide) (by decide)), if_neg (c' 3 (by decide) (by decide)), if_neg (c' 4 (by decide) (by decide)), if_neg (c' 5 (by decide) (by decide)), if_neg (c' 6 (by decide) (by decide)), if_neg (c' 7 (by decide) (by decide))]
    exact CDo.same h _
