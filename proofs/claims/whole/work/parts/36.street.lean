/-! calls on the street: house, sill, flow, shut, pump, hour, undo, water -/

def hsB (S : SstT) (v : Int32) : Bool := decide (0 ≤ v.toInt ∧ v.toInt < (S.2.2.2.1.1.1 : Int))
theorem hsB_nat {S : SstT} {v : Int32} (h : hsB S v = true) : ∃ i : Nat, i < S.2.2.2.1.1.1 ∧ v = zI i ∧ v.toInt.toNat = i := by
  have h := of_decide_eq_true h
  refine ⟨v.toInt.toNat, by omega, ?_, rfl⟩
  have : ((v.toInt.toNat : Nat) : Int) = v.toInt := by omega
  rw [this, zI_self]
theorem c_hasHouse {D : Dt} {S : SstT} (h : CRep D S) (ho : Ok S) (v : Int32) : f_Bed_hasHouse (3 + 1) v D = some (if hsB S v = true then 1 else 0, D) := by
  have h8 := ho.2.1.1.1
  unfold f_Bed_hasHouse hsB
  rw [h.2.2.2.1.1.1]
  simp only [Int32.lt_iff_toInt_lt, Int32.le_iff_toInt_le, tl, zI_toInt (show -2147483648 ≤ (S.2.2.2.1.1.1 : Int) by omega) (show (S.2.2.2.1.1.1 : Int) < 2147483648 by omega), decide_eq_true_eq]
  by_cases c : v.toInt < 0
  · rw [if_pos c, if_neg (by omega)]
  · rw [if_neg c]
    by_cases d : (S.2.2.2.1.1.1 : Int) ≤ v.toInt
    · rw [if_pos d, if_neg (by omega)]
    · rw [if_neg d, if_pos (by omega)]
theorem m_isHouse {D : Dt} {S : SstT} (h : MRep D S) (ho : Ok S) (v : Int32) : f_Model_isHouse v D = some (if hsB S v = true then 1 else 0, D) := by
  have h8 := ho.2.1.1.1
  unfold f_Model_isHouse
  rw [h.2.2.2.1.1.1, m_in, bnd_s, wi_lt (by omega) (by omega)]
  exact zo_ok D
theorem c_hasHouses {D : Dt} {S : SstT} (h : CRep D S) (ho : Ok S) : f_Root_hasHouses D = some (if 0 < S.2.2.2.1.1.1 then 1 else 0, D) := by
  have h8 := ho.2.1.1.1
  unfold f_Root_hasHouses
  rw [h.2.2.2.1.1.1, show (0 : Int32) = zI 0 from rfl]
  by_cases c : 0 < S.2.2.2.1.1.1
  · rw [if_neg (by rw [zI_le (by omega) (by omega) (by omega) (by omega)]; omega), if_pos c]
  · rw [if_pos (by rw [zI_le (by omega) (by omega) (by omega) (by omega)]; omega), if_neg c]
theorem m_n0 {D : Dt} {S : SstT} (h : MRep D S) (ho : Ok S) : (D 176 10 = 0) ↔ ¬ 0 < S.2.2.2.1.1.1 := by
  have h8 := ho.2.1.1.1
  rw [h.2.2.2.1.1.1, show (0 : Int32) = zI 0 from rfl, zI_eq (by omega) (by omega) (by omega) (by omega)]; omega
def houseV (x : StrT) (i w : Nat) : Int := if w = 0 then kK x.1 i else if w = 1 then fF x.1 i else if w = 2 then sS x.1 i else if w = 3 then rR x.1 i else if w = 4 then x.2.1.1 i else if w = 5 then x.2.1.2.1 i else x.2.1.2.2.1 i
def sp_house (v1 v2 : Int32) (S : SstT) : Int32 × SstT := if hsB S v1 = true ∧ wi v2 0 6 = true then (1, sTell S (zI (houseV S.2.2.2.1 v1.toInt.toNat v2.toInt.toNat))) else (-1, S)
theorem zI_eqn {a b : Nat} (h1 : a < 2147483648) (h2 : b < 2147483648) : (zI (a : Int) = zI (b : Int)) ↔ a = b := by rw [zI_eq (by omega) (by omega) (by omega) (by omega)]; omega
theorem c_ofHouse {D : Dt} {a : Nat} {x : StrT} (h : CStr D a x) (hB : BOk x.1) {i w : Nat} (hi : i < x.1.1) (hw : w ≤ 6) : f_Street_ofHouse a (zI i) (zI w) D = some (zI (houseV x i w), D) := by
  have h8 := hB.1
  obtain ⟨hb, ⟨-, -, hw3⟩, -⟩ := h
  obtain ⟨b1, b2, b3, b4, b5⟩ := hb.at hB hi
  obtain ⟨w1, w2, w3⟩ := hw3 i (by omega)
  unfold f_Street_ofHouse houseV
  simp only [inb_t (show (0 : Int) ≤ (i : Int) by omega) (show (i : Int) < (8 : Nat) by omega) (by omega), if_true, zI_nat (show i < 2147483648 by omega), b1, b2, b3, b4, w1, w2, w3, show (0 : Int32) = zI ((0 : Nat) : Int) from rfl, show (1 : Int32) = zI ((1 : Nat) : Int) from rfl, show (2 : Int32) = zI ((2 : Nat) : Int) from rfl, show (3 : Int32) = zI ((3 : Nat) : Int) from rfl, show (4 : Int32) = zI ((4 : Nat) : Int) from rfl, show (5 : Int32) = zI ((5 : Nat) : Int) from rfl, zI_eqn (show w < 2147483648 by omega) (show 0 < 2147483648 by omega), zI_eqn (show w < 2147483648 by omega) (show 1 < 2147483648 by omega), zI_eqn (show w < 2147483648 by omega) (show 2 < 2147483648 by omega), zI_eqn (show w < 2147483648 by omega) (show 3 < 2147483648 by omega), zI_eqn (show w < 2147483648 by omega) (show 4 < 2147483648 by omega), zI_eqn (show w < 2147483648 by omega) (show 5 < 2147483648 by omega)]
  rcases (show w = 0 ∨ w = 1 ∨ w = 2 ∨ w = 3 ∨ w = 4 ∨ w = 5 ∨ w = 6 by omega) with rfl | rfl | rfl | rfl | rfl | rfl | rfl <;> rfl
theorem k_house {D : Dt} {S : SstT} (h : CRep D S) (ho : Ok S) (v1 v2 : Int32) : CDo (f_Root_house v1 v2 D) D (sp_house v1 v2 S).1 (sp_house v1 v2 S).2 := by
  unfold f_Root_house sp_house
  simp only [c_hasHouse h ho, c_isWithin, bnd_s, zo_if, tl]
  by_cases c1 : hsB S v1 = true
  · by_cases c2 : wi v2 0 6 = true
    · simp only [c1, c2, and_self, if_true]
      obtain ⟨i, hi, rfl, e⟩ := hsB_nat c1
      obtain ⟨w, hw, -, rfl⟩ := wi_nat c2 (by omega)
      rw [e, zI_toInt (by omega) (by omega), Int.toNat_natCast, c_ofHouse h.2.2.2.1 ho.2.1.1 hi (by omega), bnd_s]
      exact (c_tell h _ _).ret
    · simp only [c1, c2, and_false, if_true, if_false, Bool.false_eq_true]
      exact CDo.same h _
  · simp only [c1, false_and, if_false, Bool.false_eq_true]
    exact CDo.same h _
/-! sill, flow, shut -/
def bSill (B : BedT) (i : Nat) (v : Int) : BedT := (B.1, B.2.1, B.2.2.1, B.2.2.2.1, B.2.2.2.2.1, fu B.2.2.2.2.2.1 i v, B.2.2.2.2.2.2)
def bFlow (B : BedT) (v : Int) : BedT := (B.1, v, B.2.2)
def bShut (B : BedT) (i : Nat) (v : Int) : BedT := (B.1, B.2.1, B.2.2.1, B.2.2.2.1, B.2.2.2.2.1, B.2.2.2.2.2.1, B.2.2.2.2.2.2.1, fu B.2.2.2.2.2.2.2 i v)
def sp_sill (v1 v2 : Int32) (S : SstT) : Int32 × SstT := if hsB S v1 = true ∧ wi v2 0 20 = true then (zI (sS S.2.2.2.1.1 v1.toInt.toNat), sStr S (bSill S.2.2.2.1.1 v1.toInt.toNat v2.toInt, S.2.2.2.1.2)) else (-1, S)
def sp_flow (v1 : Int32) (S : SstT) : Int32 × SstT := if wi v1 1 9 = true then (if 0 < S.2.2.2.1.1.1 then (zI S.2.2.2.1.1.2.1, sStr S (bFlow S.2.2.2.1.1 v1.toInt, S.2.2.2.1.2)) else (-4, S)) else (-1, S)
def sp_shut (v1 v2 : Int32) (S : SstT) : Int32 × SstT := if hsB S v1 = true ∧ wi v2 0 1 = true then (if kK S.2.2.2.1.1 v1.toInt.toNat = 5 then (zI (hH S.2.2.2.1.1 v1.toInt.toNat), sStr S (bShut S.2.2.2.1.1 v1.toInt.toNat v2.toInt, S.2.2.2.1.2)) else (-3, sFind S 3)) else (-1, S)
theorem cIds_out {D D1 : Dt} {a : Nat} (h : ∀ k, k ≠ a → D1 k = D k) (ha : 3 ≤ a ∧ a ≤ 17) : (∀ k, cIds k = true → (k < 3 ∨ 17 < k) → D1 k = D k) ∧ FrC D D1 := ⟨fun k _ hk => h k (by omega), fun k hk => h k (by omega)⟩
theorem k_sill {D : Dt} {S : SstT} (h : CRep D S) (ho : Ok S) (v1 v2 : Int32) : CDo (f_Root_sill v1 v2 D) D (sp_sill v1 v2 S).1 (sp_sill v1 v2 S).2 := by
  have h8 := ho.2.1.1.1
  unfold f_Root_sill sp_sill
  simp only [c_hasHouse h ho, c_isWithin, bnd_s, zo_if, tl]
  by_cases c1 : hsB S v1 = true
  · by_cases c2 : wi v2 0 20 = true
    · simp only [c1, c2, and_self, if_true]
      obtain ⟨i, hi, rfl, e⟩ := hsB_nat c1
      obtain ⟨b1, b2, b3, b4, b5⟩ := h.2.2.2.1.1.at ho.2.1.1 hi
      rw [e, if_pos (inb_t (by omega) (by omega) (by omega)), nm_s, if_pos (inb_t (by omega) (by omega) (by omega)), nm_s, zI_nat (by omega), b3]
      obtain ⟨f1, f2⟩ := cIds_out (D := D) (D1 := wr D (3 + 1 + 3) i v2) (a := 3 + 1 + 3) (fun k hk => wr_ne hk) (by omega)
      refine ⟨_, rfl, h.setStr ⟨⟨?_, ?_, ?_⟩, ?_, ?_, ?_⟩ f1, f2⟩
      · rw [wr_ne (by omega)]; exact h.2.2.2.1.1.1
      · rw [wr_ne (by omega)]; exact h.2.2.2.1.1.2.1
      · intro j hj hn
        obtain ⟨g1, g2, g3, g4, g5⟩ := h.2.2.2.1.1.at ho.2.1.1 hn
        refine ⟨?_, ?_, ?_, ?_, ?_⟩
        · rw [wr_ne (by omega)]; exact g1
        · rw [wr_ne (by omega)]; exact g2
        · rw [wr_at]
          show _ = zI (fu S.2.2.2.1.1.2.2.2.2.2.1 i v2.toInt j)
          by_cases z : j = i
          · subst z; rw [upd_at, fu_at, zI_self]
          · rw [upd_ne z, fu_ne z]; exact g3
        · rw [wr_ne (by omega)]; exact g4
        · rw [wr_ne (by omega)]; exact g5
      · exact h.2.2.2.1.2.1.congr (fun k a b => wr_ne (by omega))
      · rw [wr_ne (by omega)]; exact h.2.2.2.1.2.2.1
      · rw [wr_ne (by omega), wr_ne (by omega)]; exact h.2.2.2.1.2.2.2
    · simp only [c1, c2, and_false, if_true, if_false, Bool.false_eq_true]
      exact CDo.same h _
  · simp only [c1, false_and, if_false, Bool.false_eq_true]
    exact CDo.same h _
theorem k_flow {D : Dt} {S : SstT} (h : CRep D S) (ho : Ok S) (v1 : Int32) : CDo (f_Root_flow v1 D) D (sp_flow v1 S).1 (sp_flow v1 S).2 := by
  have h8 := ho.2.1.1.1
  unfold f_Root_flow sp_flow
  simp only [c_hasHouses h ho, c_isWithin, bnd_s, zo_if, tl]
  by_cases c1 : wi v1 1 9 = true
  · by_cases c2 : 0 < S.2.2.2.1.1.1
    · simp only [c1, c2, if_true, nm_s]
      rw [(h.2.2.2.1.1.2.1 c2).1]
      obtain ⟨f1, f2⟩ := cIds_out (D := D) (D1 := wr D (3 + 1) 6 v1) (a := 3 + 1) (fun k hk => wr_ne hk) (by omega)
      refine ⟨_, rfl, h.setStr ⟨⟨?_, fun _ => ⟨?_, ?_⟩, ?_⟩, ?_, ?_, ?_⟩ f1, f2⟩
      · rw [wr_at, upd_ne (by omega)]; exact h.2.2.2.1.1.1
      · rw [wr_at, upd_at]; exact (zI_self v1).symm
      · rw [wr_at, upd_ne (by omega)]; exact (h.2.2.2.1.1.2.1 c2).2
      · simp (disch := omega) only [wr_ne]; exact h.2.2.2.1.1.2.2
      · exact h.2.2.2.1.2.1.congr (fun k a b => wr_ne (by omega))
      · rw [wr_ne (by omega)]; exact h.2.2.2.1.2.2.1
      · rw [wr_ne (by omega), wr_ne (by omega)]; exact h.2.2.2.1.2.2.2
    · simp only [c1, c2, if_true, if_false]
      exact CDo.same h _
  · simp only [c1, if_false, Bool.false_eq_true]
    exact CDo.same h _
def kindB (k v : Int) : Bool := decide (k = v ∨ (k = 4 ∧ v = 1) ∨ (k = 5 ∧ v = 3))
theorem c_isOfKind {D : Dt} {b i : Nat} {B : BedT} (hb : BRep D b B) (hB : BOk B) (hi : i < B.1) (v : Int32) : f_Bed_isOfKind b (zI i) v D = some (if kindB (kK B i) v.toInt = true then 1 else 0, D) := by
  have h8 := hB.1
  obtain ⟨⟨k0, k5⟩, -⟩ := hB.2.2.2 i hi
  unfold f_Bed_isOfKind b_Bed_isOfKind_22 b_Bed_isOfKind_32 kindB
  obtain ⟨e1, -⟩ := hb.at hB hi
  simp only [inb_t (show (0 : Int) ≤ (i : Int) by omega) (show (i : Int) < (8 : Nat) by omega) (by omega), if_true, zI_nat (show i < 2147483648 by omega), e1, ← Int32.toInt_inj, zI_toInt (show -2147483648 ≤ kK B i by omega) (show kK B i < 2147483648 by omega), tl, decide_eq_true_eq]
  by_cases c1 : kK B i = v.toInt
  · rw [if_pos c1, if_pos (Or.inl c1)]
  · rw [if_neg c1]
    by_cases c2 : kK B i = 4
    · rw [if_pos c2, if_neg (show ¬ kK B i = 5 by omega)]
      by_cases c3 : v.toInt = 1
      · rw [if_pos c3, if_pos (by omega)]
      · rw [if_neg c3, if_neg (by omega)]
    · rw [if_neg c2]
      by_cases c3 : kK B i = 5
      · rw [if_pos c3]
        by_cases c4 : v.toInt = 3
        · rw [if_pos c4, if_pos (by omega)]
        · rw [if_neg c4, if_neg (by omega)]
      · rw [if_neg c3, if_neg (by omega)]
theorem k_shut {D : Dt} {S : SstT} (h : CRep D S) (ho : Ok S) (v1 v2 : Int32) : CDo (f_Root_shut v1 v2 D) D (sp_shut v1 v2 S).1 (sp_shut v1 v2 S).2 := by
  have h8 := ho.2.1.1.1
  unfold f_Root_shut sp_shut
  simp only [c_hasHouse h ho, c_isWithin, bnd_s, zo_if, tl]
  by_cases c1 : hsB S v1 = true
  · by_cases c2 : wi v2 0 1 = true
    · simp only [c1, c2, and_self, if_true]
      obtain ⟨i, hi, rfl, e⟩ := hsB_nat c1
      obtain ⟨b1, b2, b3, b4, b5⟩ := h.2.2.2.1.1.at ho.2.1.1 hi
      have hk := (ho.2.1.1.2.2.2 i hi).1
      rw [e, c_isOfKind h.2.2.2.1.1 ho.2.1.1 hi, bnd_s, zo_if]
      have ek : (kindB (kK S.2.2.2.1.1 i) (5 : Int32).toInt = true) ↔ kK S.2.2.2.1.1 i = 5 := by
        unfold kindB; simp only [tl, decide_eq_true_eq]; omega
      by_cases c3 : kK S.2.2.2.1.1 i = 5
      · rw [if_pos (ek.mpr c3), if_pos c3, if_pos (inb_t (by omega) (by omega) (by omega)), nm_s, if_pos (inb_t (by omega) (by omega) (by omega)), nm_s, zI_nat (by omega), b5]
        obtain ⟨f1, f2⟩ := cIds_out (D := D) (D1 := wr D (3 + 1 + 5) i v2) (a := 3 + 1 + 5) (fun k hk => wr_ne hk) (by omega)
        refine ⟨_, rfl, h.setStr ⟨⟨?_, ?_, ?_⟩, ?_, ?_, ?_⟩ f1, f2⟩
        · rw [wr_ne (by omega)]; exact h.2.2.2.1.1.1
        · rw [wr_ne (by omega)]; exact h.2.2.2.1.1.2.1
        · intro j hj hn
          obtain ⟨g1, g2, g3, g4, g5⟩ := h.2.2.2.1.1.at ho.2.1.1 hn
          refine ⟨?_, ?_, ?_, ?_, ?_⟩
          · rw [wr_ne (by omega)]; exact g1
          · rw [wr_ne (by omega)]; exact g2
          · rw [wr_ne (by omega)]; exact g3
          · rw [wr_ne (by omega)]; exact g4
          · rw [wr_at]
            show _ = zI (fu S.2.2.2.1.1.2.2.2.2.2.2.2 i v2.toInt j)
            by_cases z : j = i
            · subst z; rw [upd_at, fu_at, zI_self]
            · rw [upd_ne z, fu_ne z]; exact g5
        · exact h.2.2.2.1.2.1.congr (fun k a b => wr_ne (by omega))
        · rw [wr_ne (by omega)]; exact h.2.2.2.1.2.2.1
        · rw [wr_ne (by omega), wr_ne (by omega)]; exact h.2.2.2.1.2.2.2
      · rw [if_neg (fun q => c3 (ek.mp q)), if_neg c3]
        exact (c_find h 3 (by omega)).ret
    · simp only [c1, c2, and_false, if_true, if_false, Bool.false_eq_true]
      exact CDo.same h _
  · simp only [c1, false_and, if_false, Bool.false_eq_true]
    exact CDo.same h _
/-! pump -/
def wPump (W : WatT) (i : Nat) : WatT := (W.1, fu W.2.1 i 0, W.2.2.1, W.2.2.2.1, W.2.2.2.2 + W.2.1 i)
def sp_pump (v1 : Int32) (S : SstT) : Int32 × SstT := if hsB S v1 = true then (zI (S.2.2.2.1.2.1.2.1 v1.toInt.toNat), sStr S (S.2.2.2.1.1, wPump S.2.2.2.1.2.1 v1.toInt.toNat, S.2.2.2.1.2.2)) else (-1, S)
theorem k_pump {D : Dt} {S : SstT} (h : CRep D S) (ho : Ok S) (v1 : Int32) : CDo (f_Root_pump v1 D) D (sp_pump v1 S).1 (sp_pump v1 S).2 := by
  have h8 := ho.2.1.1.1
  unfold f_Root_pump sp_pump f_Waters_pumpOut
  simp only [c_hasHouse h ho, bnd_s, zo_if]
  by_cases c1 : hsB S v1 = true
  · simp only [c1, if_true]
    obtain ⟨i, hi, rfl, e⟩ := hsB_nat c1
    obtain ⟨w1, w2, w3⟩ := h.2.2.2.1.2.1
    rw [e, if_pos (inb_t (by omega) (by omega) (by omega)), if_pos (inb_t (by omega) (by omega) (by omega)), nm_s, nm_s, zI_nat (by omega), bnd_s, (w3 i (by omega)).2.1, wr_ne (show 3 + 7 ≠ 3 + 7 + 2 by omega), w2, zI_add]
    refine ⟨_, rfl, h.setStr ⟨h.2.2.2.1.1.congr (fun k a b => by rw [wr_ne (by omega), wr_ne (by omega)]), ⟨?_, ?_, fun j hj => ⟨?_, ?_, ?_⟩⟩, ?_, ?_⟩ (fun k _ hk => by rw [wr_ne (by omega), wr_ne (by omega)]), fun k hk => by rw [wr_ne (by omega), wr_ne (by omega)]⟩
    · rw [wr_at, upd_ne (by omega), wr_ne (by omega)]; exact w1
    · rw [wr_at, upd_at]; rfl
    · rw [wr_ne (by omega), wr_ne (by omega)]; exact (w3 j hj).1
    · rw [wr_ne (by omega), wr_at]
      exact upd_z (fun j hj => (w3 j hj).2.1) 0 j hj
    · rw [wr_ne (by omega), wr_ne (by omega)]; exact (w3 j hj).2.2
    · rw [wr_ne (by omega), wr_ne (by omega)]; exact h.2.2.2.1.2.2.1
    · simp (disch := omega) only [wr_ne]; exact h.2.2.2.1.2.2.2
  · simp only [c1, if_false, Bool.false_eq_true]
    exact CDo.same h _
