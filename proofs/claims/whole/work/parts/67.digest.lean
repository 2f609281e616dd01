/-! digest -/
def hF (f : Nat → Int64) : Nat → Int64 → Int64
  | 0, h => h
  | n + 1, h => 31 * hF f n h + f n
def hsF (x : StrT) : Nat → Int64 → Int64
  | 0, h => h
  | i + 1, h => 31 * hF (fun w => (zI (houseV x i w)).toInt64) 7 (hsF x i h) + (zI (hH x.1 i)).toInt64
def rwF (R : Nat → RwT) : Nat → Int64 → Int64
  | 0, h => h
  | r + 1, h => hF (fun i => ((R r).2 i).toInt64) (R r).1.toNat (31 * rwF R r h + (zI (R r).1).toInt64)
def kpV (S : SstT) (k : Nat) : Int64 := if (S.2.2.2.2 k).1 = true then (zI ((S.2.2.2.2 k).2.2.2.1 : Nat)).toInt64 else -1
def dgS (S : SstT) (h : Int64) : Int64 := hF (fun n => (zI (S.2.2.2.1.2.2.2.2 n)).toInt64) S.2.2.2.1.2.2.1 (hsF S.2.2.2.1 S.2.2.2.1.1.1 (31 * (31 * (31 * (31 * h + (zI (if S.2.2.2.1.1.1 = 0 then 0 else S.2.2.2.1.1.2.1)).toInt64) + (zI (if S.2.2.2.1.1.1 = 0 then 0 else S.2.2.2.1.1.2.2.1)).toInt64) + (zI S.2.2.2.1.2.1.2.2.2.1).toInt64) + (zI S.2.2.2.1.2.1.2.2.2.2).toInt64))
def sp_digest (S : SstT) : Int64 := rwF S.2.1 4 (rwF S.1 6 (hF (kpV S) 3 (dgS S (hF (fun w => (zI (cntV w S)).toInt64) 8 17))))
theorem c_rowFold {D : Dt} {a : Nat} {w : RwT} (h : CRw D a w) (hw : rwOk w) (v : Int64) : f_Row_foldedInto a v D = some (hF (fun i => (w.2 i).toInt64) w.1.toNat (31 * v + (zI w.1).toInt64), D) := by
  obtain ⟨g1, g2⟩ := h
  unfold rwOk at hw
  unfold f_Row_foldedInto lp_Row_foldedInto_14
  obtain ⟨m, hm⟩ := FU_eq (n := w.1.toNat + 1) (by omega)
  rw [hm, show m + (w.1.toNat + 1) = (m + 1) + w.1.toNat by omega, g1]
  obtain ⟨U, -, e⟩ := itr_go (fun _ _ _ => none) (s_Row_foldedInto_14 a) (fun i (U : Unit) k => k (hF (fun i => (w.2 i).toInt64) i (31 * v + (zI w.1).toInt64)) (zI i) D) w.1.toNat (fun i U => True)
    (fun i hi U _ => ⟨(), trivial, fun k => by
      unfold s_Row_foldedInto_14
      rw [g1, if_neg (by rw [zI_le (by omega) (by omega) (by omega) (by omega)]; omega), if_pos (inb_t (by omega) (by omega) (by omega)), zI_nat (by omega), g2 i (by omega), nm_s, zI_s]
      rfl⟩) () trivial
  have e := e (m + 1)
  refine (show itr (fun _ _ _ => none) (s_Row_foldedInto_14 a) (m + 1 + w.1.toNat) (31 * v + (zI w.1).toInt64) (zI ((0 : Nat) : Int)) D = _ from e.trans ?_)
  rw [itr_s]
  unfold s_Row_foldedInto_14
  rw [g1, if_pos ((zI_le (by omega) (by omega) (by omega) (by omega)).mpr (by omega))]
theorem c_txtFold {D : Dt} {a : Nat} {w : RwT} (h : CRw D a w) (hw : rwOk w) (v : Int64) : f_Text_foldedInto a v D = some (hF (fun i => (w.2 i).toInt64) w.1.toNat (31 * v + (zI w.1).toInt64), D) := c_rowFold h hw v
theorem c_strFold {D : Dt} {S : SstT} (h : CRep D S) (ho : Ok S) (v : Int64) : f_Street_foldedInto 3 v D = some (dgS S v, D) := by
  have h8 := ho.2.1.1.1
  have h60 := ho.2.1.2.2.1
  obtain ⟨hb, hw, hc, hpp⟩ := h.2.2.2.1
  have tail : ∀ y : Int64, lp_Street_foldedInto_95 3 FU y 0 D = some (hF (fun n => (zI (S.2.2.2.1.2.2.2.2 n)).toInt64) S.2.2.2.1.2.2.1 (hsF S.2.2.2.1 S.2.2.2.1.1.1 y), D) := by
    intro y
    unfold lp_Street_foldedInto_95
    obtain ⟨m, hm⟩ := FU_eq (n := S.2.2.2.1.1.1 + 1) (by omega)
    rw [hm, show m + (S.2.2.2.1.1.1 + 1) = (m + 1) + S.2.2.2.1.1.1 by omega]
    obtain ⟨U, -, e⟩ := itr_go (fun _ _ _ => none) (s_Street_foldedInto_95 3) (fun i (U : Unit) k => k (hsF S.2.2.2.1 i y) (zI i) D) S.2.2.2.1.1.1 (fun i U => True)
      (fun i hi U _ => ⟨(), trivial, fun k => by
        unfold s_Street_foldedInto_95
        rw [hb.1, if_neg (by rw [zI_le (by omega) (by omega) (by omega) (by omega)]; omega)]
        unfold lp_Street_foldedInto_110
        obtain ⟨m2, hm2⟩ := FU_eq (n := 8) (by omega)
        rw [hm2, show m2 + 8 = (m2 + 1) + 7 by omega]
        obtain ⟨U, -, e⟩ := itr_go (fun _ _ _ _ => none) (s_Street_foldedInto_110 3 k) (fun w (U : Unit) k2 => k2 (hF (fun w => (zI (houseV S.2.2.2.1 i w)).toInt64) w (hsF S.2.2.2.1 i y)) (zI i) (zI w) D) 7 (fun i U => True)
          (fun w hw2 U _ => ⟨(), trivial, fun k2 => by
            unfold s_Street_foldedInto_110
            rw [if_neg (by rw [show (6 : Int32) = zI 6 from rfl, zI_lt (by omega) (by omega) (by omega) (by omega)]; omega), c_ofHouse h.2.2.2.1 ho.2.1.1 hi (by omega), bnd_s, zI_s]
            rfl⟩) () trivial
        have e := e (m2 + 1)
        refine (show itr (fun _ _ _ _ => none) (s_Street_foldedInto_110 3 k) (m2 + 1 + 7) (hsF S.2.2.2.1 i y) (zI i) (zI ((0 : Nat) : Int)) D = _ from e.trans ?_)
        rw [itr_s]
        unfold s_Street_foldedInto_110
        rw [if_pos (by decide), if_pos (inb_t (by omega) (by omega) (by omega)), zI_nat (by omega), nm_s, zI_s, show (D ((3 + 1) + 5) i) = zI (hH S.2.2.2.1.1 i) from (hb.2.2 i (by omega) hi).2.2.2.2]
        rfl⟩) () trivial
    have e := e (m + 1)
    refine (show itr (fun _ _ _ => none) (s_Street_foldedInto_95 3) (m + 1 + S.2.2.2.1.1.1) y (zI ((0 : Nat) : Int)) D = _ from e.trans ?_)
    rw [itr_s]
    unfold s_Street_foldedInto_95
    rw [hb.1, if_pos ((zI_le (by omega) (by omega) (by omega) (by omega)).mpr (by omega))]
    generalize hsF S.2.2.2.1 S.2.2.2.1.1.1 y = y2
    unfold lp_Street_foldedInto_166
    obtain ⟨m, hm⟩ := FU_eq (n := S.2.2.2.1.2.2.1 + 1) (by omega)
    rw [hm, show m + (S.2.2.2.1.2.2.1 + 1) = (m + 1) + S.2.2.2.1.2.2.1 by omega]
    obtain ⟨U, -, e⟩ := itr_go (fun _ _ _ => none) (s_Street_foldedInto_166 3) (fun i (U : Unit) k => k (hF (fun n => (zI (S.2.2.2.1.2.2.2.2 n)).toInt64) i y2) (zI i) D) S.2.2.2.1.2.2.1 (fun i U => True)
      (fun i hi U _ => ⟨(), trivial, fun k => by
        unfold s_Street_foldedInto_166
        rw [hc, if_neg (by rw [zI_le (by omega) (by omega) (by omega) (by omega)]; omega), if_pos (inb_t (by omega) (by omega) (by omega)), zI_nat (by omega), (hpp i hi).2, nm_s, zI_s]
        rfl⟩) () trivial
    have e := e (m + 1)
    refine (show itr (fun _ _ _ => none) (s_Street_foldedInto_166 3) (m + 1 + S.2.2.2.1.2.2.1) y2 (zI ((0 : Nat) : Int)) D = _ from e.trans ?_)
    rw [itr_s]
    unfold s_Street_foldedInto_166
    rw [hc, if_pos ((zI_le (by omega) (by omega) (by omega) (by omega)).mpr (by omega))]
  unfold f_Street_foldedInto b_Street_foldedInto_15 b_Street_foldedInto_36 b_Street_foldedInto_59 dgS
  rw [hb.1, show (0 : Int32) = zI ((0 : Nat) : Int) from rfl, if_cg (zI_le (a := ((S.2.2.2.1.1.1 : Nat) : Int)) (b := ((0 : Nat) : Int)) (by omega) (by omega) (by omega) (by omega))]
  by_cases c : S.2.2.2.1.1.1 = 0
  · rw [if_pos (by omega), if_pos rfl, if_pos rfl, nm_s, nm_s, if_pos c, if_pos c, hw.1, hw.2.1]
    exact tail _
  · obtain ⟨b1, b2⟩ := hb.2.1 (by omega)
    rw [if_neg (by omega), if_neg (show ¬ (1 : Int32) = zI ((0 : Nat) : Int) by decide), if_neg (show ¬ (1 : Int32) = zI ((0 : Nat) : Int) by decide), nm_s, nm_s, if_neg c, if_neg c, hw.1, hw.2.1, b1, b2]
    exact tail _
theorem c_dg110 {D : Dt} {S : SstT} (h : CRep D S) (ho : Ok S) (y : Int64) : lp_Root_digest_110 FU y 0 D = some (rwF S.2.1 4 y, D) := by
  unfold lp_Root_digest_110
  obtain ⟨m, hm⟩ := FU_eq (n := 5) (by omega)
  rw [hm, show m + 5 = (m + 1) + 4 by omega]
  obtain ⟨U, -, e⟩ := itr_go (fun _ _ _ => none) s_Root_digest_110 (fun i (U : Unit) k => k (rwF S.2.1 i y) (zI i) D) 4 (fun i U => True)
    (fun i hi U _ => ⟨(), trivial, fun k => by
      unfold s_Root_digest_110
      rw [if_neg (by rw [show (4 : Int32) = zI 4 from rfl, zI_le (by omega) (by omega) (by omega) (by omega)]; omega), if_pos (inb_t (by omega) (by omega) (by omega)), zI_nat (by omega), c_txtFold (h.2.1 i hi) (ho.1.2 i hi), bnd_s, zI_s]
      rfl⟩) () trivial
  have e := e (m + 1)
  refine (show itr (fun _ _ _ => none) s_Root_digest_110 (m + 1 + 4) y (zI ((0 : Nat) : Int)) D = _ from e.trans ?_)
  rw [itr_s]
  unfold s_Root_digest_110
  rw [if_pos (by decide)]
theorem c_dg85 {D : Dt} {S : SstT} (h : CRep D S) (ho : Ok S) (y : Int64) : lp_Root_digest_85 FU y 0 D = some (rwF S.2.1 4 (rwF S.1 6 y), D) := by
  unfold lp_Root_digest_85
  obtain ⟨m, hm⟩ := FU_eq (n := 7) (by omega)
  rw [hm, show m + 7 = (m + 1) + 6 by omega]
  obtain ⟨U, -, e⟩ := itr_go (fun _ _ _ => none) s_Root_digest_85 (fun i (U : Unit) k => k (rwF S.1 i y) (zI i) D) 6 (fun i U => True)
    (fun i hi U _ => ⟨(), trivial, fun k => by
      unfold s_Root_digest_85
      rw [if_neg (by rw [show (6 : Int32) = zI 6 from rfl, zI_le (by omega) (by omega) (by omega) (by omega)]; omega), if_pos (inb_t (by omega) (by omega) (by omega)), zI_nat (by omega), c_rowFold (h.1 i hi) (ho.1.1 i hi), bnd_s, zI_s]
      rfl⟩) () trivial
  have e := e (m + 1)
  refine (show itr (fun _ _ _ => none) s_Root_digest_85 (m + 1 + 6) y (zI ((0 : Nat) : Int)) D = _ from e.trans ?_)
  rw [itr_s]
  unfold s_Root_digest_85
  rw [if_pos (by decide)]
  exact c_dg110 h ho _
theorem c_dg42 {D : Dt} {S : SstT} (h : CRep D S) (ho : Ok S) (y : Int64) : lp_Root_digest_42 FU y 0 D = some (rwF S.2.1 4 (rwF S.1 6 (hF (kpV S) 3 y)), D) := by
  unfold lp_Root_digest_42
  obtain ⟨m, hm⟩ := FU_eq (n := 4) (by omega)
  rw [hm, show m + 4 = (m + 1) + 3 by omega]
  obtain ⟨U, -, e⟩ := itr_go (fun _ _ _ => none) s_Root_digest_42 (fun i (U : Unit) k => k (hF (kpV S) i y) (zI i) D) 3 (fun i U => True)
    (fun i hi U _ => ⟨(), trivial, fun k => by
      obtain ⟨g1, g2⟩ := h.2.2.2.2.1 i hi
      unfold s_Root_digest_42 b_Root_digest_74
      rw [if_neg (by rw [show (3 : Int32) = zI 3 from rfl, zI_le (by omega) (by omega) (by omega) (by omega)]; omega), if_pos (inb_t (by omega) (by omega) (by omega)), if_pos (inb_t (by omega) (by omega) (by omega)), zI_nat (by omega), g1, zI_s]
      show _ = k (31 * hF (kpV S) i y + kpV S i) _ D
      unfold kpV
      by_cases c : (S.2.2.2.2 i).1 = true
      · rw [if_pos c, if_neg (show ¬ zI 1 = 0 by decide), if_pos c, (g2 c).2.2.1]
      · rw [if_neg c, if_pos (show zI 0 = 0 from rfl), if_neg c, show (-1 : Int32).toInt64 = (-1 : Int64) by decide]⟩) () trivial
  have e := e (m + 1)
  refine (show itr (fun _ _ _ => none) s_Root_digest_42 (m + 1 + 3) y (zI ((0 : Nat) : Int)) D = _ from e.trans ?_)
  rw [itr_s]
  unfold s_Root_digest_42
  rw [if_pos (by decide)]
  exact c_dg85 h ho _
theorem k_digest {D : Dt} {S : SstT} (h : CRep D S) (ho : Ok S) : f_Root_digest D = some (sp_digest S, D) := by
  unfold f_Root_digest lp_Root_digest_6 sp_digest
  obtain ⟨m, hm⟩ := FU_eq (n := 9) (by omega)
  rw [hm, show m + 9 = (m + 1) + 8 by omega]
  obtain ⟨U, -, e⟩ := itr_go (fun _ _ _ => none) s_Root_digest_6 (fun i (U : Unit) k => k (hF (fun w => (zI (cntV w S)).toInt64) i 17) (zI i) D) 8 (fun i U => True)
    (fun i hi U _ => ⟨(), trivial, fun k => by
      unfold s_Root_digest_6
      rw [if_neg (by rw [show (8 : Int32) = zI 8 from rfl, zI_le (by omega) (by omega) (by omega) (by omega)]; omega), c_count h ho (by omega), bnd_s, zI_s]
      rfl⟩) () trivial
  have e := e (m + 1)
  refine (show itr (fun _ _ _ => none) s_Root_digest_6 (m + 1 + 8) 17 (zI ((0 : Nat) : Int)) D = _ from e.trans ?_)
  rw [itr_s]
  unfold s_Root_digest_6
  rw [if_pos (by decide), c_strFold h ho, bnd_s]
  exact c_dg42 h ho _
/-! the model -/
theorem wrL_ne {D : Dt} {x : Int64} {k : Nat} (h : k ≠ 176) : wrL D 176 x k = D k := by unfold wrL; rw [st_ne h]
theorem wrL_sl {D : Dt} {x : Int64} {j : Nat} (h : j < 57) : wrL D 176 x 176 j = D 176 j := by unfold wrL; rw [st_at, upd_ne (by omega), upd_ne (by omega)]
theorem wrL_h {D : Dt} {x : Int64} : i64 (wrL D 176 x 176 57) (wrL D 176 x 176 58) = x := by unfold wrL; rw [st_at, upd_ne (by omega), upd_at, upd_at, i64_back]
theorem wrL_w {D : Dt} {x y : Int64} : wrL (wrL D 176 x) 176 y = wrL D 176 y := by
  funext k j
  by_cases c : k = 176
  · subst c
    unfold wrL
    rw [st_at, st_at, st_at]
    unfold upd
    by_cases c1 : j = 58
    · rw [if_pos c1, if_pos c1]
    · rw [if_neg c1, if_neg c1]
      by_cases c2 : j = 57
      · simp [c2]
      · simp [c1, c2]
  · rw [wrL_ne c, wrL_ne c, wrL_ne c]
theorem wrL_rep {D : Dt} {S : SstT} (h : MRep D S) (x : Int64) : MRep (wrL D 176 x) S := m_slot h (fun j hj => wrL_sl (by omega)) (fun k a _ => wrL_ne a)
theorem m_mix {D : Dt} {x v : Int64} : f_Model_mix v (wrL D 176 x) = some ((), wrL D 176 (31 * x + v)) := by
  unfold f_Model_mix
  rw [nm_s, wrL_h, wrL_w]
theorem m_houseTells {D : Dt} {S : SstT} (h : MRep D S) (ho : Ok S) {i w : Nat} (hi : i < S.2.2.2.1.1.1) (hw : w ≤ 6) : f_Model_houseTells (zI i) (zI w) D = some (zI (houseV S.2.2.2.1 i w), D) := by
  have h8 := ho.2.1.1.1
  obtain ⟨b1, b2, b3, b4, b5⟩ := h.2.2.2.1.1.at ho.2.1.1 hi
  obtain ⟨-, -, p3⟩ := h.2.2.2.1.2.1.p0
  obtain ⟨w1, w2, w3⟩ := p3 i (by omega)
  unfold f_Model_houseTells houseV
  rw [zI_0p, zI_8p, zI_16p]
  simp only [inb_t (show (0 : Int) ≤ (i : Int) by omega) (show (i : Int) < (8 : Nat) by omega) (by omega), if_true, zI_nat (show i < 2147483648 by omega), b1, b2, b3, b4, m_v0 (show i < 26 by omega), m_v0 (show 8 + i < 26 by omega), m_v0 (show 16 + i < 26 by omega), bnd_s, w1, w2, w3, show (0 : Int32) = zI ((0 : Nat) : Int) from rfl, show (1 : Int32) = zI ((1 : Nat) : Int) from rfl, show (2 : Int32) = zI ((2 : Nat) : Int) from rfl, show (3 : Int32) = zI ((3 : Nat) : Int) from rfl, show (4 : Int32) = zI ((4 : Nat) : Int) from rfl, show (5 : Int32) = zI ((5 : Nat) : Int) from rfl, zI_eqn (show w < 2147483648 by omega) (show 0 < 2147483648 by omega), zI_eqn (show w < 2147483648 by omega) (show 1 < 2147483648 by omega), zI_eqn (show w < 2147483648 by omega) (show 2 < 2147483648 by omega), zI_eqn (show w < 2147483648 by omega) (show 3 < 2147483648 by omega), zI_eqn (show w < 2147483648 by omega) (show 4 < 2147483648 by omega), zI_eqn (show w < 2147483648 by omega) (show 5 < 2147483648 by omega)]
  rw [show zI ((0 : Nat) : Int) = (0 : Int32) from rfl]
  simp only [m_v0 (show i < 26 by omega), m_v0 (show 8 + i < 26 by omega), m_v0 (show 16 + i < 26 by omega), bnd_s, w1, w2, w3]
  rcases (show w = 0 ∨ w = 1 ∨ w = 2 ∨ w = 3 ∨ w = 4 ∨ w = 5 ∨ w = 6 by omega) with rfl | rfl | rfl | rfl | rfl | rfl | rfl <;> rfl
