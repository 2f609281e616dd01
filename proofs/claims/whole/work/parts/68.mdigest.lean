/-! digest: the model -/
theorem m_byteAt {D : Dt} {S : SstT} (h : MRep D S) (ho : Ok1 S) {t i : Nat} (ht : t < 4) (hi : (i : Int) < (S.2.1 t).1) : f_Model_byteAt (zI t) (zI i) D = some ((S.2.1 t).2 i, D) := by
  obtain ⟨g1, g2⟩ := h.2.1 t ht
  have hz := ho.2 t ht
  unfold rwOk at hz
  unfold f_Model_byteAt
  rw [if_pos (inb_t (by omega) (by omega) (by omega)), zI_nat (by omega), g1, if_neg (by rw [zI_le (by omega) (by omega) (by omega) (by omega)]; omega), zI_p60, if_pos (inb_t (by omega) (by omega) (by omega)), zI_nat (by omega), g2 i hi]
theorem m_mx129 {D : Dt} {S : SstT} (h : MRep D S) (ho : Ok S) (y3 : Int64) : lp_Model_mixStreet_129 FU 0 (wrL D 176 y3) = some ((), wrL D 176 (hF (kpV S) 3 y3)) := by
  unfold lp_Model_mixStreet_129
  obtain ⟨m, hm⟩ := FU_eq (n := 4) (by omega)
  rw [hm, show m + 4 = (m + 1) + 3 by omega]
  obtain ⟨U, -, e⟩ := itr_go (fun _ _ => none) s_Model_mixStreet_129 (fun i (U : Unit) k => k (zI i) (wrL D 176 (hF (kpV S) i y3))) 3 (fun i U => True)
    (fun i hi U _ => ⟨(), trivial, fun k => by
      obtain ⟨g1, g2, g3⟩ := h.2.2.2.2 i hi
      have eK : hF (kpV S) (i + 1) y3 = 31 * hF (kpV S) i y3 + kpV S i := rfl
      rw [eK]
      generalize hF (kpV S) i y3 = y4
      unfold s_Model_mixStreet_129 b_Model_mixStreet_156
      rw [if_neg (by rw [show (3 : Int32) = zI 3 from rfl, zI_le (by omega) (by omega) (by omega) (by omega)]; omega), m_isThere (wrL_rep h _) ho hi, bnd_s, zo_if, if_pos (inb_t (by omega) (by omega) (by omega)), m_mix, bnd_s, m_mix, bnd_s, zI_nat (by omega), wrL_ne (show 193 ≠ 176 by omega), zI_s]
      unfold kpV
      by_cases c : (S.2.2.2.2 i).1 = true
      · rw [if_pos c, if_pos c, (g1 c).2.2.1]
      · rw [if_neg c, if_neg c]⟩) () trivial
  have e := e (m + 1)
  refine (show itr (fun _ _ => none) s_Model_mixStreet_129 (m + 1 + 3) (zI ((0 : Nat) : Int)) (wrL D 176 y3) = _ from e.trans ?_)
  rw [itr_s]
  unfold s_Model_mixStreet_129
  rw [if_pos (by decide)]
theorem m_mx96 {D : Dt} {S : SstT} (h : MRep D S) (ho : Ok S) (y2 : Int64) : lp_Model_mixStreet_96 FU 0 (wrL D 176 y2) = some ((), wrL D 176 (hF (kpV S) 3 (hF (fun n => (zI (S.2.2.2.1.2.2.2.2 n)).toInt64) S.2.2.2.1.2.2.1 y2))) := by
  have h60 := ho.2.1.2.2.1
  obtain ⟨hb, hw, hc, hpp⟩ := h.2.2.2.1
  unfold lp_Model_mixStreet_96
  obtain ⟨m, hm⟩ := FU_eq (n := S.2.2.2.1.2.2.1 + 1) (by omega)
  rw [hm, show m + (S.2.2.2.1.2.2.1 + 1) = (m + 1) + S.2.2.2.1.2.2.1 by omega]
  obtain ⟨U, -, e⟩ := itr_go (fun _ _ => none) s_Model_mixStreet_96 (fun i (U : Unit) k => k (zI i) (wrL D 176 (hF (fun n => (zI (S.2.2.2.1.2.2.2.2 n)).toInt64) i y2))) S.2.2.2.1.2.2.1 (fun i U => True)
    (fun i hi U _ => ⟨(), trivial, fun k => by
      unfold s_Model_mixStreet_96
      have e27 : (27 : Int32) * zI (i : Int) + 26 = zI ((27 * i + 26 : Nat) : Int) := by
        rw [show (27 : Int32) = zI 27 from rfl, show (26 : Int32) = zI 26 from rfl, zI_mul, zI_add]
        congr 1
      rw [wrL_sl (by omega), hc, if_neg (by rw [zI_le (by omega) (by omega) (by omega) (by omega)]; omega), e27, if_pos (inb_t (by omega) (by omega) (by omega)), zI_nat (by omega), m_mix, bnd_s, wrL_ne (show 192 ≠ 176 by omega), (hpp i hi).2, zI_s]
      rfl⟩) () trivial
  have e := e (m + 1)
  refine (show itr (fun _ _ => none) s_Model_mixStreet_96 (m + 1 + S.2.2.2.1.2.2.1) (zI ((0 : Nat) : Int)) (wrL D 176 y2) = _ from e.trans ?_)
  rw [itr_s]
  unfold s_Model_mixStreet_96
  rw [wrL_sl (by omega), hc, if_pos ((zI_le (by omega) (by omega) (by omega) (by omega)).mpr (by omega))]
  exact m_mx129 h ho _
theorem m_mx44 {D : Dt} {S : SstT} (h : MRep D S) (ho : Ok S) (y : Int64) : lp_Model_mixStreet_44 FU 0 (wrL D 176 y) = some ((), wrL D 176 (hF (kpV S) 3 (hF (fun n => (zI (S.2.2.2.1.2.2.2.2 n)).toInt64) S.2.2.2.1.2.2.1 (hsF S.2.2.2.1 S.2.2.2.1.1.1 y)))) := by
  have h8 := ho.2.1.1.1
  obtain ⟨hb, hw, hc, hpp⟩ := h.2.2.2.1
  unfold lp_Model_mixStreet_44
  obtain ⟨m, hm⟩ := FU_eq (n := S.2.2.2.1.1.1 + 1) (by omega)
  rw [hm, show m + (S.2.2.2.1.1.1 + 1) = (m + 1) + S.2.2.2.1.1.1 by omega]
  obtain ⟨U, -, e⟩ := itr_go (fun _ _ => none) s_Model_mixStreet_44 (fun i (U : Unit) k => k (zI i) (wrL D 176 (hsF S.2.2.2.1 i y))) S.2.2.2.1.1.1 (fun i U => True)
    (fun i hi U _ => ⟨(), trivial, fun k => by
      unfold s_Model_mixStreet_44
      rw [wrL_sl (by omega), hb.1, if_neg (by rw [zI_le (by omega) (by omega) (by omega) (by omega)]; omega)]
      unfold lp_Model_mixStreet_54
      obtain ⟨m2, hm2⟩ := FU_eq (n := 8) (by omega)
      rw [hm2, show m2 + 8 = (m2 + 1) + 7 by omega]
      obtain ⟨U, -, e⟩ := itr_go (fun _ _ _ => none) (s_Model_mixStreet_54 k) (fun w (U : Unit) k2 => k2 (zI i) (zI w) (wrL D 176 (hF (fun w => (zI (houseV S.2.2.2.1 i w)).toInt64) w (hsF S.2.2.2.1 i y)))) 7 (fun i U => True)
        (fun w hw2 U _ => ⟨(), trivial, fun k2 => by
          unfold s_Model_mixStreet_54
          rw [if_neg (by rw [show (7 : Int32) = zI 7 from rfl, zI_le (by omega) (by omega) (by omega) (by omega)]; omega), m_houseTells (wrL_rep h _) ho hi (by omega), bnd_s, m_mix, bnd_s, zI_s]
          rfl⟩) () trivial
      have e := e (m2 + 1)
      refine (show itr (fun _ _ _ => none) (s_Model_mixStreet_54 k) (m2 + 1 + 7) (zI i) (zI ((0 : Nat) : Int)) (wrL D 176 (hsF S.2.2.2.1 i y)) = _ from e.trans ?_)
      rw [itr_s, show hsF S.2.2.2.1 (i + 1) y = 31 * hF (fun w => (zI (houseV S.2.2.2.1 i w)).toInt64) 7 (hsF S.2.2.2.1 i y) + (zI (hH S.2.2.2.1.1 i)).toInt64 from rfl]
      generalize hF (fun w => (zI (houseV S.2.2.2.1 i w)).toInt64) 7 (hsF S.2.2.2.1 i y) = y7
      unfold s_Model_mixStreet_54
      rw [if_pos (by decide), if_pos (inb_t (by omega) (by omega) (by omega)), zI_nat (by omega), m_mix, bnd_s, zI_s, wrL_ne (show 187 ≠ 176 by omega), (hb.at ho.2.1.1 hi).2.2.2.2]⟩) () trivial
  have e := e (m + 1)
  refine (show itr (fun _ _ => none) s_Model_mixStreet_44 (m + 1 + S.2.2.2.1.1.1) (zI ((0 : Nat) : Int)) (wrL D 176 y) = _ from e.trans ?_)
  rw [itr_s]
  unfold s_Model_mixStreet_44
  rw [wrL_sl (by omega), hb.1, if_pos ((zI_le (by omega) (by omega) (by omega) (by omega)).mpr (by omega))]
  exact m_mx96 h ho _
theorem m_mixStreet {D : Dt} {S : SstT} (h : MRep D S) (ho : Ok S) (v : Int64) : f_Model_mixStreet (wrL D 176 v) = some ((), wrL D 176 (hF (kpV S) 3 (dgS S v))) := by
  obtain ⟨hb, hw, hc, hpp⟩ := h.2.2.2.1
  have hw0 := hw.p0
  have ev : ∀ (x : Int64) (j : Nat), j < 26 → f_Model_v 0 (zI (j : Int)) (wrL D 176 x) = some (D 189 j, wrL D 176 x) := fun x j hj => by
    rw [m_v0 hj, wrL_ne (by omega)]
  unfold f_Model_mixStreet
  rw [m_mix, bnd_s, m_mix, bnd_s, show (24 : Int32) = zI ((24 : Nat) : Int) from rfl, ev _ 24 (by omega), bnd_s, m_mix, bnd_s, show (25 : Int32) = zI ((25 : Nat) : Int) from rfl, ev _ 25 (by omega), bnd_s, m_mix, bnd_s, wrL_sl (by omega), wrL_sl (by omega), hb.2.1, hb.2.2.1, hw0.1, hw0.2.1]
  unfold dgS
  exact m_mx44 h ho _
theorem q_digest {D : Dt} {S : SstT} (h : MRep D S) (ho : Ok S) : f_Model_digest D = some (sp_digest S, wrL D 176 (sp_digest S)) := by
  unfold f_Model_digest lp_Model_digest_9 sp_digest
  rw [nm_s]
  obtain ⟨m, hm⟩ := FU_eq (n := 9) (by omega)
  rw [hm, show m + 9 = (m + 1) + 8 by omega]
  obtain ⟨U, -, e⟩ := itr_go (fun _ _ => none) s_Model_digest_9 (fun i (U : Unit) k => k (zI i) (wrL D 176 (hF (fun w => (zI (cntV w S)).toInt64) i 17))) 8 (fun i U => True)
    (fun i hi U _ => ⟨(), trivial, fun k => by
      unfold s_Model_digest_9
      rw [if_neg (by rw [show (8 : Int32) = zI 8 from rfl, zI_le (by omega) (by omega) (by omega) (by omega)]; omega), m_counted (wrL_rep h _) ho (by omega), bnd_s, m_mix, bnd_s, zI_s]
      rfl⟩) () trivial
  have e := e (m + 1)
  refine (show itr (fun _ _ => none) s_Model_digest_9 (m + 1 + 8) (zI ((0 : Nat) : Int)) (wrL D 176 17) = _ from e.trans ?_)
  rw [itr_s]
  unfold s_Model_digest_9
  rw [if_pos (by decide), m_mixStreet h ho, bnd_s]
  generalize hF (kpV S) 3 (dgS S (hF (fun w => (zI (cntV w S)).toInt64) 8 17)) = y
  unfold lp_Model_digest_37
  obtain ⟨m, hm⟩ := FU_eq (n := 7) (by omega)
  rw [hm, show m + 7 = (m + 1) + 6 by omega]
  obtain ⟨U, -, e⟩ := itr_go (fun _ _ => none) s_Model_digest_37 (fun i (U : Unit) k => k (zI i) (wrL D 176 (rwF S.1 i y))) 6 (fun i U => True)
    (fun i hi U _ => ⟨(), trivial, fun k => by
      obtain ⟨g1, g2⟩ := h.1 i hi
      have hz := ho.1.1 i hi
      unfold rwOk at hz
      have hin : inb (zI (i : Int)) 6 = true := inb_t (by omega) (by omega) (by omega)
      unfold s_Model_digest_37
      rw [if_neg (by rw [show (6 : Int32) = zI 6 from rfl, zI_le (by omega) (by omega) (by omega) (by omega)]; omega), if_pos hin, zI_nat (by omega), wrL_ne (show 178 ≠ 176 by omega), g1, m_mix, bnd_s]
      unfold lp_Model_digest_56
      obtain ⟨m2, hm2⟩ := FU_eq (n := (S.1 i).1.toNat + 1) (by omega)
      rw [hm2, show m2 + ((S.1 i).1.toNat + 1) = (m2 + 1) + (S.1 i).1.toNat by omega]
      obtain ⟨U, -, e⟩ := itr_go (fun _ _ _ => none) (s_Model_digest_56 k) (fun w (U : Unit) k2 => k2 (zI i) (zI w) (wrL D 176 (hF (fun j => ((S.1 i).2 j).toInt64) w (31 * rwF S.1 i y + (zI (S.1 i).1).toInt64)))) (S.1 i).1.toNat (fun i U => True)
        (fun w hw2 U _ => ⟨(), trivial, fun k2 => by
          unfold s_Model_digest_56
          rw [if_pos hin, zI_nat (by omega), wrL_ne (show 178 ≠ 176 by omega), g1, if_neg (by rw [zI_le (by omega) (by omega) (by omega) (by omega)]; omega), m_rowAt hi (by omega), bnd_s, m_mix, bnd_s, wrL_ne (show 179 ≠ 176 by omega), g2 w (by omega), zI_s]
          rfl⟩) () trivial
      have e := e (m2 + 1)
      refine (show itr (fun _ _ _ => none) (s_Model_digest_56 k) (m2 + 1 + (S.1 i).1.toNat) (zI i) (zI ((0 : Nat) : Int)) (wrL D 176 (31 * rwF S.1 i y + (zI (S.1 i).1).toInt64)) = _ from e.trans ?_)
      rw [itr_s]
      unfold s_Model_digest_56
      rw [if_pos hin, zI_nat (by omega), wrL_ne (show 178 ≠ 176 by omega), g1, if_pos (by rw [zI_le (by omega) (by omega) (by omega) (by omega)]; omega), zI_s]
      rfl⟩) () trivial
  have e := e (m + 1)
  refine (show itr (fun _ _ => none) s_Model_digest_37 (m + 1 + 6) (zI ((0 : Nat) : Int)) (wrL D 176 y) = _ from e.trans ?_)
  rw [itr_s]
  unfold s_Model_digest_37
  rw [if_pos (by decide)]
  generalize rwF S.1 6 y = y
  unfold lp_Model_digest_91
  obtain ⟨m, hm⟩ := FU_eq (n := 5) (by omega)
  rw [hm, show m + 5 = (m + 1) + 4 by omega]
  obtain ⟨U, -, e⟩ := itr_go (fun _ _ => none) s_Model_digest_91 (fun i (U : Unit) k => k (zI i) (wrL D 176 (rwF S.2.1 i y))) 4 (fun i U => True)
    (fun i hi U _ => ⟨(), trivial, fun k => by
      obtain ⟨g1, g2⟩ := h.2.1 i hi
      have hz := ho.1.2 i hi
      unfold rwOk at hz
      have hin : inb (zI (i : Int)) 4 = true := inb_t (by omega) (by omega) (by omega)
      unfold s_Model_digest_91
      rw [if_neg (by rw [show (4 : Int32) = zI 4 from rfl, zI_le (by omega) (by omega) (by omega) (by omega)]; omega), if_pos hin, zI_nat (by omega), wrL_ne (show 181 ≠ 176 by omega), g1, m_mix, bnd_s]
      unfold lp_Model_digest_109
      obtain ⟨m2, hm2⟩ := FU_eq (n := (S.2.1 i).1.toNat + 1) (by omega)
      rw [hm2, show m2 + ((S.2.1 i).1.toNat + 1) = (m2 + 1) + (S.2.1 i).1.toNat by omega]
      obtain ⟨U, -, e⟩ := itr_go (fun _ _ _ => none) (s_Model_digest_109 k) (fun w (U : Unit) k2 => k2 (zI i) (zI w) (wrL D 176 (hF (fun j => ((S.2.1 i).2 j).toInt64) w (31 * rwF S.2.1 i y + (zI (S.2.1 i).1).toInt64)))) (S.2.1 i).1.toNat (fun i U => True)
        (fun w hw2 U _ => ⟨(), trivial, fun k2 => by
          unfold s_Model_digest_109
          rw [if_pos hin, zI_nat (by omega), wrL_ne (show 181 ≠ 176 by omega), g1, if_neg (by rw [zI_le (by omega) (by omega) (by omega) (by omega)]; omega), m_byteAt (wrL_rep h _) ho.1 hi (by omega), bnd_s, m_mix, bnd_s, zI_s]
          rfl⟩) () trivial
      have e := e (m2 + 1)
      refine (show itr (fun _ _ _ => none) (s_Model_digest_109 k) (m2 + 1 + (S.2.1 i).1.toNat) (zI i) (zI ((0 : Nat) : Int)) (wrL D 176 (31 * rwF S.2.1 i y + (zI (S.2.1 i).1).toInt64)) = _ from e.trans ?_)
      rw [itr_s]
      unfold s_Model_digest_109
      rw [if_pos hin, zI_nat (by omega), wrL_ne (show 181 ≠ 176 by omega), g1, if_pos (by rw [zI_le (by omega) (by omega) (by omega) (by omega)]; omega), zI_s]
      rfl⟩) () trivial
  have e := e (m + 1)
  refine (show itr (fun _ _ => none) s_Model_digest_91 (m + 1 + 4) (zI ((0 : Nat) : Int)) (wrL D 176 y) = _ from e.trans ?_)
  rw [itr_s]
  unfold s_Model_digest_91
  rw [if_pos (by decide), wrL_h]
