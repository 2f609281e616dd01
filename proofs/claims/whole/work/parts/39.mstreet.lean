/-! the same calls on the model's side -/
def CpR (D E : Dt) (a p b q n i : Nat) : Prop := (∀ j, j < i → E a (p + j) = D b (q + j)) ∧ (∀ j, (j < p ∨ p + n ≤ j) → E a j = D a j) ∧ ∀ k, k ≠ a → E k = D k
theorem CpR.step {D E : Dt} {a p b q n i : Nat} (h : CpR D E a p b q n i) (hi : i < n) {v : Int32} (hv : v = D b (q + i)) : CpR D (wr E a (p + i) v) a p b q n (i + 1) := by
  refine ⟨fun j hj => ?_, fun j hj => ?_, fun k hk => by rw [wr_ne hk]; exact h.2.2 k hk⟩
  · rw [wr_at]
    by_cases e : j = i
    · subst e; rw [upd_at]; exact hv
    · rw [upd_ne (by omega)]; exact h.1 j (by omega)
  · rw [wr_at, upd_ne (by omega)]; exact h.2.1 j hj
theorem CpR.init {D : Dt} {a p b q n : Nat} : CpR D D a p b q n 0 := ⟨fun j hj => by omega, fun _ _ => rfl, fun _ _ => rfl⟩
theorem PRep.mv {f g : Nat → Int32} {p r : Nat} {W : WatT} (h : PRep f p W) (hg : ∀ j, j < 26 → g (r + j) = f (p + j)) : PRep g r W := by
  obtain ⟨h1, h2, h3⟩ := h
  refine ⟨by rw [hg 24 (by omega)]; exact h1, by rw [hg 25 (by omega)]; exact h2, fun j hj => ⟨by rw [hg j (by omega)]; exact (h3 j hj).1, ?_, ?_⟩⟩
  · rw [Nat.add_assoc, hg (8 + j) (by omega), ← Nat.add_assoc]; exact (h3 j hj).2.1
  · rw [Nat.add_assoc, hg (16 + j) (by omega), ← Nat.add_assoc]; exact (h3 j hj).2.2
theorem zI_z0 : (0 : Int32) = zI ((0 : Nat) : Int) := rfl
theorem zI_z1 : (1 : Int32) = zI ((1 : Nat) : Int) := rfl
theorem m_v0 {i : Nat} (hi : i < 26) (D : Dt) : f_Model_v 0 (zI i) D = some (D 189 i, D) := by
  have := m_v (f := 0) (by omega) hi D
  rw [show 26 * 0 + i = i by omega] at this
  exact this
theorem m_place0 {i : Nat} (hi : i < 26) (x : Int32) (D : Dt) : f_Model_place 0 (zI i) x D = some ((), wr D 189 i x) := by
  have := m_place (f := 0) (by omega) hi x D
  rw [show 26 * 0 + i = i by omega] at this
  exact this
theorem m_add0 {i : Nat} (hi : i < 26) (x : Int32) (D : Dt) : f_Model_add 0 (zI i) x D = some ((), wr D 189 i (D 189 i + x)) := by
  have := m_add (f := 0) (by omega) hi x D
  rw [show 26 * 0 + i = i by omega] at this
  exact this
theorem PRep.p0 {f : Nat → Int32} {W : WatT} (h : PRep f 0 W) : f 24 = zI W.2.2.2.1 ∧ f 25 = zI W.2.2.2.2 ∧ ∀ j, j < 8 → f j = zI (W.1 j) ∧ f (8 + j) = zI (W.2.1 j) ∧ f (16 + j) = zI (W.2.2.1 j) := by
  obtain ⟨h1, h2, h3⟩ := h
  refine ⟨h1, h2, fun j hj => ?_⟩
  have := h3 j hj
  rw [Nat.zero_add, Nat.zero_add, Nat.zero_add] at this
  exact this
theorem q_house {D : Dt} {S : SstT} (h : MRep D S) (ho : Ok S) (v1 v2 : Int32) : MDo (f_Model_house v1 v2 D) D (sp_house v1 v2 S).1 (sp_house v1 v2 S).2 := by
  have h8 := ho.2.1.1.1
  unfold f_Model_house sp_house
  simp only [m_isHouse h ho, m_in, bnd_s, zo_if, tl]
  by_cases c1 : hsB S v1 = true
  · by_cases c2 : wi v2 0 6 = true
    · simp only [c1, c2, and_self, if_true]
      obtain ⟨i, hi, rfl, e⟩ := hsB_nat c1
      obtain ⟨w, hw, -, rfl⟩ := wi_nat c2 (by omega)
      obtain ⟨b1, b2, b3, b4, b5⟩ := h.2.2.2.1.1.at ho.2.1.1 hi
      obtain ⟨-, -, p3⟩ := h.2.2.2.1.2.1.p0
      obtain ⟨w1, w2, w3⟩ := p3 i (by omega)
      have key : f_Model_houseTells (zI i) (zI w) D = some (zI (houseV S.2.2.2.1 i w), D) := by
        unfold f_Model_houseTells houseV
        rw [zI_0p, zI_8p, zI_16p]
        simp only [inb_t (show (0 : Int) ≤ (i : Int) by omega) (show (i : Int) < (8 : Nat) by omega) (by omega), if_true, zI_nat (show i < 2147483648 by omega), b1, b2, b3, b4, m_v0 (show i < 26 by omega), m_v0 (show 8 + i < 26 by omega), m_v0 (show 16 + i < 26 by omega), bnd_s, w1, w2, w3, show (0 : Int32) = zI ((0 : Nat) : Int) from rfl, show (1 : Int32) = zI ((1 : Nat) : Int) from rfl, show (2 : Int32) = zI ((2 : Nat) : Int) from rfl, show (3 : Int32) = zI ((3 : Nat) : Int) from rfl, show (4 : Int32) = zI ((4 : Nat) : Int) from rfl, show (5 : Int32) = zI ((5 : Nat) : Int) from rfl, zI_eqn (show w < 2147483648 by omega) (show 0 < 2147483648 by omega), zI_eqn (show w < 2147483648 by omega) (show 1 < 2147483648 by omega), zI_eqn (show w < 2147483648 by omega) (show 2 < 2147483648 by omega), zI_eqn (show w < 2147483648 by omega) (show 3 < 2147483648 by omega), zI_eqn (show w < 2147483648 by omega) (show 4 < 2147483648 by omega), zI_eqn (show w < 2147483648 by omega) (show 5 < 2147483648 by omega)]
        rw [show zI ((0 : Nat) : Int) = (0 : Int32) from rfl]
        simp only [m_v0 (show i < 26 by omega), m_v0 (show 8 + i < 26 by omega), m_v0 (show 16 + i < 26 by omega), bnd_s, w1, w2, w3]
        rcases (show w = 0 ∨ w = 1 ∨ w = 2 ∨ w = 3 ∨ w = 4 ∨ w = 5 ∨ w = 6 by omega) with rfl | rfl | rfl | rfl | rfl | rfl | rfl <;> rfl
      rw [e, zI_toInt (by omega) (by omega), Int.toNat_natCast, key, bnd_s]
      exact (m_tells h _ _).ret
    · simp only [c1, c2, and_false, if_true, if_false, Bool.false_eq_true]
      exact MDo.same h _
  · simp only [c1, false_and, if_false, Bool.false_eq_true]
    exact MDo.same h _
theorem mBed_set {D D1 : Dt} {B B1 : BedT} (h : MBed D B) (hs : ∀ j, j ≠ 8 → D1 176 j = D 176 j) (h8 : D1 176 8 = zI (if B1.1 = 0 then 0 else B1.2.1)) (hn : B1.1 = B.1) (hsea : B1.2.2.1 = B.2.2.1) (hk : ∀ j, j < 8 → j < B.1 → D1 183 j = zI (kK B1 j) ∧ D1 184 j = zI (fF B1 j) ∧ D1 185 j = zI (sS B1 j) ∧ D1 186 j = zI (rR B1 j) ∧ D1 187 j = zI (hH B1 j)) : MBed D1 B1 := by
  obtain ⟨g1, g2, g3, g4⟩ := h
  exact ⟨by rw [hs 10 (by omega), hn]; exact g1, h8, by rw [hs 9 (by omega), hn, hsea]; exact g3, fun j a b => hk j a (by omega)⟩
theorem q_sill {D : Dt} {S : SstT} (h : MRep D S) (ho : Ok S) (v1 v2 : Int32) : MDo (f_Model_sill v1 v2 D) D (sp_sill v1 v2 S).1 (sp_sill v1 v2 S).2 := by
  have h8 := ho.2.1.1.1
  unfold f_Model_sill sp_sill
  simp only [m_isHouse h ho, m_in, bnd_s, zo_if, tl]
  by_cases c1 : hsB S v1 = true
  · by_cases c2 : wi v2 0 20 = true
    · simp only [c1, c2, and_self, if_true]
      obtain ⟨i, hi, rfl, e⟩ := hsB_nat c1
      obtain ⟨b1, b2, b3, b4, b5⟩ := h.2.2.2.1.1.at ho.2.1.1 hi
      rw [e, if_pos (inb_t (by omega) (by omega) (by omega)), if_pos (inb_t (by omega) (by omega) (by omega)), nm_s, zI_nat (by omega), b3]
      refine ⟨_, rfl, h.setStr ⟨mBed_set h.2.2.2.1.1 (fun j _ => by rw [wr_ne (by omega)]) (by rw [wr_ne (by omega)]; exact h.2.2.2.1.1.2.1) rfl rfl (fun j hj hn => ?_), ?_, ?_, ?_⟩ (by rw [wr_ne (by omega)]) (by rw [wr_ne (by omega)]) (fun k _ _ hk => by rw [wr_ne (by omega)]), fun k hk => by rw [wr_ne (by omega)]⟩
      · obtain ⟨g1, g2, g3, g4, g5⟩ := h.2.2.2.1.1.at ho.2.1.1 hn
        refine ⟨by rw [wr_ne (by omega)]; exact g1, by rw [wr_ne (by omega)]; exact g2, ?_, by rw [wr_ne (by omega)]; exact g4, by rw [wr_ne (by omega)]; exact g5⟩
        rw [wr_at]
        show _ = zI (fu S.2.2.2.1.1.2.2.2.2.2.1 i v2.toInt j)
        by_cases z : j = i
        · subst z; rw [upd_at, fu_at, zI_self]
        · rw [upd_ne z, fu_ne z]; exact g3
      · rw [wr_ne (by omega)]; exact h.2.2.2.1.2.1
      · rw [wr_ne (by omega)]; exact h.2.2.2.1.2.2.1
      · rw [wr_ne (by omega)]; exact h.2.2.2.1.2.2.2
    · simp only [c1, c2, and_false, if_true, if_false, Bool.false_eq_true]
      exact MDo.same h _
  · simp only [c1, false_and, if_false, Bool.false_eq_true]
    exact MDo.same h _
theorem q_flow {D : Dt} {S : SstT} (h : MRep D S) (ho : Ok S) (v1 : Int32) : MDo (f_Model_flow v1 D) D (sp_flow v1 S).1 (sp_flow v1 S).2 := by
  have h8 := ho.2.1.1.1
  unfold f_Model_flow sp_flow
  simp only [m_in, bnd_s, zo_if, tl, m_n0 h ho]
  by_cases c1 : wi v1 1 9 = true
  · by_cases c2 : 0 < S.2.2.2.1.1.1
    · simp only [c1, c2, if_true, not_true_eq_false, if_false, nm_s]
      rw [(h.2.2.2.1.1.fl c2).1]
      refine ⟨_, rfl, h.setStr ⟨mBed_set h.2.2.2.1.1 (fun j hj => by rw [wr_at, upd_ne hj]) ?_ rfl rfl (fun j hj hn => ?_), ?_, ?_, ?_⟩ (by rw [wr_at, upd_ne (by omega)]) (by rw [wr_at, upd_ne (by omega)]) (fun k hm _ hk => wr_ne (fun e => by subst e; revert hm; decide)), fun k hk => by rw [wr_ne (by omega)]⟩
      · rw [wr_at, upd_at, if_neg (show ¬ (bFlow S.2.2.2.1.1 v1.toInt).1 = 0 from fun q => by have : S.2.2.2.1.1.1 = 0 := q; omega)]
        exact (zI_self v1).symm
      · simp (disch := omega) only [wr_ne]; exact h.2.2.2.1.1.2.2.2 j hj hn
      · rw [wr_ne (by omega)]; exact h.2.2.2.1.2.1
      · rw [wr_at, upd_ne (by omega)]; exact h.2.2.2.1.2.2.1
      · rw [wr_ne (by omega)]; exact h.2.2.2.1.2.2.2
    · simp only [c1, c2, if_true, if_false, not_false_eq_true]
      exact MDo.same h _
  · simp only [c1, if_false, Bool.false_eq_true]
    exact MDo.same h _
theorem q_shut {D : Dt} {S : SstT} (h : MRep D S) (ho : Ok S) (v1 v2 : Int32) : MDo (f_Model_shut v1 v2 D) D (sp_shut v1 v2 S).1 (sp_shut v1 v2 S).2 := by
  have h8 := ho.2.1.1.1
  unfold f_Model_shut sp_shut
  simp only [m_isHouse h ho, m_in, bnd_s, zo_if, tl]
  by_cases c1 : hsB S v1 = true
  · by_cases c2 : wi v2 0 1 = true
    · simp only [c1, c2, and_self, if_true]
      obtain ⟨i, hi, rfl, e⟩ := hsB_nat c1
      obtain ⟨b1, b2, b3, b4, b5⟩ := h.2.2.2.1.1.at ho.2.1.1 hi
      have hk := (ho.2.1.1.2.2.2 i hi).1
      simp only [inb_t (show (0 : Int) ≤ (i : Int) by omega) (show (i : Int) < (8 : Nat) by omega) (by omega), if_true, zI_nat (show i < 2147483648 by omega), e, b1, b5, nm_s, show (5 : Int32) = zI 5 from rfl, zI_eq (show -2147483648 ≤ kK S.2.2.2.1.1 i by omega) (show kK S.2.2.2.1.1 i < 2147483648 by omega) (show -2147483648 ≤ (5 : Int) by omega) (show (5 : Int) < 2147483648 by omega)]
      by_cases c3 : kK S.2.2.2.1.1 i = 5
      · rw [if_pos c3, if_pos c3]
        refine ⟨_, rfl, h.setStr ⟨mBed_set h.2.2.2.1.1 (fun j _ => by rw [wr_ne (by omega)]) (by rw [wr_ne (by omega)]; exact h.2.2.2.1.1.2.1) rfl rfl (fun j hj hn => ?_), ?_, ?_, ?_⟩ (by rw [wr_ne (by omega)]) (by rw [wr_ne (by omega)]) (fun k _ _ hk => by rw [wr_ne (by omega)]), fun k hk => by rw [wr_ne (by omega)]⟩
        · obtain ⟨g1, g2, g3, g4, g5⟩ := h.2.2.2.1.1.at ho.2.1.1 hn
          refine ⟨by rw [wr_ne (by omega)]; exact g1, by rw [wr_ne (by omega)]; exact g2, by rw [wr_ne (by omega)]; exact g3, by rw [wr_ne (by omega)]; exact g4, ?_⟩
          rw [wr_at]
          show _ = zI (fu S.2.2.2.1.1.2.2.2.2.2.2.2 i v2.toInt j)
          by_cases z : j = i
          · subst z; rw [upd_at, fu_at, zI_self]
          · rw [upd_ne z, fu_ne z]; exact g5
        · rw [wr_ne (by omega)]; exact h.2.2.2.1.2.1
        · rw [wr_ne (by omega)]; exact h.2.2.2.1.2.2.1
        · rw [wr_ne (by omega)]; exact h.2.2.2.1.2.2.2
      · rw [if_neg c3, if_neg c3]
        exact (m_meets h 3 (by omega)).ret
    · simp only [c1, c2, and_false, if_true, if_false, Bool.false_eq_true]
      exact MDo.same h _
  · simp only [c1, false_and, if_false, Bool.false_eq_true]
    exact MDo.same h _
theorem q_pump {D : Dt} {S : SstT} (h : MRep D S) (ho : Ok S) (v1 : Int32) : MDo (f_Model_pump v1 D) D (sp_pump v1 S).1 (sp_pump v1 S).2 := by
  have h8 := ho.2.1.1.1
  unfold f_Model_pump sp_pump
  simp only [m_isHouse h ho, bnd_s, zo_if]
  by_cases c1 : hsB S v1 = true
  · simp only [c1, if_true]
    obtain ⟨i, hi, rfl, e⟩ := hsB_nat c1
    obtain ⟨p1, p2, p3⟩ := h.2.2.2.1.2.1.p0
    rw [e, zI_8p, m_v0 (by omega), bnd_s, m_place0 (by omega), bnd_s, show (25 : Int32) = zI ((25 : Nat) : Int) from rfl, m_add0 (by omega), bnd_s, (p3 i (by omega)).2.1, wr_at, upd_ne (show 25 ≠ 8 + i by omega), p2, zI_add]
    refine ⟨_, rfl, h.setStr ⟨h.2.2.2.1.1.congr (by rw [wr_ne (by omega), wr_ne (by omega)]) (by rw [wr_ne (by omega), wr_ne (by omega)]) (by rw [wr_ne (by omega), wr_ne (by omega)]) (fun k a b => by rw [wr_ne (by omega), wr_ne (by omega)]), ⟨?_, ?_, fun j hj => ⟨?_, ?_, ?_⟩⟩, ?_, ?_⟩ (by rw [wr_ne (by omega), wr_ne (by omega)]) (by rw [wr_ne (by omega), wr_ne (by omega)]) (fun k _ _ hk => by rw [wr_ne (by omega), wr_ne (by omega)]), fun k hk => by rw [wr_ne (by omega), wr_ne (by omega)]⟩
    · rw [wr_at, upd_ne (by omega), wr_at, upd_ne (by omega)]; exact p1
    · rw [wr_at, Nat.zero_add, upd_at]; rfl
    · rw [wr_at, upd_ne (by omega), wr_at, upd_ne (by omega), Nat.zero_add]; exact (p3 j hj).1
    · rw [wr_at, upd_ne (by omega), wr_at, Nat.zero_add]
      exact upd_sh (fun j hj => (p3 j hj).2.1) 0 j hj
    · rw [wr_at, upd_ne (by omega), wr_at, upd_ne (by omega), Nat.zero_add]; exact (p3 j hj).2.2
    · rw [wr_ne (by omega), wr_ne (by omega)]; exact h.2.2.2.1.2.2.1
    · simp (disch := omega) only [wr_ne]; exact h.2.2.2.1.2.2.2
  · simp only [c1, if_false, Bool.false_eq_true]
    exact MDo.same h _
