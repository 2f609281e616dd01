/-! the model's hour, undo, water, keep, on, mark -/
def sumN (a : Nat → Int) : Nat → Int
  | 0 => 0
  | n + 1 => sumN a n + a n
theorem sumN_8 (a : Nat → Int) : sumN a 8 = sum8 a := by unfold sum8; simp only [sumN]; omega
theorem sumN_z {a : Nat → Int} {n : Nat} (h : ∀ i, n ≤ i → a i = 0) : ∀ m, n ≤ m → sumN a m = sumN a n := by
  intro m
  induction m with
  | zero => intro q; rw [show n = 0 by omega]
  | succ m ih =>
    intro q
    by_cases e : n = m + 1
    · rw [e]
    · show sumN a m + a m = _
      rw [ih (by omega), h m (by omega), Int.add_zero]
theorem sumN_n {a : Nat → Int} {n : Nat} (h : ∀ i, n ≤ i → a i = 0) (hn : n ≤ 8) : sumN a n = sum8 a := by rw [← sumN_8, sumN_z h 8 hn]
theorem m_standing {D : Dt} {f : Nat} {B : BedT} {a : Nat → Int} (hf : f < 2) (hb : MBed D B) (h8 : B.1 ≤ 8) (ha : ∀ j, j < 8 → D 189 (26 * f + j) = zI (a j)) (hz : ∀ i, B.1 ≤ i → a i = 0) : f_Model_standing (zI f) D = some (zI (sum8 a), D) := by
  unfold f_Model_standing lp_Model_standing_4
  obtain ⟨m, hm⟩ := FU_eq (n := B.1 + 1) (by omega)
  rw [hm, show m + (B.1 + 1) = (m + 1) + B.1 by omega]
  obtain ⟨E, -, e⟩ := itr_go (fun _ _ _ _ => none) s_Model_standing_4 (fun i (E : Unit) k => k (zI f) (zI (sumN a i)) (zI i) D) B.1 (fun i E => True)
    (fun i hi E _ => ⟨(), trivial, fun k => by
      unfold s_Model_standing_4
      rw [hb.1, if_neg (by rw [zI_le (by omega) (by omega) (by omega) (by omega)]; omega), zI_0p, m_v hf (by omega), bnd_s, ha i (by omega), zI_add, zI_s]
      rfl⟩)
    () trivial
  refine (e (m + 1)).trans ?_
  rw [itr_s]
  unfold s_Model_standing_4
  rw [hb.1, if_pos ((zI_le (by omega) (by omega) (by omega) (by omega)).mpr (by omega)), sumN_n hz h8]
/-- goesBy: the hour is written down, then it goes -/
theorem m_goesBy {D : Dt} {x : StrT} {op : Nat} (h : MStr D x) (ho : StrOk x) (hn : 0 < x.1.1) (hh : x.2.2.1 < 60) (hop : op = 0 ∨ op = 1) :
    ∃ D1, f_Model_goesBy (zI op) D = some ((), D1) ∧ MStr D1 (hourStr x op) ∧ (∀ j, j < x.1.1 → D1 191 j = zI (gotZ x.1 op x.2.1 j)) ∧ D1 176 25 = zI ((hrW x.1 op x.2.1).2.2.2.2 - x.2.1.2.2.2.2) ∧ (∀ j, j ≠ 25 → j ≠ 26 → D1 176 j = D 176 j) ∧ ∀ k, k ≠ 176 → k ≠ 189 → k ≠ 190 → k ≠ 191 → k ≠ 192 → D1 k = D k := by
  obtain ⟨hb, hw, hc, hp⟩ := h
  obtain ⟨o1, o2, o3, ⟨o4, o5, o6⟩, o7, o8⟩ := ho
  unfold f_Model_goesBy lp_Model_goesBy_10
  have e27 : (27 : Int32) * zI (x.2.2.1 : Int) = zI ((27 * x.2.2.1 : Nat) : Int) := by
    rw [show (27 : Int32) = zI 27 from rfl, zI_mul]; congr 1
  rw [hc, e27]
  obtain ⟨m, hm⟩ := FU_eq (n := 27) (by omega)
  rw [hm, show m + 27 = (m + 1) + 26 by omega]
  obtain ⟨E, ⟨c1, c2, c3⟩, e⟩ := itr_go (fun _ _ _ _ => none) s_Model_goesBy_10 (fun i E k => k (zI op) (zI ((27 * x.2.2.1 : Nat) : Int)) (zI i) E) 26 (fun i (E : Dt) => CpR D E 192 (27 * x.2.2.1) 189 0 26 i)
    (fun i hi E g => by
      refine ⟨wr E 192 (27 * x.2.2.1 + i) (D 189 i), g.step hi (by rw [Nat.zero_add]), fun k => ?_⟩
      unfold s_Model_goesBy_10
      rw [if_neg (by rw [show (26 : Int32) = zI 26 from rfl, zI_le (by omega) (by omega) (by omega) (by omega)]; omega), m_v0 (by omega), bnd_s, zI_add, show (((27 * x.2.2.1 : Nat) : Int) + (i : Int)) = ((27 * x.2.2.1 + i : Nat) : Int) from rfl, if_pos (inb_t (by omega) (by omega) (by omega)), nm_s, zI_nat (by omega), zI_s, g.2.2 189 (by omega)])
    D CpR.init
  have e := e (m + 1)
  refine (show ∃ D1, itr (fun _ _ _ _ => none) s_Model_goesBy_10 (m + 1 + 26) (zI op) (zI ((27 * x.2.2.1 : Nat) : Int)) (zI ((0 : Nat) : Int)) D = some ((), D1) ∧ _ from ?_)
  rw [e, itr_s]
  have tail : s_Model_goesBy_10 (itr (fun _ _ _ _ => none) s_Model_goesBy_10 m) (zI op) (zI ((27 * x.2.2.1 : Nat) : Int)) (zI ((26 : Nat) : Int)) E = b_Model_goesBy_53 (zI op) (zI op) (zI ((27 * x.2.2.1 + 26 : Nat) : Int)) 192 E := by
    unfold s_Model_goesBy_10
    rw [if_pos (by decide), show (26 : Int32) = zI 26 from rfl, zI_add]
    rcases hop with rfl | rfl
    · rw [if_pos (by rfl)]; rfl
    · rw [if_neg (by decide)]; rfl
  rw [tail]
  unfold b_Model_goesBy_53
  rw [if_pos (inb_t (by omega) (by omega) (by omega)), nm_s, zI_nat (by omega)]
  generalize hF : wr E 192 (27 * x.2.2.1 + 26) (zI op) = F
  have Fk : ∀ k, k ≠ 192 → F k = D k := fun k a => by rw [← hF, wr_ne a, c3 k a]
  have F192 : F 192 = upd (E 192) (27 * x.2.2.1 + 26) (zI op) := by rw [← hF, wr_at]
  have hbF : MBed F x.1 := hb.congr (by rw [Fk 176 (by omega)]) (by rw [Fk 176 (by omega)]) (by rw [Fk 176 (by omega)]) (fun k a b => Fk k (by omega))
  have hwF : PRep (F 189) (26 * 0) x.2.1 := by rw [Fk 189 (by omega)]; exact hw
  obtain ⟨K, k1, k2, k3, k4, k5, k6, k7⟩ := m_goes (f := 0) (by omega) hbF o1 hn hwF o4 (by omega) hop
  rw [show (0 : Int32) = zI ((0 : Nat) : Int) from rfl, k1, bnd_s, nm_s, k6 26 (by omega), Fk 176 (by omega), hc, zI_s]
  have K192 : K 192 = F 192 := k7 192 (by omega) (by omega) (by omega) (by omega)
  refine ⟨_, rfl, ⟨?_, ?_, by rw [wr_at, upd_at]; rfl, fun t ht => ?_⟩, fun j hj => ?_, ?_, fun j a b => ?_, fun k a b c d e => ?_⟩
  · exact hbF.congr (by rw [wr_at, upd_ne (by omega), k6 8 (by omega)]) (by rw [wr_at, upd_ne (by omega), k6 9 (by omega)]) (by rw [wr_at, upd_ne (by omega), k6 10 (by omega)]) (fun k a b => by rw [wr_ne (by omega), k7 k (by omega) (by omega) (by omega) (by omega)])
  · rw [wr_ne (by omega)]; exact k2
  · have ht : t < x.2.2.1 + 1 := ht
    rw [wr_ne (by omega), K192, F192]
    show PRep _ (27 * t) (fu x.2.2.2.1 x.2.2.1 x.2.1 t) ∧ _ = zI (fu x.2.2.2.2 x.2.2.1 (op : Int) t)
    by_cases z : t = x.2.2.1
    · subst z
      rw [fu_at, fu_at, upd_at]
      refine ⟨hw.mv (fun j hj => ?_), rfl⟩
      rw [upd_ne (by omega), c1 j hj]
    · rw [fu_ne z, fu_ne z, upd_ne (by omega), c2 _ (by omega)]
      obtain ⟨p1, p2⟩ := hp t (by omega)
      refine ⟨p1.mv (fun j hj => ?_), p2⟩
      rw [upd_ne (by omega), c2 _ (by omega)]
  · rw [wr_ne (by omega)]; exact (k3 j hj).2
  · rw [wr_at, upd_ne (by omega)]; exact k4
  · rw [wr_at, upd_ne b, k6 j a, Fk 176 (by omega)]
  · rw [wr_ne a, k7 k a b c d, Fk k e]
theorem q_hour {D : Dt} {S : SstT} (h : MRep D S) (ho : Ok S) (v1 : Int32) : MDo (f_Model_hour v1 D) D (sp_hour v1 S).1 (sp_hour v1 S).2 := by
  have h6 := ho.2.1.2.2.1
  unfold f_Model_hour sp_hour
  simp only [m_in, bnd_s, zo_if, tl, m_n0 h ho, h.2.2.2.1.2.2.1]
  by_cases c1 : wi v1 0 1 = true
  · by_cases c2 : 0 < S.2.2.2.1.1.1
    · by_cases c3 : S.2.2.2.1.2.2.1 < 60
      · obtain ⟨op, hop, -, rfl⟩ := wi_nat c1 (by omega)
        obtain ⟨E, e1, e2, -, e4, e5, e6⟩ := m_goesBy h.2.2.2.1 ho.2.1 c2 c3 (show op = 0 ∨ op = 1 by omega)
        simp only [c1, c2, c3, if_true, not_true_eq_false, if_false, zI_toInt (show -2147483648 ≤ (op : Int) by omega) (show (op : Int) < 2147483648 by omega), Int.toNat_natCast]
        rw [if_neg (by rw [show (60 : Int32) = zI 60 from rfl, zI_eq (by omega) (by omega) (by omega) (by omega)]; omega)]
        have hop2 : (if zI (op : Int) = 1 then b_Model_hour_44 1 D else b_Model_hour_44 0 D) = b_Model_hour_44 (zI op) D := by
          rcases (show op = 0 ∨ op = 1 by omega) with rfl | rfl
          · rw [if_neg (by decide)]; rfl
          · rw [if_pos (by rfl)]; rfl
        rw [hop2]
        unfold b_Model_hour_44
        have hE : MRep E (sStr S (hourStr S.2.2.2.1 op)) := h.setStr e2 (e5 0 (by omega) (by omega)) (e5 2 (by omega) (by omega)) (fun k hm h192 hk => e6 k (fun e => by subst e; revert hm; decide) (by omega) (fun e => by subst e; revert hm; decide) (fun e => by subst e; revert hm; decide) h192)
        have hok := hourStr_ok ho.2.1 c2 c3 (show op = 0 ∨ op = 1 by omega)
        rw [e1, bnd_s, show (0 : Int32) = zI ((0 : Nat) : Int) from rfl, m_standing (f := 0) (by omega) e2.1 hok.1.1 (fun j hj => (e2.2.1.2.2 j hj).1) (fun i hi => (hok.2.2.2.1.1.2.1 i hi).1), bnd_s, e4]
        exact (m_tells hE _ _).bind (fun k hk => e6 k (by omega) (by omega) (by omega) (by omega) (by omega))
      · simp only [c1, c2, c3, if_true, if_false, not_true_eq_false]
        rw [if_pos (by rw [show (60 : Int32) = zI 60 from rfl, zI_eq (by omega) (by omega) (by omega) (by omega)]; omega)]
        exact MDo.same h _
    · simp only [c1, c2, if_true, if_false, not_false_eq_true]
      exact MDo.same h _
  · simp only [c1, if_false, Bool.false_eq_true]
    exact MDo.same h _
theorem q_undo {D : Dt} {S : SstT} (h : MRep D S) (ho : Ok S) (v1 : Int32) : MDo (f_Model_undo v1 D) D (sp_undo v1 S).1 (sp_undo v1 S).2 := by
  have h6 := ho.2.1.2.2.1
  obtain ⟨hb, hw, hc, hp⟩ := h.2.2.2.1
  unfold f_Model_undo sp_undo
  rw [hc, m_in, bnd_s, zo_if, zI_toInt (by omega) (by omega)]
  simp only [tl]
  by_cases c1 : wi v1 0 S.2.2.2.1.2.2.1 = true
  · obtain ⟨n, hn, -, rfl⟩ := wi_nat c1 (by omega)
    simp only [c1, if_true, zI_toInt (show -2147483648 ≤ (n : Int) by omega) (show (n : Int) < 2147483648 by omega), Int.toNat_natCast]
    rw [hc, zI_sub]
    unfold lp_Model_undo_23 backStr
    obtain ⟨m, hm⟩ := FU_eq (n := 27) (by omega)
    by_cases c2 : n < S.2.2.2.1.2.2.1
    · rw [if_pos c2, hm, show m + 27 = (m + 1) + 26 by omega]
      obtain ⟨E, ⟨g1, g2, g3⟩, e⟩ := itr_go (fun _ _ _ _ => none) s_Model_undo_23 (fun i E k => k (zI n) (zI (S.2.2.2.1.2.2.1 - n)) (zI i) E) 26 (fun i (E : Dt) => CpR D E 189 0 192 (27 * n) 26 i)
        (fun i hi E g => by
          refine ⟨wr E 189 (0 + i) (D 192 (27 * n + i)), g.step hi rfl, fun k => ?_⟩
          have e27 : (27 : Int32) * zI (n : Int) + zI (i : Int) = zI ((27 * n + i : Nat) : Int) := by
            rw [show (27 : Int32) = zI 27 from rfl, zI_mul, zI_add]; congr 1
          unfold s_Model_undo_23
          rw [if_neg (by rw [show (26 : Int32) = zI 26 from rfl, zI_le (by omega) (by omega) (by omega) (by omega)]; omega), if_neg (by rw [show (0 : Int32) = zI 0 from rfl, zI_le (by omega) (by omega) (by omega) (by omega)]; omega), e27, if_pos (inb_t (by omega) (by omega) (by omega)), zI_nat (by omega), m_place0 (by omega), bnd_s, zI_s, g.2.2 192 (by omega), Nat.zero_add])
        D CpR.init
      have e := e (m + 1)
      refine (show MDo (itr (fun _ _ _ _ => none) s_Model_undo_23 (m + 1 + 26) (zI n) (zI (S.2.2.2.1.2.2.1 - n)) (zI ((0 : Nat) : Int)) D) D _ _ from ?_)
      rw [e, itr_s]
      unfold s_Model_undo_23 b_Model_undo_56
      rw [if_pos (by decide), nm_s]
      refine ⟨_, rfl, h.setStr ⟨hb.congr (by rw [wr_at, upd_ne (by omega), g3 176 (by omega)]) (by rw [wr_at, upd_ne (by omega), g3 176 (by omega)]) (by rw [wr_at, upd_ne (by omega), g3 176 (by omega)]) (fun k a b => by rw [wr_ne (by omega), g3 k (by omega)]), ?_, by rw [wr_at, upd_at], fun t ht => ?_⟩ (by rw [wr_at, upd_ne (by omega), g3 176 (by omega)]) (by rw [wr_at, upd_ne (by omega), g3 176 (by omega)]) (fun k hm h192 hk => by rw [wr_ne (fun e => by subst e; revert hm; decide), g3 k (by omega)]), fun k hk => by rw [wr_ne (by omega), g3 k (by omega)]⟩
      · rw [wr_ne (by omega)]
        exact (hp n c2).1.mv (fun j hj => g1 j hj)
      · rw [wr_ne (by omega), g3 192 (by omega)]
        have ht : t < n := ht
        exact hp t (by omega)
    · rw [if_neg c2, hm, show m + 27 = (m + 26) + 1 by omega, itr_s]
      unfold s_Model_undo_23 b_Model_undo_56
      rw [if_neg (by decide), if_pos (by rw [show (0 : Int32) = zI 0 from rfl, zI_le (by omega) (by omega) (by omega) (by omega)]; omega), nm_s, sStr_self]
      have hnn : (n : Int) = S.2.2.2.1.2.2.1 := by omega
      refine ⟨_, rfl, h.congr (fun j hj => ?_) (fun k hk => wr_ne (fun e => by subst e; revert hk; decide)), fun k hk => wr_ne (by omega)⟩
      rw [wr_at]
      by_cases z : j = 26
      · subst z; rw [upd_at, hc, hnn]
      · rw [upd_ne z]
  · simp only [c1, if_false, Bool.false_eq_true]
    exact MDo.same h _
theorem q_water {D : Dt} {S : SstT} (h : MRep D S) : MDo (f_Model_water D) D (sp_water S).1 (sp_water S).2 := by
  obtain ⟨p1, p2, p3⟩ := h.2.2.2.1.2.1.p0
  unfold f_Model_water sp_water
  rw [show (25 : Int32) = zI ((25 : Nat) : Int) from rfl, zI_24, m_v0 (by omega), bnd_s, m_v0 (by omega), bnd_s, p1, p2]
  exact (m_tells h _ _).ret
