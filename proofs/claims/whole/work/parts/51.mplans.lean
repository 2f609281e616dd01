/-! harm, wet, stands, when, cut, boat, trade, marks, tuesday: the model -/
theorem ge0_0 : (0 : Int32) ≤ 0 := by decide
theorem q_harm {D : Dt} {S : SstT} (h : MRep D S) (ho : Ok S) (v1 : Int32) : MDo (f_Model_harm v1 D) D (sp_harm v1 S).1 (sp_harm v1 S).2 := by
  obtain ⟨n1, n2, n3⟩ := m_needTuesday h ho 1 v1
  unfold f_Model_harm sp_harm
  by_cases c : wi v1 0 255 = true
  · by_cases d : 0 < S.2.2.2.1.1.1
    · obtain ⟨E, e1, ⟨e2, e3⟩, e4, e5⟩ := n3 (by decide) c d
      rw [e1, bnd_s, if_pos ge0_0, if_pos c, if_pos d, e2.2.1, e3.1]
      exact (m_tells e4 _ _).bind e5
    · rw [n2 (by decide) c d, bnd_s, if_neg (by decide), if_pos c, if_neg d]
      exact MDo.same h _
  · rw [n1 (Or.inr c), bnd_s, if_neg (by decide), if_neg c]
    exact MDo.same h _
theorem q_wet {D : Dt} {S : SstT} (h : MRep D S) (ho : Ok S) (v1 : Int32) : MDo (f_Model_wet v1 D) D (sp_wet v1 S).1 (sp_wet v1 S).2 := by
  obtain ⟨n1, n2, n3⟩ := m_needTuesday h ho 1 v1
  unfold f_Model_wet sp_wet
  by_cases c : wi v1 0 255 = true
  · by_cases d : 0 < S.2.2.2.1.1.1
    · obtain ⟨E, e1, ⟨e2, e3⟩, e4, e5⟩ := n3 (by decide) c d
      rw [e1, bnd_s, if_pos ge0_0, if_pos c, if_pos d, e2.2.2.1, m_bits (tdB_lt ho.2.1.1.1 _ _ _), bnd_s, e2.2.2.1]
      exact (m_tells e4 _ _).bind e5
    · rw [n2 (by decide) c d, bnd_s, if_neg (by decide), if_pos c, if_neg d]
      exact MDo.same h _
  · rw [n1 (Or.inr c), bnd_s, if_neg (by decide), if_neg c]
    exact MDo.same h _
theorem q_stands {D : Dt} {S : SstT} (h : MRep D S) (ho : Ok S) (v1 : Int32) : MDo (f_Model_stands v1 D) D (sp_stands v1 S).1 (sp_stands v1 S).2 := by
  obtain ⟨n1, n2, n3⟩ := m_needTuesday h ho 1 v1
  unfold f_Model_stands sp_stands
  by_cases c : wi v1 0 255 = true
  · by_cases d : 0 < S.2.2.2.1.1.1
    · obtain ⟨E, e1, ⟨e2, e3⟩, e4, e5⟩ := n3 (by decide) c d
      rw [e1, bnd_s, if_pos ge0_0, if_pos c, if_pos d, e3.2.1, e3.2.2]
      exact (m_tells e4 _ _).bind e5
    · rw [n2 (by decide) c d, bnd_s, if_neg (by decide), if_pos c, if_neg d]
      exact MDo.same h _
  · rw [n1 (Or.inr c), bnd_s, if_neg (by decide), if_neg c]
    exact MDo.same h _
theorem q_when {D : Dt} {S : SstT} (h : MRep D S) (ho : Ok S) (v1 v2 : Int32) : MDo (f_Model_when v1 v2 D) D (sp_when v1 v2 S).1 (sp_when v1 v2 S).2 := by
  have h8 := ho.2.1.1.1
  unfold f_Model_when sp_when
  rw [m_isHouse h ho, bnd_s]
  by_cases d : hsB S v2 = true
  · obtain ⟨n1, n2, n3⟩ := m_needTuesday h ho 1 v1
    rw [if_pos d]
    by_cases c : wi v1 0 255 = true
    · obtain ⟨i, hi, rfl, hi2⟩ := hsB_nat d
      obtain ⟨E, e1, ⟨e2, e3⟩, e4, e5⟩ := n3 (by decide) c (by omega)
      rw [e1, bnd_s, if_pos ge0_0, if_pos (And.intro c d), if_pos (inb_t (by omega) (by omega) (by omega)), zI_nat (by omega), (e2.2.2.2.1 i hi).2, hi2]
      exact ⟨E, rfl, e4, e5⟩
    · rw [n1 (Or.inr c), bnd_s, if_neg (by decide), if_neg (fun q => c q.1)]
      exact MDo.same h _
  · rw [if_neg d, (m_needTuesday h ho 0 v1).1 (Or.inl rfl), bnd_s, if_neg (by decide), if_neg (fun q => d q.2)]
    exact MDo.same h _
theorem q_cut {D : Dt} {S : SstT} (h : MRep D S) (ho : Ok S) (v1 v2 : Int32) : MDo (f_Model_cut v1 v2 D) D (sp_cut v1 v2 S).1 (sp_cut v1 v2 S).2 := by
  unfold f_Model_cut sp_cut
  rw [m_in, bnd_s]
  simp only [tl]
  by_cases d0 : wi v2 0 7 = true
  · obtain ⟨n1, n2, n3⟩ := m_needTuesday h ho 1 v1
    rw [if_pos d0]
    by_cases c : wi v1 0 255 = true
    · by_cases d : 0 < S.2.2.2.1.1.1
      · obtain ⟨t, ht, -, rfl⟩ := wi_nat d0 (by omega)
        obtain ⟨E, e1, ⟨e2, e3⟩, e4, e5⟩ := n3 (by decide) c d
        have hct := e2.2.2.2.2 t (by omega)
        rw [e1, bnd_s, if_pos ge0_0, if_pos (And.intro d0 c), if_pos d, if_pos (inb_t (by omega) (by omega) (by omega)), zI_nat (by omega), hct, m_bits (cutN_lt _), bnd_s, if_pos (inb_t (by omega) (by omega) (by omega)), hct, zI_toInt (show -2147483648 ≤ (t : Int) by omega) (show (t : Int) < 2147483648 by omega), Int.toNat_natCast]
        exact (m_tells e4 _ _).bind e5
      · rw [n2 (by decide) c d, bnd_s, if_neg (by decide), if_pos (And.intro d0 c), if_neg d]
        exact MDo.same h _
    · rw [n1 (Or.inr c), bnd_s, if_neg (by decide), if_neg (fun q => c q.2)]
      exact MDo.same h _
  · rw [if_neg d0, (m_needTuesday h ho 0 v1).1 (Or.inl rfl), bnd_s, if_neg (by decide), if_neg (fun q => d0 q.1)]
    exact MDo.same h _
theorem m_isWhole {D : Dt} {x i j : Nat} (hx : x < 256) (hi : i < 8) (hj : j < 8) : f_Model_isWhole (zI x) (zI i) (zI j) D = some (if runB x (min i j) (max i j + 1 - min i j) = true then 1 else 0, D) := by
  unfold f_Model_isWhole lp_Model_isWhole_9
  rw [m_lesser (by omega) (by omega) (by omega) (by omega), bnd_s, show min (i : Int) (j : Int) = ((min i j + 0 : Nat) : Int) by omega]
  have hmx : max (i : Int) (j : Int) = ((max i j : Nat) : Int) := by omega
  obtain ⟨m, hm⟩ := FU_eq (n := (max i j + 1 - min i j) + 1) (by omega)
  rw [hm, show m + ((max i j + 1 - min i j) + 1) = (m + 1) + (max i j + 1 - min i j) by omega]
  obtain ⟨E, -, e⟩ := itr_go (fun _ _ _ _ _ _ => none) s_Model_isWhole_9 (fun n (E : Unit) k => k (zI x) (zI i) (zI j) (if runB x (min i j) n = true then 1 else 0) (zI ((min i j + n : Nat) : Int)) D) (max i j + 1 - min i j) (fun i E => True)
    (fun n hn E _ => ⟨(), trivial, fun k => by
      unfold s_Model_isWhole_9 b_Model_isWhole_36 b_Model_isWhole_37
      rw [m_greater (by omega) (by omega) (by omega) (by omega), bnd_s, if_neg (by rw [zI_lt (by omega) (by omega) (by omega) (by omega)]; omega), m_has hx (by omega), bnd_s, zo_if, zo_if, zI_s, show runB x (min i j) (n + 1) = (runB x (min i j) n && x.testBit (min i j + n)) from rfl]
      by_cases c : runB x (min i j) n = true
      · by_cases d : x.testBit (min i j + n) = true
        · rw [if_pos c, if_pos d, if_pos (by rw [c, d]; rfl)]; rfl
        · rw [if_pos c, if_neg d, if_neg (by rw [c]; simpa using d)]; rfl
      · rw [if_neg c, if_neg (by simp [c])]; rfl⟩)
    () trivial
  refine (e (m + 1)).trans ?_
  rw [itr_s]
  unfold s_Model_isWhole_9
  rw [m_greater (by omega) (by omega) (by omega) (by omega), bnd_s, if_pos (by rw [zI_lt (by omega) (by omega) (by omega) (by omega)]; omega)]
  exact zo_ok D
theorem q_boat {D : Dt} {S : SstT} (h : MRep D S) (ho : Ok S) (v1 v2 v3 v4 : Int32) : MDo (f_Model_boat v1 v2 v3 v4 D) D (sp_boat v1 v2 v3 v4 S).1 (sp_boat v1 v2 v3 v4 S).2 := by
  have h8 := ho.2.1.1.1
  have no : MDo (b_Model_boat_32 v1 v2 v3 v4 D) D (-1) S := by
    unfold b_Model_boat_32 b_Model_boat_33
    rw [(m_needTuesday h ho 0 v1).1 (Or.inl rfl), bnd_s, if_neg (by decide)]
    exact MDo.same h _
  unfold f_Model_boat sp_boat
  rw [m_in, bnd_s, zo_if, m_isHouse h ho, bnd_s, zo_if, m_isHouse h ho, bnd_s, zo_if]
  simp only [tl]
  by_cases c0 : wi v2 0 7 = true
  · rw [if_pos c0]
    by_cases d : hsB S v3 = true
    · rw [if_pos d]
      by_cases d2 : hsB S v4 = true
      · rw [if_pos d2]
        unfold b_Model_boat_33
        obtain ⟨n1, n2, n3⟩ := m_needTuesday h ho 1 v1
        by_cases c : wi v1 0 255 = true
        · obtain ⟨t, ht, -, rfl⟩ := wi_nat c0 (by omega)
          obtain ⟨i, hi, rfl, hi2⟩ := hsB_nat d
          obtain ⟨j, hj, rfl, hj2⟩ := hsB_nat d2
          obtain ⟨E, e1, ⟨e2, e3⟩, e4, e5⟩ := n3 (by decide) c (by omega)
          have hct := e2.2.2.2.2 t (by omega)
          rw [e1, bnd_s, if_pos ge0_0, if_pos (inb_t (by omega) (by omega) (by omega)), zI_nat (by omega), hct, m_isWhole (cutN_lt _) (by omega) (by omega), bnd_s, zo_if, if_pos (And.intro c (And.intro c0 (And.intro d d2))), hi2, hj2, zI_toInt (show -2147483648 ≤ (t : Int) by omega) (show (t : Int) < 2147483648 by omega), Int.toNat_natCast]
          refine ⟨E, ?_, e4, e5⟩
          by_cases g : runB (cutN (tdW S.2.2.2.1.1 v1.toInt.toNat S.2.2.2.1.2.1 (t + 1)) 8) (min i j) (max i j + 1 - min i j) = true
          · rw [if_pos g]; simp only [cutS, tW, g, if_true]
          · rw [if_neg g]; simp only [cutS, tW, g, if_false, Bool.false_eq_true]
        · rw [n1 (Or.inr c), bnd_s, if_neg (by decide), if_neg (fun q => c q.1)]
          exact MDo.same h _
      · rw [if_neg d2, if_neg (fun q => d2 q.2.2.2)]; exact no
    · rw [if_neg d, if_neg (fun q => d q.2.2.1)]; exact no
  · rw [if_neg c0, if_neg (fun q => c0 q.2.1)]; exact no
/-! pairs, as the model counts them -/
def ipN (x i : Nat) : Nat → Nat
  | 0 => 0
  | d + 1 => ipN x i d + (if runB x i (d + 2) = true then 1 else 0)
def mpN (x n : Nat) : Nat → Nat
  | 0 => 0
  | i + 1 => mpN x n i + ipN x i (n - 1 - i)
theorem pr_d : ∀ n : Nat, n ≤ 8 → ∀ x : Nat, x < 256 → mpN x n n = (prN x n).1 := by decide +kernel
theorem m_trade49 {D : Dt} {x n i : Nat} {h : Nat} (hx : x < 256) (h10 : D 176 10 = zI n) (hn : n ≤ 8) (hi : i < n) (hh : h < 8) (hc : D 201 h = zI x) (k21 : Int32 → Int32 → Int32 → Dt → Option (Int32 × Dt)) (k34 : Int32 → Int32 → Int32 → Int32 → Int32 → Dt → Option (Int32 × Dt)) (v3 v4 : Int32) (v6 : Nat) : lp_Model_trade_49 k21 k34 FU v3 v4 (zI h) (zI v6) (zI i) (zI ((i + 1 : Nat) : Int)) D = k34 v3 v4 (zI h) (zI ((v6 + ipN x i (n - 1 - i) : Nat) : Int)) (zI ((i + 1 : Nat) : Int)) D := by
  unfold lp_Model_trade_49
  obtain ⟨m, hm⟩ := FU_eq (n := (n - 1 - i) + 1) (by omega)
  rw [hm, show m + ((n - 1 - i) + 1) = (m + 1) + (n - 1 - i) by omega]
  obtain ⟨E, -, e⟩ := itr_go (fun _ _ _ _ _ _ _ => none) (s_Model_trade_49 k21 k34) (fun d (E : Unit) k => k v3 v4 (zI h) (zI ((v6 + ipN x i d : Nat) : Int)) (zI i) (zI ((i + 1 + d : Nat) : Int)) D) (n - 1 - i) (fun i E => True)
    (fun d hd E _ => ⟨(), trivial, fun k => by
      unfold s_Model_trade_49 b_Model_trade_82
      rw [h10, if_neg (by rw [zI_le (by omega) (by omega) (by omega) (by omega)]; omega), if_pos (inb_t (by omega) (by omega) (by omega)), zI_nat (by omega), hc, m_isWhole hx (by omega) (by omega), bnd_s, zo_if, zI_s, show min i (i + 1 + d) = i by omega, show max i (i + 1 + d) + 1 - i = d + 2 by omega, show (0 : Int32) = zI 0 from rfl, show (1 : Int32) = zI 1 from rfl, zI_add, zI_add, show ipN x i (d + 1) = ipN x i d + (if runB x i (d + 2) = true then 1 else 0) from rfl]
      by_cases c : runB x i (d + 2) = true
      · rw [if_pos c, if_pos c]; rfl
      · rw [if_neg c, if_neg c]
        rw [Nat.add_zero, Int.add_zero]; rfl⟩)
    () trivial
  refine (e (m + 1)).trans ?_
  rw [itr_s]
  unfold s_Model_trade_49
  rw [h10, if_pos (by rw [zI_le (by omega) (by omega) (by omega) (by omega)]; omega), zI_s]
theorem m_trade34 {D : Dt} {x n : Nat} {h : Nat} (hx : x < 256) (h10 : D 176 10 = zI n) (hn : n ≤ 8) (hh : h < 8) (hc : D 201 h = zI x) (k21 : Int32 → Int32 → Int32 → Dt → Option (Int32 × Dt)) (v3 v4 : Int32) : lp_Model_trade_34 k21 FU v3 v4 (zI h) 0 0 D = (if zI ((prN x n).1 : Nat) ≤ v4 then b_Model_trade_110 k21 v4 (zI h) (zI ((prN x n).1 : Nat)) v3 D else b_Model_trade_110 k21 v4 (zI h) (zI ((prN x n).1 : Nat)) (zI h) D) := by
  unfold lp_Model_trade_34
  obtain ⟨m, hm⟩ := FU_eq (n := n + 1) (by omega)
  rw [hm, show m + (n + 1) = (m + 1) + n by omega]
  obtain ⟨E, -, e⟩ := itr_go (fun _ _ _ _ _ _ => none) (s_Model_trade_34 k21) (fun i (E : Unit) k => k v3 v4 (zI h) (zI (mpN x n i : Nat)) (zI i) D) n (fun i E => True)
    (fun i hi E _ => ⟨(), trivial, fun k => by
      unfold s_Model_trade_34
      rw [h10, if_neg (by rw [zI_le (by omega) (by omega) (by omega) (by omega)]; omega), zI_s, m_trade49 hx h10 hn hi hh hc]
      rfl⟩)
    () trivial
  refine (e (m + 1)).trans ?_
  rw [itr_s]
  unfold s_Model_trade_34
  rw [h10, if_pos ((zI_le (by omega) (by omega) (by omega) (by omega)).mpr (by omega)), pr_d n hn x hx]
def trM (f : Nat → Nat) (i : Nat) : Nat × Int := if i = 0 then (0, -1) else ((trB f (i - 1)).1, ((trB f (i - 1)).2 : Nat))
theorem trM_s {f : Nat → Nat} (i : Nat) : trM f (i + 1) = if (trM f i).2 < (f i : Nat) then (i, (f i : Int)) else trM f i := by
  cases i with
  | zero => show ((0 : Nat), ((f 0 : Nat) : Int)) = if (-1 : Int) < ((f 0 : Nat) : Int) then _ else _; rw [if_pos (by omega)]
  | succ i =>
    show ((trB f (i + 1)).1, (((trB f (i + 1)).2 : Nat) : Int)) = if (((trB f i).2 : Nat) : Int) < ((f (i + 1) : Nat) : Int) then (i + 1, ((f (i + 1) : Nat) : Int)) else ((trB f i).1, (((trB f i).2 : Nat) : Int))
    by_cases c : (trB f i).2 < f (i + 1)
    · rw [if_pos (by omega), show trB f (i + 1) = (i + 1, f (i + 1)) from if_pos c]
    · rw [if_neg (by omega), show trB f (i + 1) = trB f i from if_neg c]
theorem trM_ok {f : Nat → Nat} (hf : ∀ i, f i ≤ 64) (i : Nat) : -1 ≤ (trM f i).2 ∧ (trM f i).2 ≤ 64 := by
  unfold trM
  by_cases c : i = 0
  · rw [if_pos c]; show -1 ≤ (-1 : Int) ∧ (-1 : Int) ≤ 64; omega
  · rw [if_neg c]; have := trB_ok hf (i - 1); show -1 ≤ (((trB f (i - 1)).2 : Nat) : Int) ∧ (((trB f (i - 1)).2 : Nat) : Int) ≤ 64; omega
theorem q_trade {D : Dt} {S : SstT} (h : MRep D S) (ho : Ok S) (v1 : Int32) : MDo (f_Model_trade v1 D) D (sp_trade v1 S).1 (sp_trade v1 S).2 := by
  have h8 := ho.2.1.1.1
  obtain ⟨n1, n2, n3⟩ := m_needTuesday h ho 1 v1
  unfold f_Model_trade sp_trade
  by_cases c : wi v1 0 255 = true
  · by_cases d : 0 < S.2.2.2.1.1.1
    · obtain ⟨E, e1, ⟨e2, e3⟩, e4, e5⟩ := n3 (by decide) c d
      rw [e1, bnd_s, if_pos ge0_0, if_pos c, if_pos d]
      generalize v1.toInt.toNat = p at *
      unfold lp_Model_trade_21
      obtain ⟨m, hm⟩ := FU_eq (n := 9) (by omega)
      rw [hm, show m + 9 = (m + 1) + 8 by omega]
      obtain ⟨U, -, e⟩ := itr_go (fun _ _ _ _ => none) s_Model_trade_21 (fun i (U : Unit) k => k (zI ((trM (prS S p) i).1 : Nat)) (zI (trM (prS S p) i).2) (zI i) E) 8 (fun i U => True)
        (fun i hi U _ => ⟨(), trivial, fun k => by
          have b1 := trM_ok (prS_ok h8 p) i
          have b2 : (prN (cutS S p i) S.2.2.2.1.1.1).1 ≤ 64 := prS_ok h8 p i
          unfold s_Model_trade_21
          rw [if_neg (by rw [show (8 : Int32) = zI 8 from rfl, zI_le (by omega) (by omega) (by omega) (by omega)]; omega), m_trade34 (x := cutS S p i) (n := S.2.2.2.1.1.1) (cutN_lt _) e4.2.2.2.1.1.1 h8 hi (e2.2.2.2.2 i hi)]
          unfold b_Model_trade_110
          rw [m_greater (by omega) (by omega) (by omega) (by omega), bnd_s, bnd_s, zI_s, if_cg (zI_le (by omega) (by omega) (by omega) (by omega)), trM_s]
          by_cases c : (trM (prS S p) i).2 < ((prS S p i : Nat) : Int)
          · rw [if_neg (by show ¬ ((prS S p i : Nat) : Int) ≤ _; omega), if_pos c, show max (trM (prS S p) i).2 (((prN (cutS S p i) S.2.2.2.1.1.1).1 : Nat) : Int) = ((prS S p i : Nat) : Int) from Int.max_eq_right (by show _ ≤ ((prS S p i : Nat) : Int); omega)]
          · rw [if_pos (by show ((prS S p i : Nat) : Int) ≤ _; omega), if_neg c, show max (trM (prS S p) i).2 (((prN (cutS S p i) S.2.2.2.1.1.1).1 : Nat) : Int) = (trM (prS S p) i).2 from Int.max_eq_left (by show ((prS S p i : Nat) : Int) ≤ _; omega)]⟩)
        () trivial
      have e := e (m + 1)
      refine (show MDo (itr (fun _ _ _ _ => none) s_Model_trade_21 (m + 1 + 8) (zI ((trM (prS S p) 0).1 : Nat)) (zI (trM (prS S p) 0).2) (zI ((0 : Nat) : Int)) E) D _ _ from ?_)
      rw [e, itr_s]
      unfold s_Model_trade_21
      rw [if_pos (by decide)]
      exact (m_tells e4 _ _).bind e5
    · rw [n2 (by decide) c d, bnd_s, if_neg (by decide), if_pos c, if_neg d]
      exact MDo.same h _
  · rw [n1 (Or.inr c), bnd_s, if_neg (by decide), if_neg c]
    exact MDo.same h _
