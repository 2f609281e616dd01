/-! when, cut, boat, trade, marks, tuesday: the class -/
def tdN (B : BedT) (p : Nat) (W : WatT) : Nat → Nat → Int
  | 0, _ => -9
  | h + 1, i => if (tdB B p W (h + 1)).testBit i = true ∧ ¬ (tdB B p W h).testBit i = true then (h : Int) else tdN B p W h i
theorem tdB_st {B : BedT} {p : Nat} {W : WatT} {i h : Nat} (c : (tdB B p W h).testBit i = true) : (tdB B p W (h + 1)).testBit i = true := by
  show (tdB B p W h ||| _).testBit i = true
  rw [Nat.testBit_or, c, Bool.true_or]
theorem tdN_no {B : BedT} {p : Nat} {W : WatT} {i : Nat} : ∀ h, ¬ (tdB B p W h).testBit i = true → tdN B p W h i = -9 := by
  intro h
  induction h with
  | zero => intro _; rfl
  | succ h ih =>
    intro c
    show (if (tdB B p W (h + 1)).testBit i = true ∧ ¬ (tdB B p W h).testBit i = true then (h : Int) else tdN B p W h i) = -9
    rw [if_neg (fun q => c q.1)]
    exact ih (fun q => c (tdB_st q))
theorem tdN_st {B : BedT} {p : Nat} {W : WatT} {i h : Nat} (c : (tdB B p W h).testBit i = true) : ∀ k, (tdB B p W (h + k)).testBit i = true ∧ tdN B p W (h + k) i = tdN B p W h i := by
  intro k
  induction k with
  | zero => exact ⟨c, rfl⟩
  | succ k ih =>
    refine ⟨tdB_st ih.1, ?_⟩
    show (if (tdB B p W (h + k + 1)).testBit i = true ∧ ¬ (tdB B p W (h + k)).testBit i = true then ((h + k : Nat) : Int) else tdN B p W (h + k) i) = _
    rw [if_neg (fun q => q.2 ih.1)]
    exact ih.2
def sp_when (v1 v2 : Int32) (S : SstT) : Int32 × SstT := if wi v1 0 255 = true ∧ hsB S v2 = true then (zI (tdN S.2.2.2.1.1 v1.toInt.toNat S.2.2.2.1.2.1 8 v2.toInt.toNat), S) else (-1, S)
theorem c_when {D : Dt} {B : BedT} {p : Nat} {W : WatT} (h8 : B.1 ≤ 8) (ht : TdC D B p W 8) {i : Nat} (hi : i < 8) : ∀ d h m : Nat, h + d = 8 → ¬ (tdB B p W h).testBit i = true → itr (fun _ _ _ => none) s_Root_when_30 (m + d + 1) (zI i) (zI h) D = some (zI (tdN B p W 8 i), D) := by
  intro d
  induction d with
  | zero =>
    intro h m e c
    rw [itr_s]
    unfold s_Root_when_30
    obtain rfl : h = 8 := by omega
    rw [if_pos (by decide), tdN_no 8 c]; rfl
  | succ d ih =>
    intro h m e c
    rw [itr_s]
    have go : ∀ k : Int32 → Int32 → Dt → Option (Int32 × Dt), s_Root_when_30 k (zI i) (zI h) D = if (tdB B p W (h + 1)).testBit i = true then some (zI h, D) else k (zI i) (zI ((h + 1 : Nat) : Int)) D := by
      intro k
      unfold s_Root_when_30
      rw [if_neg (by rw [show (8 : Int32) = zI 8 from rfl, zI_le (by omega) (by omega) (by omega) (by omega)]; omega), zI_s, if_pos (inb_t (by omega) (by omega) (by omega)), zI_nat (by omega), (ht (h + 1) (by omega)).2.2.1, c_hasBit (tdB_lt h8 _ _ _) hi, bnd_s, zo_if]
    rw [go]
    by_cases f : (tdB B p W (h + 1)).testBit i = true
    · rw [if_pos f]
      have := (tdN_st f d).2
      rw [show h + 1 + d = 8 by omega] at this
      rw [this]
      show _ = some (zI (if (tdB B p W (h + 1)).testBit i = true ∧ ¬ (tdB B p W h).testBit i = true then (h : Int) else tdN B p W h i), D)
      rw [if_pos ⟨f, c⟩]
    · rw [if_neg f, show m + (d + 1) = m + d + 1 by omega]
      exact ih (h + 1) m (by omega) f
theorem k_when {D : Dt} {S : SstT} (h : CRep D S) (ho : Ok S) (v1 v2 : Int32) : CDo (f_Root_when v1 v2 D) D (sp_when v1 v2 S).1 (sp_when v1 v2 S).2 := by
  unfold f_Root_when sp_when
  simp only [c_isPlan, bnd_s, zo_if, c_hasHouse h ho]
  by_cases c : wi v1 0 255 = true
  · by_cases d : hsB S v2 = true
    · obtain ⟨p, hp, -, rfl⟩ := wi_nat c (by omega)
      obtain ⟨i, hi, rfl, hi2⟩ := hsB_nat d
      have h8 := ho.2.1.1.1
      obtain ⟨E, e1, e2, e3, e4⟩ := c_leadAside h ho (by omega) (show p < 256 by omega)
      simp only [c, d, if_true, and_self, hi2, zI_toInt (show -2147483648 ≤ (p : Int) by omega) (show (p : Int) < 2147483648 by omega), Int.toNat_natCast]
      rw [e1, bnd_s]
      unfold lp_Root_when_30
      obtain ⟨m, hm⟩ := FU_eq (n := 9) (by omega)
      rw [hm]
      refine ⟨E, ?_, e3, fun k hk => e4 k (by omega)⟩
      exact c_when h8 e2 (by omega) 8 0 m rfl (by show ¬ Nat.testBit 0 i = true; rw [Nat.zero_testBit]; decide)
    · simp only [c, d, if_true, if_false, Bool.false_eq_true, and_false]
      exact CDo.same h _
  · simp only [c, if_false, Bool.false_eq_true, false_and]
    exact CDo.same h _
/-! which houses are cut off -/
def cutN (W : WatT) (n : Nat) : Nat := orN (fun i => decide (2 ≤ W.1 i)) n
theorem cutN_lt (W : WatT) : cutN W 8 < 256 := orN_lt8 _ (by omega)
theorem c_cutOff {D : Dt} {B : BedT} {p h : Nat} {W : WatT} (hh : h < 8) (ht : TdC D B p W 8) (hw : ∀ i, i < 8 → 0 ≤ (tdW B p W (h + 1)).1 i ∧ (tdW B p W (h + 1)).1 i < 1000000) : f_Tuesday_cutOffBits (zI h) D = some (zI (cutN (tdW B p W (h + 1)) 8 : Nat), D) := by
  unfold f_Tuesday_cutOffBits lp_Tuesday_cutOffBits_4 cutN
  exact orl3 (F := s_Tuesday_cutOffBits_4) (fun i => decide (2 ≤ (tdW B p W (h + 1)).1 i)) 8 (by omega) (fun z => some (zI (z : Nat), D))
    (fun i hi v k => by
      have w := hw i hi
      unfold s_Tuesday_cutOffBits_4 b_Tuesday_cutOffBits_35
      rw [if_neg (by rw [show (8 : Int32) = zI 8 from rfl, zI_le (by omega) (by omega) (by omega) (by omega)]; omega), zI_s, if_pos (inb_t (by omega) (by omega) (by omega)), if_pos (inb_t (by omega) (by omega) (by omega)), zI_nat (by omega), zI_nat (by omega), (((ht (h + 1) (by omega)).1).2.2 i hi).1, shl_d i (by omega), zI_s]
      by_cases c : 2 ≤ (tdW B p W (h + 1)).1 i
      · rw [if_neg (by rw [show (2 : Int32) = zI 2 from rfl, zI_lt (by omega) (by omega) (by omega) (by omega)]; omega), if_pos (decide_eq_true c)]
      · rw [if_pos (by rw [show (2 : Int32) = zI 2 from rfl, zI_lt (by omega) (by omega) (by omega) (by omega)]; omega), if_neg (by simp only [decide_eq_true_eq]; exact c)])
    (fun v k => by unfold s_Tuesday_cutOffBits_4; rw [if_pos (by decide)])
theorem tW_b {S : SstT} (ho : Ok S) (hn : 0 < S.2.2.2.1.1.1) (p h : Nat) (hh : h ≤ 8) {i : Nat} (hi : i < 8) : 0 ≤ (tW S p h).1 i ∧ (tW S p h).1 i < 1000000 := by
  obtain ⟨o1, o2, o3, ⟨o4, o5, o6⟩, o7, o8⟩ := ho.2.1
  have w := td_ok o1 hn o4 p h
  have w1 := w.1 i
  have w2 := le_sum8 w.1 hi
  have w3 := w.2.2.2
  show 0 ≤ (tdW S.2.2.2.1.1 p S.2.2.2.1.2.1 h).1 i ∧ (tdW S.2.2.2.1.1 p S.2.2.2.1.2.1 h).1 i < 1000000
  omega
abbrev cutS (S : SstT) (p h : Nat) : Nat := cutN (tW S p (h + 1)) 8
def sp_cut (v1 v2 : Int32) (S : SstT) : Int32 × SstT := if wi v2 0 7 = true ∧ wi v1 0 255 = true then (if 0 < S.2.2.2.1.1.1 then (zI (cutS S v1.toInt.toNat v2.toInt.toNat : Nat), sTell S (zI (popc (cutS S v1.toInt.toNat v2.toInt.toNat) : Nat))) else (-4, S)) else (-1, S)
theorem k_cut {D : Dt} {S : SstT} (h : CRep D S) (ho : Ok S) (v1 v2 : Int32) : CDo (f_Root_cut v1 v2 D) D (sp_cut v1 v2 S).1 (sp_cut v1 v2 S).2 := by
  unfold f_Root_cut sp_cut
  rw [c_isHourOfDay, bnd_s, zo_if, c_refusedPlan h ho, bnd_s]
  by_cases c0 : wi v2 0 7 = true
  · by_cases c : wi v1 0 255 = true
    · by_cases d : 0 < S.2.2.2.1.1.1
      · obtain ⟨p, hp, -, rfl⟩ := wi_nat c (by omega)
        obtain ⟨t, ht, -, rfl⟩ := wi_nat c0 (by omega)
        obtain ⟨E, e1, e2, e3, e4⟩ := c_leadAside h ho d (show p < 256 by omega)
        simp only [c0, c, d, if_true, and_self, zI_toInt (show -2147483648 ≤ (p : Int) by omega) (show (p : Int) < 2147483648 by omega), zI_toInt (show -2147483648 ≤ (t : Int) by omega) (show (t : Int) < 2147483648 by omega), Int.toNat_natCast]
        rw [e1, bnd_s, c_cutOff (by omega) e2 (fun i hi => tW_b ho d p (t + 1) (by omega) hi), bnd_s, c_bitCount (cutN_lt _), bnd_s]
        exact (c_tell e3 _ _).bind (fun k hk => e4 k (by omega))
      · simp only [c0, c, d, if_true, if_false, and_self]
        rw [if_neg (by decide)]
        exact CDo.same h _
    · simp only [c0, c, if_true, if_false, Bool.false_eq_true, and_false]
      rw [if_neg (by decide)]
      exact CDo.same h _
  · simp only [c0, if_false, Bool.false_eq_true, false_and]
    exact CDo.same h _
/-! boats -/
def runB (x a : Nat) : Nat → Bool
  | 0 => true
  | n + 1 => runB x a n && x.testBit (a + n)
theorem runB_f {x a n : Nat} (h : runB x a n = false) : ∀ k, runB x a (n + k) = false := by
  intro k
  induction k with
  | zero => exact h
  | succ k ih => show (runB x a (n + k) && _) = false; rw [ih, Bool.false_and]
def sp_boat (v1 v2 v3 v4 : Int32) (S : SstT) : Int32 × SstT := if wi v1 0 255 = true ∧ wi v2 0 7 = true ∧ hsB S v3 = true ∧ hsB S v4 = true then (if runB (cutS S v1.toInt.toNat v2.toInt.toNat) (min v3.toInt.toNat v4.toInt.toNat) (max v3.toInt.toNat v4.toInt.toNat + 1 - min v3.toInt.toNat v4.toInt.toNat) = true then 1 else 0, S) else (-1, S)
theorem c_boat {D : Dt} {x i j : Nat} (hx : x < 256) (hi : i < 8) (hj : j < 8) : ∀ d n m : Nat, n + d = max i j + 1 - min i j → runB x (min i j) n = true → itr (fun _ _ _ _ _ => none) s_Root_boat_68 (m + d + 1) (zI i) (zI j) (zI x) (zI ((min i j + n : Nat) : Int)) D = some (if runB x (min i j) (max i j + 1 - min i j) = true then 1 else 0, D) := by
  have hm : max (i : Int) (j : Int) = ((max i j : Nat) : Int) := by omega
  intro d
  induction d with
  | zero =>
    intro n m e c
    rw [itr_s]
    unfold s_Root_boat_68
    rw [imax_z (by omega) (by omega) (by omega) (by omega), if_pos (by rw [zI_lt (by omega) (by omega) (by omega) (by omega)]; omega), show max i j + 1 - min i j = n by omega, if_pos c]
  | succ d ih =>
    intro n m e c
    rw [itr_s]
    have go : ∀ k : Int32 → Int32 → Int32 → Int32 → Dt → Option (Int32 × Dt), s_Root_boat_68 k (zI i) (zI j) (zI x) (zI ((min i j + n : Nat) : Int)) D = if x.testBit (min i j + n) = true then k (zI i) (zI j) (zI x) (zI ((min i j + (n + 1) : Nat) : Int)) D else some (0, D) := by
      intro k
      unfold s_Root_boat_68
      rw [imax_z (by omega) (by omega) (by omega) (by omega), if_neg (by rw [zI_lt (by omega) (by omega) (by omega) (by omega)]; omega), c_hasBit hx (by omega), bnd_s, zo_if, zI_s]
      rfl
    rw [go]
    by_cases f : x.testBit (min i j + n) = true
    · rw [if_pos f, show m + (d + 1) = m + d + 1 by omega]
      exact ih (n + 1) m (by omega) (by show (runB x (min i j) n && x.testBit (min i j + n)) = true; rw [c, f]; rfl)
    · rw [if_neg f]
      have f' : x.testBit (min i j + n) = false := by simpa using f
      have g : runB x (min i j) (n + 1) = false := by show (runB x (min i j) n && x.testBit (min i j + n)) = false; rw [f', Bool.and_false]
      have := runB_f g d
      rw [show n + 1 + d = max i j + 1 - min i j by omega] at this
      rw [this]; rfl
theorem k_boat {D : Dt} {S : SstT} (h : CRep D S) (ho : Ok S) (v1 v2 v3 v4 : Int32) : CDo (f_Root_boat v1 v2 v3 v4 D) D (sp_boat v1 v2 v3 v4 S).1 (sp_boat v1 v2 v3 v4 S).2 := by
  unfold f_Root_boat sp_boat
  simp only [c_isPlan, c_isHourOfDay, bnd_s, zo_if, c_hasHouse h ho]
  by_cases c : wi v1 0 255 = true
  · by_cases c0 : wi v2 0 7 = true
    · by_cases d : hsB S v3 = true
      · by_cases d2 : hsB S v4 = true
        · obtain ⟨p, hp, -, rfl⟩ := wi_nat c (by omega)
          obtain ⟨t, ht, -, rfl⟩ := wi_nat c0 (by omega)
          obtain ⟨i, hi, rfl, hi2⟩ := hsB_nat d
          obtain ⟨j, hj, rfl, hj2⟩ := hsB_nat d2
          have h8 := ho.2.1.1.1
          obtain ⟨E, e1, e2, e3, e4⟩ := c_leadAside h ho (by omega) (show p < 256 by omega)
          simp only [c, c0, d, d2, if_true, and_self, hi2, hj2, zI_toInt (show -2147483648 ≤ (p : Int) by omega) (show (p : Int) < 2147483648 by omega), zI_toInt (show -2147483648 ≤ (t : Int) by omega) (show (t : Int) < 2147483648 by omega), Int.toNat_natCast]
          rw [e1, bnd_s, c_cutOff (by omega) e2 (fun i hi => tW_b ho (by omega) p (t + 1) (by omega) hi), bnd_s, imin_z (by omega) (by omega) (by omega) (by omega), show min (i : Int) (j : Int) = ((min i j + 0 : Nat) : Int) by omega]
          unfold lp_Root_boat_68
          obtain ⟨m, hm⟩ := FU_eq (n := (max i j + 1 - min i j) + 1) (by omega)
          rw [hm]
          have hb := c_boat (D := E) (x := cutS S p t) (i := i) (j := j) (cutN_lt _) (by omega) (by omega) (max i j + 1 - min i j) 0 m (by omega) rfl
          exact ⟨E, hb, e3, fun k hk => e4 k (by omega)⟩
        · simp only [c, c0, d, d2, if_true, if_false, Bool.false_eq_true, and_false]
          exact CDo.same h _
      · simp only [c, c0, d, if_true, if_false, Bool.false_eq_true, and_false, false_and]
        exact CDo.same h _
    · simp only [c, c0, if_true, if_false, Bool.false_eq_true, and_false, false_and]
      exact CDo.same h _
  · simp only [c, if_false, Bool.false_eq_true, false_and]
    exact CDo.same h _
