/-! done: the model -/
def clrN (x i : Nat) : Nat := if x.testBit i then x - 2 ^ i else x
theorem clr_d : ∀ x : Nat, x < 64 → ∀ i : Nat, i < 6 → (zI (x : Int) &&& (((1 : Int32) <<< (zI (i : Int) &&& 31)) ^^^ (-1))) = zI (clrN x i : Nat) ∧ clrN x i < 64 := by decide +kernel
theorem clr_t : ∀ x : Nat, x < 64 → ∀ i : Nat, i < 6 → ∀ j : Nat, j < 6 → (clrN x i).testBit j = (x.testBit j && !(j == i)) := by decide +kernel
theorem tb_hi {x j : Nat} (h : x < 64) (hj : 6 ≤ j) : x.testBit j = false := Nat.testBit_lt_two_pow (Nat.lt_of_lt_of_le h (show 2 ^ 6 ≤ 2 ^ j from Nat.pow_le_pow_right (by omega) hj))
/-- those of a set that are still to come -/
def LfR (n : Nat) (p : Nat → Nat) (u l a : Nat) : Prop := l < 64 ∧ ∀ j, l.testBit j = true ↔ (u.testBit j = true ∧ ∃ b, a ≤ b ∧ b < n ∧ p b = j)
def anyR (f : Nat → Bool) : Nat → Nat → Bool
  | _, 0 => false
  | a, e + 1 => f a || anyR f (a + 1) e
theorem anyR_B (f : Nat → Bool) : ∀ e a, anyB f (a + e) = (anyB f a || anyR f a e) := by
  intro e
  induction e with
  | zero => intro a; show anyB f a = (anyB f a || false); rw [Bool.or_false]
  | succ e ih =>
    intro a
    rw [show a + (e + 1) = (a + 1) + e by omega, ih (a + 1)]
    show ((anyB f a || f a) || anyR f (a + 1) e) = (anyB f a || (f a || anyR f (a + 1) e))
    rw [Bool.or_assoc]
/-- the one that is due first -/
theorem m_pick {D : Dt} {n : Nat} {tk du : Nat → Int} (hj : JbOk n tk du) (hJ : JbM D n tk du) {l : Nat} (hl : l < 64) (t : Int32) (k4 : Int32 → Int32 → Dt → Option (Int32 × Dt)) : lp_Model_inTime_15 k4 FU (zI l) t (-9) 0 D = s_Model_inTime_15 k4 (fun _ _ _ _ _ => none) (zI l) t (zI (oZ (bsN (fun j => l.testBit j) du n))) (zI (n : Nat)) D := by
  have h6 := hj.1
  unfold lp_Model_inTime_15
  obtain ⟨M, hM⟩ := FU_eq (n := n + 1) (by omega)
  rw [hM, show M + (n + 1) = (M + 1) + n by omega]
  obtain ⟨U, -, e⟩ := itr_go (fun _ _ _ _ _ => none) (s_Model_inTime_15 k4) (fun i (U : Unit) k => k (zI l) t (zI (oZ (bsN (fun j => l.testBit j) du i))) (zI i) D) n (fun i U => True)
    (fun i hi U _ => ⟨(), trivial, fun k => by
      unfold s_Model_inTime_15 b_Model_inTime_62 b_Model_inTime_57 b_Model_inTime_64
      rw [hJ.1, if_neg (by rw [zI_le (by omega) (by omega) (by omega) (by omega)]; omega), m_has (by omega) (by omega), bnd_s, zo_if, if_cg (oZ_9 (by omega)), zI_s, bsN_s]
      by_cases c : l.testBit i = true
      · rw [if_pos c]
        cases hb : bsN (fun j => l.testBit j) du i with
        | none =>
          rw [if_pos rfl, if_pos ⟨c, Or.inl rfl⟩]; rfl
        | some b =>
          have hbi := ((bsN_spec (fun j => l.testBit j) du i).2 b hb).1
          have b1 := hj.2 i hi
          have b2 := hj.2 b (by omega)
          rw [if_neg (fun q => by cases q), show zI (oZ (some b)) = zI (b : Int) from rfl, if_pos (inb_t (by omega) (by omega) (by omega)), if_pos (inb_t (by omega) (by omega) (by omega)), zI_nat (by omega), zI_nat (by omega), (hJ.2 i hi).2, (hJ.2 b (by omega)).2, if_cg (zI_le (by omega) (by omega) (by omega) (by omega))]
          by_cases d : du i < du b
          · rw [if_neg (by omega), if_pos ⟨c, Or.inr ⟨b, rfl, d⟩⟩]; rfl
          · rw [if_pos (by omega), if_neg (fun q => by
              rcases q.2 with q2 | ⟨b', q2, q3⟩
              · cases q2
              · injection q2 with q2
                subst q2
                exact d q3)]
            rfl
      · rw [if_neg c, if_neg (fun q => c q.1)]⟩) () trivial
  have e := e (M + 1)
  refine (show itr (fun _ _ _ _ _ => none) (s_Model_inTime_15 k4) (M + 1 + n) (zI l) t (zI (oZ (bsN (fun j => l.testBit j) du 0))) (zI ((0 : Nat) : Int)) D = _ from e.trans ?_)
  rw [itr_s]
  unfold s_Model_inTime_15
  rw [hJ.1, if_pos ((zI_le (by omega) (by omega) (by omega) (by omega)).mpr (by omega)), if_pos ((zI_le (by omega) (by omega) (by omega) (by omega)).mpr (by omega))]
theorem m_inTime1 {D : Dt} {n : Nat} {tk du : Nat → Int} {p : Nat → Nat} (hj : JbOk n tk du) (hJ : JbM D n tk du) (hs : SrtOk du n p) (u : Nat) : ∀ (e a l N : Nat), a + e = n → LfR n p u l a → itr (fun _ _ _ => none) s_Model_inTime_4 (N + e + 1) (zI l) (zI (ttF tk p u a)) D = some (if anyR (flF tk du p u) a e = true then 0 else 1, D) := by
  have h6 := hj.1
  obtain ⟨s1, s2, s3⟩ := hs
  intro e
  induction e with
  | zero =>
    intro a l N ha hl
    have l0 : l = 0 := by
      apply Nat.eq_of_testBit_eq
      intro j
      rw [Nat.zero_testBit]
      refine Bool.eq_false_iff.mpr (fun q => ?_)
      obtain ⟨-, b, b1, b2, -⟩ := (hl.2 j).mp q
      omega
    rw [l0, Nat.add_zero, itr_s]
    unfold s_Model_inTime_4
    rw [if_pos (by rfl)]
    rfl
  | succ e ih =>
    intro a l N ha hl
    have tb := ttF_b hj s1 u a (by omega)
    have hpa := s1 a (by omega)
    have bpa := hj.2 (p a) hpa
    have et : ttF tk p u (a + 1) = ttF tk p u a + (if u.testBit (p a) = true then tk (p a) else 0) := rfl
    show _ = some (if (flF tk du p u a || anyR (flF tk du p u) (a + 1) e) = true then 0 else 1, D)
    by_cases c : u.testBit (p a) = true
    · rw [if_pos c] at et
      have la : l.testBit (p a) = true := (hl.2 (p a)).mpr ⟨c, a, Nat.le_refl _, by omega, rfl⟩
      have l0 : ¬ l = 0 := fun q => by rw [q, Nat.zero_testBit] at la; cases la
      have hl64 := hl.1
      -- the first due of those left is the one at place a
      have pick : bsN (fun j => l.testBit j) du n = some (p a) := by
        obtain ⟨w1, w2⟩ := bsN_spec (fun j => l.testBit j) du n
        cases hb : bsN (fun j => l.testBit j) du n with
        | none =>
          have this : l.testBit (p a) = false := w1 hb (p a) hpa
          rw [la] at this; cases this
        | some b =>
          obtain ⟨b1, b2, b3⟩ := w2 b hb
          obtain ⟨-, q, q1, q2, q3⟩ := (hl.2 b).mp b2
          by_cases z : q = a
          · subst z; rw [q3]
          · exfalso
            have hx := s2 a q (by omega) q2
            rw [q3] at hx
            rcases b3 (p a) hpa la with y | y <;> rcases hx with w | w <;> omega
      rw [show N + (e + 1) + 1 = (N + e + 1) + 1 by omega, itr_s]
      have ih := ih (a + 1) (clrN l (p a)) N (by omega)
      generalize itr (fun _ _ _ => none) s_Model_inTime_4 (N + e + 1) = kk at *
      unfold s_Model_inTime_4
      rw [if_neg (by rw [show (0 : Int32) = zI ((0 : Nat) : Int) from rfl, zI_eqn (by omega) (by omega)]; exact l0), m_pick hj hJ hl64, pick]
      unfold s_Model_inTime_15
      rw [hJ.1, if_pos ((zI_le (by omega) (by omega) (by omega) (by omega)).mpr (by omega)), show zI (oZ (some (p a))) = zI (p a : Nat) from rfl, if_pos (inb_t (by omega) (by omega) (by omega)), if_pos (inb_t (by omega) (by omega) (by omega)), zI_nat (by omega), (hJ.2 _ hpa).1, (hJ.2 _ hpa).2, zI_add, if_cg (zI_le (by omega) (by omega) (by omega) (by omega)), nm_s, (clr_d l hl64 (p a) (by omega)).1, ← et]
      unfold flF
      rw [c, Bool.true_and]
      by_cases g : du (p a) < ttF tk p u (a + 1)
      · rw [if_neg (by omega), decide_eq_true g, Bool.true_or]; rfl
      · rw [if_pos (by omega), decide_eq_false g, Bool.false_or]
        refine ih ⟨(clr_d l hl64 (p a) (by omega)).2, fun j => ?_⟩
        by_cases j6 : j < 6
        · rw [clr_t l hl64 (p a) (by omega) j j6, Bool.and_eq_true, hl.2 j]
          constructor
          · intro q
            obtain ⟨⟨q1, b, b1, b2, b3⟩, q2⟩ := q
            refine ⟨q1, b, ?_, b2, b3⟩
            by_cases z : b = a
            · subst z; rw [b3] at q2; simp at q2
            · omega
          · intro q
            obtain ⟨q1, b, b1, b2, b3⟩ := q
            refine ⟨⟨q1, b, by omega, b2, b3⟩, ?_⟩
            have hx := s2 a b (by omega) b2
            have : j ≠ p a := fun z => by
              rw [b3, ← z] at hx
              rcases hx with w | w <;> omega
            simp [this]
        · rw [tb_hi (clr_d l hl64 (p a) (by omega)).2 (by omega)]
          refine ⟨fun q => (by cases q), fun q => ?_⟩
          obtain ⟨-, b, -, b2, b3⟩ := q
          have := s1 b b2
          omega
    · rw [if_neg c, Int.add_zero] at et
      have hf : flF tk du p u a = false := by unfold flF; rw [Bool.eq_false_iff.mpr c]; rfl
      rw [hf, Bool.false_or, show N + (e + 1) + 1 = (N + 1) + e + 1 by omega, ← et]
      refine ih (a + 1) l (N + 1) (by omega) ⟨hl.1, fun j => (hl.2 j).trans ⟨fun q => ?_, fun q => ?_⟩⟩
      · obtain ⟨q1, b, b1, b2, b3⟩ := q
        refine ⟨q1, b, ?_, b2, b3⟩
        by_cases z : b = a
        · subst z; rw [b3] at c; exact absurd q1 c
        · omega
      · obtain ⟨q1, b, b1, b2, b3⟩ := q
        exact ⟨q1, b, by omega, b2, b3⟩
theorem m_inTime {D : Dt} {n : Nat} {tk du : Nat → Int} (hj : JbOk n tk du) (hJ : JbM D n tk du) {u : Nat} (hu : u < 2 ^ n) : f_Model_inTime (zI u) D = some (if itF n tk du u = true then 1 else 0, D) := by
  have h6 := hj.1
  have p6 : 2 ^ n ≤ 64 := Nat.pow_le_pow_right (n := 2) (by omega) h6
  have hs : SrtOk du n (srtF du (n - 1)) := by
    by_cases z : n = 0
    · subst z; exact ⟨fun a q => by omega, fun a b _ q => by omega, fun v q => by omega⟩
    · have := (srt_ok du (n - 1)).1
      rw [show n - 1 + 1 = n by omega] at this
      exact this
  unfold f_Model_inTime lp_Model_inTime_4
  obtain ⟨M, hM⟩ := FU_eq (n := n + 1) (by omega)
  rw [hM, show M + (n + 1) = M + n + 1 by omega]
  have e := m_inTime1 hj hJ hs u n 0 u M (by omega) ⟨by omega, fun j => ⟨fun q => ⟨q, ?_⟩, fun q => q.1⟩⟩
  · refine (show itr (fun _ _ _ => none) s_Model_inTime_4 (M + n + 1) (zI u) (zI (ttF tk (srtF du (n - 1)) u 0)) D = _ from e.trans ?_)
    have ea := anyR_B (flF tk du (srtF du (n - 1)) u) n 0
    rw [Nat.zero_add, show anyB (flF tk du (srtF du (n - 1)) u) 0 = false from rfl, Bool.false_or] at ea
    unfold itF
    rw [ea]
    cases anyR (flF tk du (srtF du (n - 1)) u) 0 n <;> rfl
  · have hjn : j < n := by
      by_cases z : j < n
      · exact z
      · have := Nat.testBit_lt_two_pow (Nat.lt_of_lt_of_le hu (show 2 ^ n ≤ 2 ^ j from Nat.pow_le_pow_right (by omega) (by omega)))
        rw [q] at this; cases this
    obtain ⟨b, b1, b2⟩ := hs.2.2 j hjn
    exact ⟨b, by omega, b1, b2⟩
theorem q_done {D : Dt} {S : SstT} (h : MRep D S) (ho : Ok S) (v1 v2 : Int32) : MDo (f_Model_done v1 v2 D) D (sp_done v1 v2 S).1 (sp_done v1 v2 S).2 := by
  unfold f_Model_done sp_done
  rw [m_isRow, bnd_s, zo_if, m_isRow, bnd_s, zo_if]
  by_cases c1 : wi v1 0 5 = true
  · by_cases c2 : wi v2 0 5 = true
    · rw [if_pos c1, if_pos c2]
      obtain ⟨a, ha, -, rfl⟩ := wi_nat c1 (by omega)
      obtain ⟨b, hb, -, rfl⟩ := wi_nat c2 (by omega)
      have ea : (zI (a : Int)).toInt.toNat = a := by rw [zI_toInt (by omega) (by omega), Int.toNat_natCast]
      have eb : (zI (b : Int)).toInt.toNat = b := by rw [zI_toInt (by omega) (by omega), Int.toNat_natCast]
      obtain ⟨⟨E, e1, e2, e3⟩, n2⟩ := m_needJobs h ho (show a < 6 by omega) (show b < 6 by omega)
      by_cases c : (rfJb (zI (a : Int)) (zI (b : Int)) S).1 = 0
      · obtain ⟨q1, q2, q3, q4, q5, q6, q7, q8⟩ := rfJb_0 c
        rw [ea] at q4 q5 q6 q7
        rw [eb] at q6 q8
        have hj := jb_ok q5 q6 q7 q8
        have hn6 : jN S a ≤ 6 := hj.1
        obtain ⟨F, f1, f2, f3, f4⟩ := n2 c
        rw [f1, bnd_s, if_pos (by decide), if_pos c, ea, eb]
        have db := dnV_b (S := S) (a := a) (b := b) hn6
        unfold dnV at db ⊢
        generalize jN S a = n at *
        generalize jT S a = tk at *
        generalize jT S b = du at *
        have p6 : 2 ^ n ≤ 64 := Nat.pow_le_pow_right (n := 2) (by omega) hn6
        have p0 : 0 < 2 ^ n := Nat.two_pow_pos n
        unfold lp_Model_done_35
        obtain ⟨M, hM⟩ := FU_eq (n := (2 ^ n - 1) + 1) (by omega)
        rw [hM, show M + ((2 ^ n - 1) + 1) = (M + 1) + (2 ^ n - 1) by omega]
        obtain ⟨U, -, e⟩ := itr_go (fun _ _ _ => none) s_Model_done_35 (fun i (U : Unit) k => k (zI (dnB (itF n tk du) i : Nat)) (zI ((i + 1 : Nat) : Int)) F) (2 ^ n - 1) (fun i U => True)
          (fun i hi U _ => ⟨(), trivial, fun k => by
            have db := dnB_b (itF n tk du) i
            have r1 := popc8 (show i + 1 < 256 by omega)
            have r2 := popc8 (show dnB (itF n tk du) i < 256 by omega)
            unfold s_Model_done_35 b_Model_done_73 b_Model_done_75
            rw [f4.1, shl_d n (by omega), if_neg (by rw [zI_le (by omega) (by omega) (by omega) (by omega)]; omega), m_bits (by omega), bnd_s, m_bits (by omega), bnd_s, if_cg (zI_le (by omega) (by omega) (by omega) (by omega)), m_inTime hj f4 (by omega), bnd_s, zo_if, zI_s, show dnB (itF n tk du) (i + 1) = if popc (dnB (itF n tk du) i) < popc (i + 1) ∧ itF n tk du (i + 1) = true then i + 1 else dnB (itF n tk du) i from rfl]
            by_cases z : popc (dnB (itF n tk du) i) < popc (i + 1)
            · rw [if_neg (by omega)]
              by_cases g : itF n tk du (i + 1) = true
              · rw [if_pos g, if_pos ⟨z, g⟩]
              · rw [if_neg g, if_neg (fun q => g q.2)]
            · rw [if_pos (by omega), if_neg (fun q => z q.1)]⟩) () trivial
        have e := e (M + 1)
        refine (show MDo (itr (fun _ _ _ => none) s_Model_done_35 (M + 1 + (2 ^ n - 1)) (zI (dnB (itF n tk du) 0 : Nat)) (zI ((0 + 1 : Nat) : Int)) F) D _ _ from ?_)
        rw [e, itr_s]
        unfold s_Model_done_35
        rw [f4.1, shl_d n (by omega), if_pos ((zI_le (by omega) (by omega) (by omega) (by omega)).mpr (by omega)), m_bits (by omega), bnd_s]
        exact (m_tells f2 _ _).bind f3
      · rw [e1, bnd_s, if_neg (rfJb_n c), if_neg c]
        exact ⟨E, rfl, e2, e3⟩
    · rw [if_pos c1, if_neg c2]
      have e : rfJb v1 v2 S = (-1, S) := by unfold rfJb; rw [if_neg (fun q => c2 q.2)]
      rw [e, if_neg ng1]
      exact MDo.same h _
  · rw [if_neg c1]
    have e : rfJb v1 v2 S = (-1, S) := by unfold rfJb; rw [if_neg (fun q => c1 q.1)]
    rw [e, if_neg ng1]
    exact MDo.same h _
