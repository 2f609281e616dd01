theorem if_cg {α : Type} {p q : Prop} [Decidable p] [Decidable q] (h : p ↔ q) {a b : α} : (if p then a else b) = if q then a else b := by
  by_cases c : q
  · rw [if_pos c, if_pos (h.mpr c)]
  · rw [if_neg c, if_neg (fun z => c (h.mp z))]
theorem zI_eqw {w : Nat} (hw : w ≤ 7) (n : Nat) (hn : n ≤ 7) : (zI (w : Int) = zI (n : Int)) ↔ w = n := zI_eqn (by omega) (by omega)
theorem m_counted4 {D : Dt} {S : SstT} (h : MRep D S) (ho : Ok S) {w : Nat} (hw : w ≤ 7) (v : Int) : lp_Model_counted_164 FU (zI w) (zI v) 0 D = some (zI (if w = 0 then S.2.2.2.1.1.1 else if w = 1 then S.2.2.2.1.2.2.1 else v + sumN (cg4 w S) 4), D) := by
  unfold lp_Model_counted_164
  exact cnt3 (F := s_Model_counted_164) (a := zI w) (cg4 w S) 4 (by omega) (fun z => some (zI (if w = 0 then S.2.2.2.1.1.1 else if w = 1 then S.2.2.2.1.2.2.1 else z), D)) v
    (fun i hi z k => by
      have hz := ho.1.2 i hi
      unfold rwOk at hz
      unfold s_Model_counted_164 b_Model_counted_189 b_Model_counted_190 cg4
      rw [if_neg (by rw [show (4 : Int32) = zI 4 from rfl, zI_le (by omega) (by omega) (by omega) (by omega)]; omega), zI_s, show (7 : Int32) = zI ((7 : Nat) : Int) from rfl, if_cg (zI_eqw hw 7 (by omega))]
      by_cases c : w = 7
      · rw [if_pos c, if_pos (inb_t (by omega) (by omega) (by omega)), zI_nat (by omega), (h.2.1 i hi).1]
        by_cases d : (S.2.1 i).1 = -1
        · rw [if_pos (by rw [zI_ltl (by omega) (by omega)]; omega), if_neg (by simp [d]), show (0 : Int32) = zI 0 from rfl, zI_add]
        · rw [if_neg (by rw [zI_ltl (by omega) (by omega)]; omega), if_pos ⟨c, d⟩, show (1 : Int32) = zI 1 from rfl, zI_add]
      · rw [if_neg c, if_neg (by omega), show (0 : Int32) = zI 0 from rfl, zI_add])
    (fun z k => by
      unfold s_Model_counted_164
      rw [if_pos (by decide), show (0 : Int32) = zI ((0 : Nat) : Int) from rfl, show (1 : Int32) = zI ((1 : Nat) : Int) from rfl, if_cg (zI_eqw hw 0 (by omega)), if_cg (zI_eqw hw 1 (by omega)), h.2.2.2.1.1.1, h.2.2.2.1.2.2.1]
      by_cases c : w = 0
      · simp only [c, if_true]
      · by_cases d : w = 1
        · simp only [c, d, if_true, if_false]; rfl
        · simp only [c, d, if_false])
theorem m_counted3 {D : Dt} {S : SstT} (h : MRep D S) (ho : Ok S) {w : Nat} (hw : w ≤ 7) (v : Int) : lp_Model_counted_127 FU (zI w) (zI v) 0 D = some (zI (if w = 0 then S.2.2.2.1.1.1 else if w = 1 then S.2.2.2.1.2.2.1 else v + sumN (cg3 w S) 6 + sumN (cg4 w S) 4), D) := by
  unfold lp_Model_counted_127
  exact cnt3 (F := s_Model_counted_127) (a := zI w) (cg3 w S) 6 (by omega) (fun z => some (zI (if w = 0 then S.2.2.2.1.1.1 else if w = 1 then S.2.2.2.1.2.2.1 else z + sumN (cg4 w S) 4), D)) v
    (fun i hi z k => by
      have hz := ho.1.1 i hi
      unfold rwOk at hz
      unfold s_Model_counted_127 b_Model_counted_153 b_Model_counted_154 cg3
      rw [if_neg (by rw [show (6 : Int32) = zI 6 from rfl, zI_le (by omega) (by omega) (by omega) (by omega)]; omega), zI_s, show (6 : Int32) = zI ((6 : Nat) : Int) from rfl, if_cg (zI_eqw hw 6 (by omega))]
      by_cases c : w = 6
      · rw [if_pos c, if_pos (inb_t (by omega) (by omega) (by omega)), zI_nat (by omega), (h.1 i hi).1]
        by_cases d : (S.1 i).1 = -1
        · rw [if_pos (by rw [zI_ltl (by omega) (by omega)]; omega), if_neg (by simp [d]), show (0 : Int32) = zI 0 from rfl, zI_add]
        · rw [if_neg (by rw [zI_ltl (by omega) (by omega)]; omega), if_pos ⟨c, d⟩, show (1 : Int32) = zI 1 from rfl, zI_add]
      · rw [if_neg c, if_neg (by omega), show (0 : Int32) = zI 0 from rfl, zI_add])
    (fun z k => by
      unfold s_Model_counted_127
      rw [if_pos (by decide), m_counted4 h ho hw])
theorem m_counted2 {D : Dt} {S : SstT} (h : MRep D S) (ho : Ok S) {w : Nat} (hw : w ≤ 7) (v : Int) : lp_Model_counted_93 FU (zI w) (zI v) 0 D = some (zI (if w = 0 then S.2.2.2.1.1.1 else if w = 1 then S.2.2.2.1.2.2.1 else v + sumN (cg2 w S) 3 + sumN (cg3 w S) 6 + sumN (cg4 w S) 4), D) := by
  unfold lp_Model_counted_93
  exact cnt3 (F := s_Model_counted_93) (a := zI w) (cg2 w S) 3 (by omega) (fun z => some (zI (if w = 0 then S.2.2.2.1.1.1 else if w = 1 then S.2.2.2.1.2.2.1 else z + sumN (cg3 w S) 6 + sumN (cg4 w S) 4), D)) v
    (fun i hi z k => by
      unfold s_Model_counted_93 b_Model_counted_116 b_Model_counted_117 cg2
      rw [if_neg (by rw [show (3 : Int32) = zI 3 from rfl, zI_le (by omega) (by omega) (by omega) (by omega)]; omega), zI_s, show (5 : Int32) = zI ((5 : Nat) : Int) from rfl, if_cg (zI_eqw hw 5 (by omega))]
      by_cases c : w = 5
      · rw [if_pos c, m_isThere h ho hi, bnd_s, zo_if]
        by_cases d : (S.2.2.2.2 i).1 = true
        · rw [if_pos d, if_pos ⟨c, d⟩, show (1 : Int32) = zI 1 from rfl, zI_add]
        · rw [if_neg d, if_neg (fun q => d q.2), show (0 : Int32) = zI 0 from rfl, zI_add]
      · rw [if_neg c, if_neg (by omega), show (0 : Int32) = zI 0 from rfl, zI_add])
    (fun z k => by
      unfold s_Model_counted_93
      rw [if_pos (by decide), m_counted3 h ho hw])
theorem m_cstep {D : Dt} {w n i : Nat} (hw : w ≤ 7) (h10 : D 176 10 = zI n) (hi : i < n) (h8 : n ≤ 8) {kk hh : Int} (m1 : D 183 i = zI kk) (m5 : D 187 i = zI hh) (b1 : 0 ≤ kk ∧ kk ≤ 5) (b5 : hh = 0 ∨ hh = 1) (k : Int32 → Int32 → Int32 → Dt → Option (Int32 × Dt)) (z : Int) :
    s_Model_counted_4 k (zI w) (zI z) (zI i) D = k (zI w) (zI (z + (if (w = 2 ∧ kindB kk 1 = true) ∨ (w = 3 ∧ kindB kk 3 = true) ∨ (w = 4 ∧ hh = 1) then 1 else 0))) (zI ((i + 1 : Nat) : Int)) D := by
  have hin : inb (zI (i : Int)) 8 = true := inb_t (by omega) (by omega) (by omega)
  unfold s_Model_counted_4 b_Model_counted_38 b_Model_counted_63 b_Model_counted_78 b_Model_counted_82 b_Model_counted_83
  rw [h10, if_neg (by rw [zI_le (by omega) (by omega) (by omega) (by omega)]; omega), zI_s, zI_nat (by omega), m1, m5]
  simp only [hin, if_true]
  have k6 : kk = 0 ∨ kk = 1 ∨ kk = 2 ∨ kk = 3 ∨ kk = 4 ∨ kk = 5 := by omega
  have z0 : zI z + 0 = zI (z + 0) := by rw [show (0 : Int32) = zI 0 from rfl, zI_add]
  have z1 : zI z + 1 = zI (z + 1) := by rw [show (1 : Int32) = zI 1 from rfl, zI_add]
  rw [z0, z1]
  rcases (show w = 0 ∨ w = 1 ∨ w = 2 ∨ w = 3 ∨ w = 4 ∨ w = 5 ∨ w = 6 ∨ w = 7 by omega) with rfl | rfl | rfl | rfl | rfl | rfl | rfl | rfl <;> rcases k6 with rfl | rfl | rfl | rfl | rfl | rfl <;> rcases b5 with rfl | rfl <;> rfl
theorem m_counted {D : Dt} {S : SstT} (h : MRep D S) (ho : Ok S) {w : Nat} (hw : w ≤ 7) : f_Model_counted (zI w) D = some (zI (cntV w S), D) := by
  have hb := h.2.2.2.1.1
  have hB := ho.2.1.1
  have h8 := hB.1
  unfold f_Model_counted lp_Model_counted_4 cntV
  have e := cnt3 (F := s_Model_counted_4) (bot := fun _ _ _ _ => none) (D := D) (a := zI w) (cg1 w S.2.2.2.1.1) S.2.2.2.1.1.1 (by omega) (fun z => some (zI (if w = 0 then S.2.2.2.1.1.1 else if w = 1 then S.2.2.2.1.2.2.1 else z + sumN (cg2 w S) 3 + sumN (cg3 w S) 6 + sumN (cg4 w S) 4), D)) 0
    (fun i hi z k => by
      obtain ⟨m1, m2, m3, m4, m5⟩ := hb.2.2.2 i (by omega) hi
      obtain ⟨b1, b2, b3, b4, b5⟩ := hB.2.2.2 i hi
      exact m_cstep hw hb.1 hi h8 m1 m5 b1 b5 k z)
    (fun z k => by
      unfold s_Model_counted_4
      rw [hb.1, if_pos ((zI_le (by omega) (by omega) (by omega) (by omega)).mpr (by omega)), m_counted2 h ho hw])
  rw [Int.zero_add] at e
  exact e
theorem q_count {D : Dt} {S : SstT} (h : MRep D S) (ho : Ok S) (v1 : Int32) : MDo (f_Model_count v1 D) D (sp_count v1 S).1 (sp_count v1 S).2 := by
  unfold f_Model_count sp_count
  simp only [m_in, bnd_s, zo_if, tl]
  by_cases c : wi v1 0 7 = true
  · obtain ⟨n, hn, hn1, rfl⟩ := wi_nat c (by omega)
    simp only [c, if_true, zI_toInt (show -2147483648 ≤ (n : Int) by omega) (show (n : Int) < 2147483648 by omega), Int.toNat_natCast]
    rw [m_counted h ho (by omega), bnd_s]
    exact MDo.same h _
  · simp only [c, if_false, Bool.false_eq_true]
    exact MDo.same h _
/-! the divisor -/
theorem gcd_s (a b : Nat) : Nat.gcd b (a % b) = Nat.gcd a b := by rw [Nat.gcd_comm a b, Nat.gcd_rec b a, Nat.gcd_comm]
theorem m_gcd {D : Dt} (N : Nat) : ∀ a b : Nat, a < 100000 → b < 100000 → b < N → itr (fun _ _ _ => none) s_Model_common_13 N (zI a) (zI b) D = some (zI (Nat.gcd a b : Nat), D) := by
  have go : ∀ (k : Int32 → Int32 → Dt → Option (Int32 × Dt)) (a b : Nat), a < 100000 → b < 100000 → s_Model_common_13 k (zI a) (zI b) D = if b = 0 then some (zI a, D) else k (zI b) (zI ((a % b : Nat) : Int)) D := by
    intro k a b ha hb
    unfold s_Model_common_13
    rw [show (0 : Int32) = zI ((0 : Nat) : Int) from rfl, if_cg (zI_eqn (by omega) (by omega))]
    by_cases c : b = 0
    · rw [if_pos c, if_pos c]
    · rw [if_neg c, if_neg c, if_neg (by rw [zI_eqn (by omega) (by omega)]; exact c), zI_mod (by omega) (by omega) (by omega) (by omega)]
      rfl
  induction N with
  | zero => intro a b _ _ h; omega
  | succ N ih =>
    intro a b ha hb h
    rw [itr_s, go _ a b ha hb]
    by_cases c : b = 0
    · subst c; rw [if_pos rfl, Nat.gcd_zero_right]
    · have := Nat.mod_lt a (show 0 < b by omega)
      rw [if_neg c, ih b (a % b) hb (by omega) (by omega), gcd_s]
theorem c_gcd {D : Dt} (K : Nat) : ∀ (a b s N : Nat), a < 100000 → b < 100000 → b < 2 ^ K → s + 2 * K < 64 → 2 * K < N → itr (fun _ _ _ _ => none) s_Root_standingDivisor_24 N (zI a) (zI b) (zI s) D = some (zI (max (Nat.gcd a b : Nat) 1), D) := by
  have fin : ∀ (k : Int32 → Int32 → Int32 → Dt → Option (Int32 × Dt)) (a s : Nat), a < 100000 → s < 64 → s_Root_standingDivisor_24 k (zI a) (zI ((0 : Nat) : Int)) (zI s) D = some (zI (max (Nat.gcd a 0 : Nat) 1), D) := by
    intro k a s ha hs
    unfold s_Root_standingDivisor_24 b_Root_standingDivisor_50
    rw [if_neg (by rw [show (64 : Int32) = zI 64 from rfl, zI_le (by omega) (by omega) (by omega) (by omega)]; omega), if_pos (by rfl), Nat.gcd_zero_right, show (1 : Int32) = zI 1 from rfl, imax_z (by omega) (by omega) (by omega) (by omega)]
  have go : ∀ (k : Int32 → Int32 → Int32 → Dt → Option (Int32 × Dt)) (a b s : Nat), a < 100000 → b < 100000 → b ≠ 0 → s < 64 → s_Root_standingDivisor_24 k (zI a) (zI b) (zI s) D = k (zI b) (zI ((a % b : Nat) : Int)) (zI ((s + 1 : Nat) : Int)) D := by
    intro k a b s ha hb hb0 hs
    unfold s_Root_standingDivisor_24
    rw [if_neg (by rw [show (64 : Int32) = zI 64 from rfl, zI_le (by omega) (by omega) (by omega) (by omega)]; omega), show (0 : Int32) = zI ((0 : Nat) : Int) from rfl, if_neg (by rw [zI_eqn (by omega) (by omega)]; exact hb0), if_neg (by rw [zI_eqn (by omega) (by omega)]; exact hb0), zI_mod (by omega) (by omega) (by omega) (by omega), zI_s]
    rfl
  induction K with
  | zero =>
    intro a b s N ha hb h hs hN
    obtain ⟨m, rfl⟩ : ∃ m, N = m + 1 := ⟨N - 1, by omega⟩
    rw [itr_s, show b = 0 by omega]
    exact fin _ a s ha (by omega)
  | succ K ih =>
    intro a b s N ha hb h hs hN
    obtain ⟨m, rfl⟩ : ∃ m, N = m + 1 + 1 := ⟨N - 2, by omega⟩
    by_cases c : b = 0
    · subst c; rw [itr_s]; exact fin _ a s ha (by omega)
    · have h1 := Nat.mod_lt a (show 0 < b by omega)
      rw [itr_s, go _ a b s ha hb c (by omega), itr_s]
      by_cases d : a % b = 0
      · rw [d, fin _ b (s + 1) hb (by omega), ← gcd_s a b, d]
      · have h2 := Nat.mod_lt b (show 0 < a % b by omega)
        have h3 : b % (a % b) + (a % b) ≤ b := by
          have := Nat.div_add_mod b (a % b)
          have h4 : 1 ≤ b / (a % b) := Nat.div_pos (by omega) (by omega)
          have h5 : (a % b) * 1 ≤ (a % b) * (b / (a % b)) := Nat.mul_le_mul_left _ h4
          omega
        rw [go _ b (a % b) (s + 1) hb (by omega) d (by omega), ih (a % b) (b % (a % b)) (s + 1 + 1) m (by omega) (by omega) (by rw [Nat.pow_succ] at h; omega) (by omega) (by omega), gcd_s b (a % b), gcd_s a b]
/-! upper, lower -/
def stdV (S : SstT) : Nat := (sum8 S.2.2.2.1.2.1.1 + sum8 S.2.2.2.1.2.1.2.1).toNat
def inV (S : SstT) : Nat := S.2.2.2.1.2.1.2.2.2.1.toNat
def sp_upper (S : SstT) : Int64 := if inV S = 0 then 0 else (zI ((stdV S / Nat.gcd (inV S) (stdV S) : Nat) : Int)).toInt64
def sp_lower (S : SstT) : Int64 := if inV S = 0 then 1 else (zI ((inV S / Nat.gcd (inV S) (stdV S) : Nat) : Int)).toInt64
theorem std_ok {S : SstT} (ho : Ok S) : (sum8 S.2.2.2.1.2.1.1 + sum8 S.2.2.2.1.2.1.2.1 = (stdV S : Int) ∧ stdV S < 2000) ∧ S.2.2.2.1.2.1.2.2.2.1 = (inV S : Int) ∧ inV S < 2000 := by
  obtain ⟨o1, o2, o3, ⟨o4, o5, o6⟩, o7, o8⟩ := ho.2.1
  have hb : ∀ j, 0 ≤ S.2.2.2.1.2.1.2.1 j ∧ S.2.2.2.1.2.1.2.1 j ≤ 9 := by
    intro j
    by_cases c : j < S.2.2.2.1.1.1
    · have := o4.2.2.1 j c; have := (o1.2.2.2 j c).2.2.2.1; omega
    · have := (o4.2.1 j (by omega)).2.1; omega
  have ha := Int.le_trans (o4.1 0) (le_sum8 o4.1 (show 0 < 8 by omega))
  have h4 := o4.2.2.2
  have hs : 0 ≤ sum8 S.2.2.2.1.2.1.2.1 ∧ sum8 S.2.2.2.1.2.1.2.1 ≤ 72 := by
    unfold sum8
    have := hb 0; have := hb 1; have := hb 2; have := hb 3; have := hb 4; have := hb 5; have := hb 6; have := hb 7
    omega
  unfold stdV inV
  omega
theorem c_divisor {D : Dt} {S : SstT} (h : CRep D S) (ho : Ok S) : f_Root_standingDivisor D = some (zI (max (Nat.gcd (inV S) (stdV S) : Nat) 1), D) := by
  obtain ⟨⟨s1, s2⟩, s3, s4⟩ := std_ok ho
  unfold f_Root_standingDivisor lp_Root_standingDivisor_24
  rw [c_standing (by decide +kernel) h.2.2.2.1.2.1, bnd_s, h.2.2.2.1.2.1.1, s1, s3]
  exact c_gcd 11 (inV S) (stdV S) 0 FU (by omega) (by omega) (by omega) (by omega) (by unfold FU; omega)
theorem k_upper {D : Dt} {S : SstT} (h : CRep D S) (ho : Ok S) : f_Root_upper D = some (sp_upper S, D) := by
  obtain ⟨⟨s1, s2⟩, s3, s4⟩ := std_ok ho
  unfold f_Root_upper sp_upper
  rw [h.2.2.2.1.2.1.1, s3, show (0 : Int32) = zI ((0 : Nat) : Int) from rfl, if_cg (zI_eqn (by omega) (by omega))]
  by_cases c : inV S = 0
  · rw [if_pos c, if_pos c]
  · have hg := Nat.gcd_pos_of_pos_left (stdV S) (show 0 < inV S by omega)
    have hg2 := Nat.gcd_le_left (stdV S) (show 0 < inV S by omega)
    rw [if_neg c, if_neg c, c_standing (by decide +kernel) h.2.2.2.1.2.1, bnd_s, s1, c_divisor h ho, bnd_s, show max ((Nat.gcd (inV S) (stdV S) : Nat) : Int) 1 = ((Nat.gcd (inV S) (stdV S) : Nat) : Int) by omega, if_neg (by rw [zI_eqn (by omega) (by omega)]; omega), zI_div (by omega) (by omega) (by omega) (by omega)]
    rfl
theorem k_lower {D : Dt} {S : SstT} (h : CRep D S) (ho : Ok S) : f_Root_lower D = some (sp_lower S, D) := by
  obtain ⟨⟨s1, s2⟩, s3, s4⟩ := std_ok ho
  unfold f_Root_lower sp_lower
  rw [h.2.2.2.1.2.1.1, s3, show (0 : Int32) = zI ((0 : Nat) : Int) from rfl, if_cg (zI_eqn (by omega) (by omega))]
  by_cases c : inV S = 0
  · rw [if_pos c, if_pos c]
  · have hg := Nat.gcd_pos_of_pos_left (stdV S) (show 0 < inV S by omega)
    have hg2 := Nat.gcd_le_left (stdV S) (show 0 < inV S by omega)
    rw [if_neg c, if_neg c, c_divisor h ho, bnd_s, show max ((Nat.gcd (inV S) (stdV S) : Nat) : Int) 1 = ((Nat.gcd (inV S) (stdV S) : Nat) : Int) by omega, if_neg (by rw [zI_eqn (by omega) (by omega)]; omega), zI_div (by omega) (by omega) (by omega) (by omega)]
    rfl
theorem m_standsAll {D : Dt} {S : SstT} (h : MRep D S) (ho : Ok S) : f_Model_standsAll D = some (zI (stdV S), D) := by
  obtain ⟨⟨s1, s2⟩, s3, s4⟩ := std_ok ho
  obtain ⟨o1, o2, o3, ⟨o4, o5, o6⟩, o7, o8⟩ := ho.2.1
  have h8 := o1.1
  have hp := h.2.2.2.1.2.1
  unfold f_Model_standsAll lp_Model_standsAll_8
  rw [show (0 : Int32) = zI ((0 : Nat) : Int) from rfl, m_standing (f := 0) (by omega) h.2.2.2.1.1 h8 (fun j hj => (hp.2.2 j hj).1) (fun i hi => (o4.2.1 i hi).1), bnd_s]
  obtain ⟨m, hm⟩ := FU_eq (n := S.2.2.2.1.1.1 + 1) (by omega)
  rw [hm, show m + (S.2.2.2.1.1.1 + 1) = (m + 1) + S.2.2.2.1.1.1 by omega]
  obtain ⟨E, -, e⟩ := itr_go (fun _ _ _ => none) s_Model_standsAll_8 (fun i (E : Unit) k => k (zI (sum8 S.2.2.2.1.2.1.1 + sumN S.2.2.2.1.2.1.2.1 i)) (zI i) D) S.2.2.2.1.1.1 (fun i E => True)
    (fun i hi E _ => ⟨(), trivial, fun k => by
      unfold s_Model_standsAll_8
      have e8 : (8 : Int32) + zI (i : Int) = zI ((8 + i : Nat) : Int) := by rw [show (8 : Int32) = zI 8 from rfl, zI_add]; rfl
      have hv := (hp.2.2 i (by omega)).2.1
      rw [Nat.zero_add] at hv
      rw [h.2.2.2.1.1.1, if_neg (by rw [zI_le (by omega) (by omega) (by omega) (by omega)]; omega), e8, m_v0 (by omega), bnd_s, hv, zI_add, zI_s]
      simp only [sumN]
      rw [Int.add_assoc]⟩)
    () trivial
  have e := e (m + 1)
  simp only [sumN, Int.add_zero] at e
  refine e.trans ?_
  rw [itr_s]
  unfold s_Model_standsAll_8
  rw [h.2.2.2.1.1.1, if_pos ((zI_le (by omega) (by omega) (by omega) (by omega)).mpr (by omega)), sumN_n (fun i hi => (o4.2.1 i hi).2.1) h8, s1]
theorem m_common {D : Dt} {S : SstT} (h : MRep D S) (ho : Ok S) : f_Model_common D = some (zI (Nat.gcd (inV S) (stdV S) : Nat), D) := by
  obtain ⟨⟨s1, s2⟩, s3, s4⟩ := std_ok ho
  have hp := h.2.2.2.1.2.1.p0.1
  unfold f_Model_common lp_Model_common_13
  rw [m_standsAll h ho, bnd_s, show (24 : Int32) = zI ((24 : Nat) : Int) from rfl, m_v0 (by omega), bnd_s, hp, s3, m_gcd FU (stdV S) (inV S) (by omega) (by omega) (by unfold FU; omega), Nat.gcd_comm]
theorem q_upper {D : Dt} {S : SstT} (h : MRep D S) (ho : Ok S) : f_Model_upper D = some (sp_upper S, D) := by
  obtain ⟨⟨s1, s2⟩, s3, s4⟩ := std_ok ho
  have hp := h.2.2.2.1.2.1.p0.1
  unfold f_Model_upper sp_upper
  rw [show (24 : Int32) = zI ((24 : Nat) : Int) from rfl, m_v0 (by omega), bnd_s, hp, s3, show (0 : Int32) = zI ((0 : Nat) : Int) from rfl, if_cg (zI_eqn (by omega) (by omega))]
  by_cases c : inV S = 0
  · rw [if_pos c, if_pos c]
  · have hg := Nat.gcd_pos_of_pos_left (stdV S) (show 0 < inV S by omega)
    have hg2 := Nat.gcd_le_left (stdV S) (show 0 < inV S by omega)
    rw [if_neg c, if_neg c, m_standsAll h ho, bnd_s, m_common h ho, bnd_s, if_neg (by rw [zI_eqn (by omega) (by omega)]; omega), zI_div (by omega) (by omega) (by omega) (by omega)]
    rfl
theorem q_lower {D : Dt} {S : SstT} (h : MRep D S) (ho : Ok S) : f_Model_lower D = some (sp_lower S, D) := by
  obtain ⟨⟨s1, s2⟩, s3, s4⟩ := std_ok ho
  have hp := h.2.2.2.1.2.1.p0.1
  unfold f_Model_lower sp_lower
  rw [show (24 : Int32) = zI ((24 : Nat) : Int) from rfl, m_v0 (by omega), bnd_s, hp, s3, show (0 : Int32) = zI ((0 : Nat) : Int) from rfl, if_cg (zI_eqn (by omega) (by omega))]
  by_cases c : inV S = 0
  · rw [if_pos c, if_pos c]
  · have hg := Nat.gcd_pos_of_pos_left (stdV S) (show 0 < inV S by omega)
    have hg2 := Nat.gcd_le_left (stdV S) (show 0 < inV S by omega)
    rw [if_neg c, if_neg c, m_v (f := 0) (i := 24) (by omega) (by omega), bnd_s, show 26 * 0 + 24 = 24 from rfl, hp, s3, m_common h ho, bnd_s, if_neg (by rw [zI_eqn (by omega) (by omega)]; omega), zI_div (by omega) (by omega) (by omega) (by omega)]
    rfl
