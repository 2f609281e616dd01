/-! trade, marks, tuesday: the class -/
def prN (x : Nat) : Nat → Nat × Nat
  | 0 => (0, 0)
  | i + 1 => if x.testBit i then ((prN x i).1 + (prN x i).2, (prN x i).2 + 1) else ((prN x i).1, 0)
theorem prN_ok (x : Nat) : ∀ n, (prN x n).2 ≤ n ∧ (prN x n).1 ≤ n * n := by
  intro n
  induction n with
  | zero => exact ⟨Nat.le_refl _, Nat.le_refl _⟩
  | succ n ih =>
    have e : (n + 1) * (n + 1) = n * n + n + n + 1 := by rw [Nat.add_mul, Nat.mul_add]; omega
    by_cases c : x.testBit n = true
    · rw [show prN x (n + 1) = ((prN x n).1 + (prN x n).2, (prN x n).2 + 1) from if_pos c]
      show (prN x n).2 + 1 ≤ n + 1 ∧ (prN x n).1 + (prN x n).2 ≤ _
      omega
    · rw [show prN x (n + 1) = ((prN x n).1, 0) from if_neg c]
      show 0 ≤ n + 1 ∧ (prN x n).1 ≤ _
      omega
theorem c_boatPairs {D : Dt} {B : BedT} (hb : BRep D (3 + 1) B) (h8 : B.1 ≤ 8) {x : Nat} (hx : x < 256) : f_Root_boatPairs (zI x) D = some (zI ((prN x B.1).1 : Nat), D) := by
  unfold f_Root_boatPairs lp_Root_boatPairs_7
  obtain ⟨m, hm⟩ := FU_eq (n := B.1 + 1) (by omega)
  rw [hm, show m + (B.1 + 1) = (m + 1) + B.1 by omega]
  obtain ⟨E, -, e⟩ := itr_go (fun _ _ _ _ _ => none) s_Root_boatPairs_7 (fun i (E : Unit) k => k (zI x) (zI ((prN x i).1 : Nat)) (zI ((prN x i).2 : Nat)) (zI i) D) B.1 (fun i E => True)
    (fun i hi E _ => ⟨(), trivial, fun k => by
      unfold s_Root_boatPairs_7 b_Root_boatPairs_43
      rw [hb.1, if_neg (by rw [zI_le (by omega) (by omega) (by omega) (by omega)]; omega), c_hasBit hx (by omega), bnd_s, zo_if, zI_s, zI_s, zI_add]
      by_cases c : x.testBit i = true
      · rw [show prN x (i + 1) = ((prN x i).1 + (prN x i).2, (prN x i).2 + 1) from if_pos c, if_pos c]
        rfl
      · rw [show prN x (i + 1) = ((prN x i).1, 0) from if_neg c, if_neg c]
        rfl⟩)
    () trivial
  refine (e (m + 1)).trans ?_
  rw [itr_s]
  unfold s_Root_boatPairs_7
  rw [hb.1, if_pos ((zI_le (by omega) (by omega) (by omega) (by omega)).mpr (by omega))]
def trB (f : Nat → Nat) : Nat → Nat × Nat
  | 0 => (0, f 0)
  | h + 1 => if (trB f h).2 < f (h + 1) then (h + 1, f (h + 1)) else trB f h
theorem trB_ok {f : Nat → Nat} (hf : ∀ i, f i ≤ 64) : ∀ h, (trB f h).2 ≤ 64 := by
  intro h
  induction h with
  | zero => exact hf 0
  | succ h ih =>
    by_cases c : (trB f h).2 < f (h + 1)
    · rw [show trB f (h + 1) = (h + 1, f (h + 1)) from if_pos c]; exact hf _
    · rw [show trB f (h + 1) = trB f h from if_neg c]; exact ih
abbrev prS (S : SstT) (p h : Nat) : Nat := (prN (cutS S p h) S.2.2.2.1.1.1).1
def sp_trade (v1 : Int32) (S : SstT) : Int32 × SstT := if wi v1 0 255 = true then (if 0 < S.2.2.2.1.1.1 then (zI ((trB (prS S v1.toInt.toNat) 7).1 : Nat), sTell S (zI ((trB (prS S v1.toInt.toNat) 7).2 : Nat))) else (-4, S)) else (-1, S)
theorem prS_ok {S : SstT} (h8 : S.2.2.2.1.1.1 ≤ 8) (p i : Nat) : prS S p i ≤ 64 := by
  have := (prN_ok (cutS S p i) S.2.2.2.1.1.1).2
  have h2 : S.2.2.2.1.1.1 * S.2.2.2.1.1.1 ≤ 8 * 8 := Nat.mul_le_mul h8 h8
  show (prN (cutS S p i) S.2.2.2.1.1.1).1 ≤ 64
  omega
theorem k_trade {D : Dt} {S : SstT} (h : CRep D S) (ho : Ok S) (v1 : Int32) : CDo (f_Root_trade v1 D) D (sp_trade v1 S).1 (sp_trade v1 S).2 := by
  have h8 := ho.2.1.1.1
  unfold f_Root_trade sp_trade
  rw [c_refusedPlan h ho, bnd_s]
  by_cases c : wi v1 0 255 = true
  · by_cases d : 0 < S.2.2.2.1.1.1
    · obtain ⟨p, hp, -, rfl⟩ := wi_nat c (by omega)
      obtain ⟨E, e1, e2, e3, e4⟩ := c_leadAside h ho d (show p < 256 by omega)
      simp only [c, d, if_true, zI_toInt (show -2147483648 ≤ (p : Int) by omega) (show (p : Int) < 2147483648 by omega), Int.toNat_natCast]
      have hcut : ∀ t : Nat, t < 8 → f_Tuesday_cutOffBits (zI t) E = some (zI (cutS S p t : Nat), E) := fun t ht => c_cutOff ht e2 (fun i hi => tW_b ho d p (t + 1) (by omega) hi)
      have hpr : ∀ t : Nat, f_Root_boatPairs (zI (cutS S p t : Nat)) E = some (zI (prS S p t : Nat), E) := fun t => c_boatPairs e3.2.2.2.1.1 h8 (cutN_lt _)
      rw [e1, bnd_s, show (0 : Int32) = zI ((0 : Nat) : Int) from rfl, hcut 0 (by omega), bnd_s, hpr, bnd_s]
      unfold lp_Root_trade_36
      obtain ⟨m, hm⟩ := FU_eq (n := 8) (by omega)
      rw [hm, show m + 8 = (m + 1) + 7 by omega]
      obtain ⟨U, -, e⟩ := itr_go (fun _ _ _ _ => none) s_Root_trade_36 (fun i (U : Unit) k => k (zI ((trB (prS S p) i).1 : Nat)) (zI ((trB (prS S p) i).2 : Nat)) (zI ((i + 1 : Nat) : Int)) E) 7 (fun i U => True)
        (fun i hi U _ => ⟨(), trivial, fun k => by
          have b1 := trB_ok (prS_ok h8 p) i
          have b2 := prS_ok h8 p (i + 1)
          unfold s_Root_trade_36 b_Root_trade_72
          rw [if_neg (by rw [show (8 : Int32) = zI 8 from rfl, zI_le (by omega) (by omega) (by omega) (by omega)]; omega), hcut _ (by omega), bnd_s, hpr, bnd_s, zI_s, if_cg (zI_le (by omega) (by omega) (by omega) (by omega))]
          by_cases c : (trB (prS S p) i).2 < prS S p (i + 1)
          · rw [if_neg (by omega), show trB (prS S p) (i + 1) = (i + 1, prS S p (i + 1)) from if_pos c]
          · rw [if_pos (by omega), show trB (prS S p) (i + 1) = trB (prS S p) i from if_neg c]⟩)
        () trivial
      have e := e (m + 1)
      refine (show CDo (itr (fun _ _ _ _ => none) s_Root_trade_36 (m + 1 + 7) (zI ((0 : Nat) : Int)) (zI (prS S p 0 : Nat)) (zI ((0 + 1 : Nat) : Int)) E) D _ _ from ?_)
      refine (show CDo (itr (fun _ _ _ _ => none) s_Root_trade_36 (m + 1 + 7) (zI ((trB (prS S p) 0).1 : Nat)) (zI ((trB (prS S p) 0).2 : Nat)) (zI ((0 + 1 : Nat) : Int)) E) D _ _ from ?_)
      rw [e, itr_s]
      unfold s_Root_trade_36
      rw [if_pos (by decide)]
      exact (c_tell e3 _ _).bind (fun k hk => e4 k (by omega))
    · simp only [c, d, if_true, if_false]
      rw [if_neg (by decide)]
      exact CDo.same h _
  · simp only [c, if_false, Bool.false_eq_true]
    rw [if_neg (by decide)]
    exact CDo.same h _
/-! marks -/
def mxN (f : Nat → Int) : Nat → Int
  | 0 => 0
  | n + 1 => max (mxN f n) (f n)
theorem mxN_ok {f : Nat → Int} {c : Int} (hc : 0 ≤ c) {n : Nat} (h : ∀ i, i < n → 0 ≤ f i ∧ f i ≤ c) : ∀ k, k ≤ n → 0 ≤ mxN f k ∧ mxN f k ≤ c := by
  intro k
  induction k with
  | zero => intro _; show 0 ≤ (0 : Int) ∧ (0 : Int) ≤ c; omega
  | succ k ih =>
    intro hk
    have := ih (by omega)
    have := h k (by omega)
    show 0 ≤ max (mxN f k) (f k) ∧ max (mxN f k) (f k) ≤ c
    omega
abbrev tM (S : SstT) (p i : Nat) : Int := tdM S.2.2.2.1.1 p S.2.2.2.1.2.1 8 i
theorem tM_b {S : SstT} (ho : Ok S) (hn : 0 < S.2.2.2.1.1.1) (p : Nat) {i : Nat} (hi : i < 8) : 0 ≤ tM S p i ∧ tM S p i ≤ 612 := by
  obtain ⟨o1, o2, o3, ⟨o4, o5, o6⟩, o7, o8⟩ := ho.2.1
  have := tdM_ok o1 hn o4 (by omega) p hi 8
  show 0 ≤ tdM S.2.2.2.1.1 p S.2.2.2.1.2.1 8 i ∧ tdM S.2.2.2.1.1 p S.2.2.2.1.2.1 8 i ≤ 612
  omega
def sp_marks (v1 v2 : Int32) (S : SstT) : Int32 × SstT := if wi v2 0 5 = true ∧ wi v1 0 255 = true then (if 0 < S.2.2.2.1.1.1 then (zI (mxN (tM S v1.toInt.toNat) S.2.2.2.1.1.1), sRow S v2.toInt.toNat (S.2.2.2.1.1.1, fun i => zI (tM S v1.toInt.toNat i))) else (-4, S)) else (-1, S)
/-- Row.takeFrom -/
theorem c_rTake {D : Dt} {S : SstT} (h : CRep D S) {r a n : Nat} (hr : r < 6) (hn : n ≤ 60) (hl : n ≤ ln a) (f : Nat → Int32) (hf : ∀ i, i < n → D a i = f i) (ha : a < 111 ∨ 122 < a) : ∃ D1, f_Row_takeFrom (111 + 2 * r) a (zI n) D = some ((), D1) ∧ CRep D1 (sRow S r (n, f)) ∧ ∀ k, k ≠ 111 + 2 * r → k ≠ 111 + 2 * r + 1 → D1 k = D k := by
  unfold f_Row_takeFrom
  rw [zI_nat (by omega), tc0, if_pos ⟨by decide, by decide, by rw [zI_ltl (by omega) (by omega)]; omega, by omega, by omega⟩, nm_s, nm_s]
  refine ⟨_, rfl, ?_, fun k a b => by rw [wr_ne a, st_ne b]⟩
  refine h.setRow hr ⟨by rw [wr_at, upd_at], fun i hi => ?_⟩ (fun k a b => by rw [wr_ne a, st_ne b])
  have hi : (i : Int) < (n : Int) := hi
  rw [wr_ne (by omega), st_at, cpy0 _ _ _ (by omega)]
  exact hf i (by omega)
theorem c_greatest {D : Dt} {r n : Nat} {f : Nat → Int} (hn : n ≤ 60) (h1 : D (111 + 2 * r) 1 = zI n) (hf : ∀ i, i < n → D (111 + 2 * r + 1) i = zI (f i)) (hb : ∀ i, i < n → 0 ≤ f i ∧ f i ≤ 100000) : f_Row_greatest (111 + 2 * r) D = some (zI (mxN f n), D) := by
  unfold f_Row_greatest lp_Row_greatest_4
  obtain ⟨m, hm⟩ := FU_eq (n := n + 1) (by omega)
  rw [hm, show m + (n + 1) = (m + 1) + n by omega]
  obtain ⟨E, -, e⟩ := itr_go (fun _ _ _ => none) (s_Row_greatest_4 (111 + 2 * r)) (fun i (E : Unit) k => k (zI (mxN f i)) (zI i) D) n (fun i E => True)
    (fun i hi E _ => ⟨(), trivial, fun k => by
      have b1 := mxN_ok (c := 100000) (by omega) hb i (by omega)
      have b2 := hb i hi
      unfold s_Row_greatest_4
      rw [h1, if_neg (by rw [zI_le (by omega) (by omega) (by omega) (by omega)]; omega), if_pos (inb_t (by omega) (by omega) (by omega)), nm_s, zI_nat (by omega), hf i hi, imax_z (by omega) (by omega) (by omega) (by omega), zI_s]
      rfl⟩)
    () trivial
  refine (e (m + 1)).trans ?_
  rw [itr_s]
  unfold s_Row_greatest_4
  rw [h1, if_pos ((zI_le (by omega) (by omega) (by omega) (by omega)).mpr (by omega))]
theorem k_marks {D : Dt} {S : SstT} (h : CRep D S) (ho : Ok S) (v1 v2 : Int32) : CDo (f_Root_marks v1 v2 D) D (sp_marks v1 v2 S).1 (sp_marks v1 v2 S).2 := by
  have h8 := ho.2.1.1.1
  unfold f_Root_marks sp_marks
  rw [c_isRow, bnd_s, zo_if, c_refusedPlan h ho, bnd_s]
  by_cases c0 : wi v2 0 5 = true
  · by_cases c : wi v1 0 255 = true
    · by_cases d : 0 < S.2.2.2.1.1.1
      · obtain ⟨p, hp, -, rfl⟩ := wi_nat c (by omega)
        obtain ⟨r, hr, -, rfl⟩ := wi_nat c0 (by omega)
        obtain ⟨E, e1, e2, e3, e4⟩ := c_leadAside h ho d (show p < 256 by omega)
        simp only [c0, c, d, if_true, and_self, zI_toInt (show -2147483648 ≤ (p : Int) by omega) (show (p : Int) < 2147483648 by omega), zI_toInt (show -2147483648 ≤ (r : Int) by omega) (show (r : Int) < 2147483648 by omega), Int.toNat_natCast]
        have l45 : ln 45 = 8 := by decide +kernel
        obtain ⟨F, f1, f2, f3⟩ := c_rTake e3 (r := r) (a := 45) (n := S.2.2.2.1.1.1) (by omega) (by omega) (by omega) (fun i => zI (tM S p i)) (fun i hi => (e2 8 (by omega)).2.2.2 i hi) (by omega)
        have hrow := f2.1 r (by omega)
        rw [show (sRow S r (((S.2.2.2.1.1.1 : Nat) : Int), fun i => zI (tM S p i))).1 r = (((S.2.2.2.1.1.1 : Nat) : Int), fun i => zI (tM S p i)) from fu_at _ _ _] at hrow
        rw [e1, bnd_s, if_pos (inb_t (by omega) (by omega) (by omega)), if_pos (by decide), zI_nat (by omega), tc8, e3.2.2.2.1.1.1, show 37 + 1 * 8 = 45 from rfl, f1, bnd_s, if_pos (inb_t (by omega) (by omega) (by omega)), c_greatest (n := S.2.2.2.1.1.1) (f := tM S p) (by omega) hrow.1 (fun i hi => hrow.2 i (by show (i : Int) < ((S.2.2.2.1.1.1 : Nat) : Int); omega)) (fun i hi => by have := tM_b ho d p (show i < 8 by omega); omega), bnd_s]
        exact ⟨F, rfl, f2, fun k hk => by rw [f3 k (by omega) (by omega), e4 k (by omega)]⟩
      · simp only [c0, c, d, if_true, if_false, and_self]
        rw [if_neg (by decide)]
        exact CDo.same h _
    · simp only [c0, c, if_true, if_false, Bool.false_eq_true, and_false]
      rw [if_neg (by decide)]
      exact CDo.same h _
  · simp only [c0, if_false, Bool.false_eq_true, false_and]
    exact CDo.same h _
/-! tuesday -/
def strN (x : StrT) (p : Nat) : Nat → StrT
  | 0 => x
  | h + 1 => hourStr (strN x p h) (bt p h)
theorem strN_e (x : StrT) (p : Nat) : ∀ h, (strN x p h).1 = x.1 ∧ (strN x p h).2.1 = tdW x.1 p x.2.1 h ∧ (strN x p h).2.2.1 = x.2.2.1 + h := by
  intro h
  induction h with
  | zero => exact ⟨rfl, rfl, rfl⟩
  | succ h ih =>
    obtain ⟨i1, i2, i3⟩ := ih
    refine ⟨i1, ?_, ?_⟩
    · show hrW (strN x p h).1 (bt p h) (strN x p h).2.1 = hrW x.1 (bt p h) (tdW x.1 p x.2.1 h)
      rw [i1, i2]
    · show (strN x p h).2.2.1 + 1 = x.2.2.1 + (h + 1)
      rw [i3]; omega
theorem strN_ok {x : StrT} (h : StrOk x) (hn : 0 < x.1.1) (p : Nat) : ∀ k, x.2.2.1 + k ≤ 60 → StrOk (strN x p k) := by
  intro k
  induction k with
  | zero => intro _; exact h
  | succ k ih =>
    intro hk
    obtain ⟨i1, i2, i3⟩ := strN_e x p k
    exact hourStr_ok (ih (by omega)) (by rw [i1]; exact hn) (by rw [i3]; omega) (bt_01 p k)
def sp_tuesday (v1 : Int32) (S : SstT) : Int32 × SstT := if wi v1 0 255 = true then (if 0 < S.2.2.2.1.1.1 then (if S.2.2.2.1.2.2.1 + 8 ≤ 60 then (zI (tdH S.2.2.2.1.1 v1.toInt.toNat S.2.2.2.1.2.1 8), sStr S (strN S.2.2.2.1 v1.toInt.toNat 8)) else (-2, S)) else (-4, S)) else (-1, S)
theorem k_tuesday {D : Dt} {S : SstT} (h : CRep D S) (ho : Ok S) (v1 : Int32) : CDo (f_Root_tuesday v1 D) D (sp_tuesday v1 S).1 (sp_tuesday v1 S).2 := by
  unfold f_Root_tuesday sp_tuesday
  rw [c_refusedPlan h ho, bnd_s]
  by_cases c : wi v1 0 255 = true
  · by_cases d : 0 < S.2.2.2.1.1.1
    · simp only [c, d, if_true]
      rw [show (8 : Int32) = zI ((8 : Nat) : Int) from rfl, c_hasRoomFor h ho 8 (by omega), bnd_s, zo_if]
      by_cases g : S.2.2.2.1.2.2.1 + 8 ≤ 60
      · obtain ⟨p, hp, -, rfl⟩ := wi_nat c (by omega)
        simp only [g, if_true, zI_toInt (show -2147483648 ≤ (p : Int) by omega) (show (p : Int) < 2147483648 by omega), Int.toNat_natCast]
        unfold lp_Root_tuesday_32
        obtain ⟨m, hm⟩ := FU_eq (n := 9) (by omega)
        rw [hm, show m + 9 = (m + 1) + 8 by omega]
        obtain ⟨E, ⟨g1, g2⟩, e⟩ := itr_go (fun _ _ _ _ => none) s_Root_tuesday_32 (fun i (E : Dt) k => k (zI p) (zI (tdH S.2.2.2.1.1 p S.2.2.2.1.2.1 i)) (zI i) E) 8 (fun i (E : Dt) => CStr E 3 (strN S.2.2.2.1 p i) ∧ ∀ k, (k < 3 ∨ 17 < k) → E k = D k)
          (fun i hi E z => by
            obtain ⟨z1, z2⟩ := z
            obtain ⟨i1, i2, i3⟩ := strN_e S.2.2.2.1 p i
            have ok := strN_ok ho.2.1 d p i (by omega)
            obtain ⟨F, f1, f2, f3, f4⟩ := c_strPass z1 ok (by rw [i1]; exact d) (by rw [i3]; omega) (bt_01 p i)
            refine ⟨F, ⟨f2, fun k hk => by rw [f4 k hk, z2 k hk]⟩, fun k => ?_⟩
            unfold s_Root_tuesday_32
            have hh := c_harmOf (w := 3 + 7) (b := 3 + 1) (B := (strN S.2.2.2.1 p i).1) f2.1 ok.1 (fun j hj => f3 j hj)
            rw [if_neg (by rw [show (8 : Int32) = zI 8 from rfl, zI_le (by omega) (by omega) (by omega) (by omega)]; omega), bt_z (by omega) hi, f1, bnd_s, hh, bnd_s, zI_add, zI_s, i1, i2]
            rfl)
          D ⟨h.2.2.2.1, fun _ _ => rfl⟩
        have e := e (m + 1)
        refine (show CDo (itr (fun _ _ _ _ => none) s_Root_tuesday_32 (m + 1 + 8) (zI p) (zI (tdH S.2.2.2.1.1 p S.2.2.2.1.2.1 0)) (zI ((0 : Nat) : Int)) D) D _ _ from ?_)
        rw [e, itr_s]
        unfold s_Root_tuesday_32
        rw [if_pos (by decide)]
        exact ⟨E, rfl, h.setStr g1 (fun k _ hk => g2 k hk), fun k hk => g2 k (by omega)⟩
      · simp only [g, if_false]
        exact CDo.same h _
    · simp only [c, d, if_true, if_false]
      rw [if_neg (by decide)]
      exact CDo.same h _
  · simp only [c, if_false, Bool.false_eq_true]
    rw [if_neg (by decide)]
    exact CDo.same h _
