/-! the best plan: by number (the model) and by rank (the class) -/
def bsN (P : Nat → Bool) (K : Nat → Int) : Nat → Option Nat
  | 0 => none
  | p + 1 => match bsN P K p with
    | none => if P p then some p else none
    | some b => if P p && decide (K p < K b) then some p else some b
theorem bsN_spec (P : Nat → Bool) (K : Nat → Int) : ∀ n, (bsN P K n = none → ∀ p, p < n → P p = false) ∧ ∀ b, bsN P K n = some b → b < n ∧ P b = true ∧ ∀ p, p < n → P p = true → K b < K p ∨ (K b = K p ∧ b ≤ p) := by
  intro n
  induction n with
  | zero => exact ⟨fun _ p hp => by omega, fun b hb => by cases hb⟩
  | succ n ih =>
    obtain ⟨i1, i2⟩ := ih
    have e : bsN P K (n + 1) = match bsN P K n with
      | none => if P n then some n else none
      | some b => if P n && decide (K n < K b) then some n else some b := rfl
    cases hc : bsN P K n with
    | none =>
      rw [hc] at e
      simp only at e
      by_cases c : P n = true
      · rw [if_pos c] at e
        refine ⟨(fun q => by rw [e] at q; cases q), fun b hb => ?_⟩
        rw [e] at hb
        obtain rfl : n = b := by injection hb
        refine ⟨by omega, c, fun p hp hP => ?_⟩
        by_cases d : p = n
        · subst d; exact Or.inr ⟨rfl, Nat.le_refl _⟩
        · rw [i1 hc p (by omega)] at hP; cases hP
      · rw [if_neg c] at e
        refine ⟨fun _ p hp => ?_, fun b hb => by rw [e] at hb; cases hb⟩
        by_cases d : p = n
        · subst d; simpa using c
        · exact i1 hc p (by omega)
    | some b =>
      rw [hc] at e
      simp only at e
      obtain ⟨j1, j2, j3⟩ := i2 b hc
      by_cases c : P n = true ∧ K n < K b
      · rw [if_pos (by simp [c.1, c.2])] at e
        refine ⟨(fun q => by rw [e] at q; cases q), fun b' hb => ?_⟩
        rw [e] at hb
        obtain rfl : n = b' := by injection hb
        refine ⟨by omega, c.1, fun p hp hP => ?_⟩
        by_cases d : p = n
        · subst d; exact Or.inr ⟨rfl, Nat.le_refl _⟩
        · rcases j3 p (by omega) hP with z | z
          · exact Or.inl (by omega)
          · exact Or.inl (by omega)
      · rw [if_neg (by simpa using c)] at e
        refine ⟨(fun q => by rw [e] at q; cases q), fun b' hb => ?_⟩
        rw [e] at hb
        obtain rfl : b = b' := by injection hb
        refine ⟨by omega, j2, fun p hp hP => ?_⟩
        by_cases d : p = n
        · subst d
          have : ¬ K p < K b := fun q => c ⟨hP, q⟩
          by_cases z : K b < K p
          · exact Or.inl z
          · exact Or.inr ⟨by omega, by omega⟩
        · exact j3 p (by omega) hP
/-- the plans in the class's order -/
def mirH (n : Nat) : Nat → Nat
  | 0 => 0
  | h + 1 => mirH n h ||| (if n.testBit h then 2 ^ (7 - h) else 0)
theorem mir_d : ∀ n : Nat, n < 256 → mirH n 8 < 256 ∧ mirH (mirH n 8) 8 = n ∧ ∀ h : Nat, h < 9 → mirH n h < 256 := by decide +kernel
theorem c_mirrored {D : Dt} {n : Nat} (hn : n < 256) : f_Root_mirrored (zI n) D = some (zI (mirH n 8 : Nat), D) := by
  unfold f_Root_mirrored lp_Root_mirrored_4
  obtain ⟨m, hm⟩ := FU_eq (n := 9) (by omega)
  rw [hm, show m + 9 = (m + 1) + 8 by omega]
  obtain ⟨E, -, e⟩ := itr_go (fun _ _ _ _ => none) s_Root_mirrored_4 (fun i (E : Unit) k => k (zI n) (zI (mirH n i : Nat)) (zI i) D) 8 (fun i E => True)
    (fun i hi E _ => ⟨(), trivial, fun k => by
      have hl := (mir_d n hn).2.2 i (by omega)
      have hp : 2 ^ (7 - i) < 2147483648 := Nat.lt_of_lt_of_le (Nat.pow_lt_pow_right (n := 8) (by omega) (by omega)) (by omega)
      unfold s_Root_mirrored_4 b_Root_mirrored_27
      rw [if_neg (by rw [show (8 : Int32) = zI 8 from rfl, zI_le (by omega) (by omega) (by omega) (by omega)]; omega), c_hasBit hn hi, bnd_s, zo_if, nm_s, show (7 : Int32) = zI 7 from rfl, zI_sub, show (7 : Int) - (i : Int) = ((7 - i : Nat) : Int) by omega, shl_d (7 - i) (by omega), zI_or (by omega) hp, zI_s]
      by_cases c : n.testBit i = true
      · rw [if_pos c, show mirH n (i + 1) = mirH n i ||| 2 ^ (7 - i) from by show mirH n i ||| (if n.testBit i = true then 2 ^ (7 - i) else 0) = _; rw [if_pos c]]
      · rw [if_neg c, show mirH n (i + 1) = mirH n i from by show mirH n i ||| (if n.testBit i = true then 2 ^ (7 - i) else 0) = _; rw [if_neg c, Nat.or_zero]]⟩)
    () trivial
  refine (e (m + 1)).trans ?_
  rw [itr_s]
  unfold s_Root_mirrored_4
  rw [if_pos (by decide)]
/-! longs -/
def zL (z : Int) : Int64 := Int64.ofInt z
theorem zL_toInt {z : Int} (h1 : -9223372036854775808 ≤ z) (h2 : z < 9223372036854775808) : (zL z).toInt = z := Int64.toInt_ofInt_of_le (by omega) (by omega)
theorem zL_add (a b : Int) : zL a + zL b = zL (a + b) := (Int64.ofInt_add a b).symm
theorem zL_mul (a b : Int) : zL a * zL b = zL (a * b) := (Int64.ofInt_mul a b).symm
theorem zL_of {a : Int} (h1 : -2147483648 ≤ a) (h2 : a < 2147483648) : (zI a).toInt64 = zL a := by
  apply Int64.toInt_inj.mp
  rw [i64_i, zI_toInt h1 h2, zL_toInt (by omega) (by omega)]
theorem zL_min {a b : Int} (ha : -1000000000000000 ≤ a ∧ a ≤ 1000000000000000) (hb : -1000000000000000 ≤ b ∧ b ≤ 1000000000000000) : lmin (zL a) (zL b) = zL (min a b) := by
  unfold lmin
  have e : (zL b < zL a) ↔ b < a := by rw [Int64.lt_iff_toInt_lt, zL_toInt (by omega) (by omega), zL_toInt (by omega) (by omega)]
  by_cases c : b < a
  · rw [if_pos (e.mpr c), show min a b = b by omega]
  · rw [if_neg (fun q => c (e.mp q)), show min a b = a by omega]
theorem c_rank {a b : Int} {p : Nat} (ha : -100000 ≤ a ∧ a ≤ 100000) (hb : -100000 ≤ b ∧ b ≤ 100000) (hp : p < 256) (D : Dt) : f_Root_rank (zI a) (zI b) (zI p) D = some (zL ((a * 100000 + b) * 256 + p), D) := by
  unfold f_Root_rank
  rw [zL_of (by omega) (by omega), zL_of (by omega) (by omega), zL_of (by omega) (by omega), show (100000 : Int64) = zL 100000 from rfl, show (256 : Int64) = zL 256 from rfl, zL_mul, zL_add, zL_mul, zL_add]
theorem c_planOf {r : Int} {p : Nat} (hr : -1000000000000000 ≤ r ∧ r ≤ 1000000000000000) (hp : p < 256) (K : Int) (e : r = K * 256 + p) (D : Dt) : f_Root_planOfRank (zL r) D = some (zI p, D) := by
  unfold f_Root_planOfRank
  have h : ((zL r) &&& 255).toBitVec.toNat = p := by
    rw [Int64.toBitVec_and, BitVec.toNat_and, show (255 : Int64).toBitVec.toNat = 2 ^ 8 - 1 from by decide, Nat.and_two_pow_sub_one_eq_mod]
    show (BitVec.ofInt 64 r).toNat % 2 ^ 8 = p
    rw [BitVec.toNat_ofInt]
    have h1 : r % ((2 ^ 64 : Nat) : Int) % 256 = (p : Int) := by
      rw [Int.emod_emod_of_dvd r (by decide), e]; omega
    have h2 : 0 ≤ r % ((2 ^ 64 : Nat) : Int) := Int.emod_nonneg _ (by decide)
    omega
  have h3 : (zL r &&& 255) = zL p := by
    apply Int64.toBitVec_inj.mp
    apply BitVec.eq_of_toNat_eq
    rw [h]
    show p = (BitVec.ofInt 64 (p : Int)).toNat
    rw [BitVec.ofInt_natCast, BitVec.toNat_ofNat, Nat.mod_eq_of_lt (by omega)]
  rw [h3]
  congr 2
  apply Int32.toInt_inj.mp
  rw [Int64.toInt_toInt32, zL_toInt (by omega) (by omega), zI_toInt (by omega) (by omega)]
  exact Int.bmod_eq_of_le (by omega) (by omega)
/-- what the class's rank tells on the way -/
def RkI (P : Nat → Bool) (K : Nat → Int) (i : Nat) (r : Int) : Prop := (r = 1000000000000000 ∨ ∃ p, p < 256 ∧ P p = true ∧ r = K p * 256 + p) ∧ (∀ n, n < i → P (mirH n 8) = true → r ≤ K (mirH n 8) * 256 + (mirH n 8 : Nat)) ∧ -1000000000000000 ≤ r ∧ r ≤ 1000000000000000
theorem RkI.step {P : Nat → Bool} {K : Nat → Int} {i : Nat} {r : Int} (h : RkI P K i r) (hi : i < 256) (hK : ∀ p, p < 256 → -100000000000 ≤ K p ∧ K p ≤ 100000000000) : RkI P K (i + 1) (if P (mirH i 8) = true then min r (K (mirH i 8) * 256 + (mirH i 8 : Nat)) else r) := by
  obtain ⟨h1, h2, h3⟩ := h
  have hm := (mir_d i hi).1
  have hk := hK _ hm
  by_cases c : P (mirH i 8) = true
  · rw [if_pos c]
    refine ⟨?_, fun n hn hP => ?_, by omega, by omega⟩
    · by_cases d : r ≤ K (mirH i 8) * 256 + (mirH i 8 : Nat)
      · rw [Int.min_eq_left d]; exact h1
      · rw [Int.min_eq_right (by omega)]; exact Or.inr ⟨_, hm, c, rfl⟩
    · by_cases d : n = i
      · subst d; exact Int.min_le_right _ _
      · exact Int.le_trans (Int.min_le_left _ _) (h2 n (by omega) hP)
  · rw [if_neg c]
    refine ⟨h1, fun n hn hP => ?_, h3⟩
    by_cases d : n = i
    · subst d; exact absurd hP c
    · exact h2 n (by omega) hP
theorem RkI.fin {P : Nat → Bool} {K : Nat → Int} {r : Int} {N : Nat} (hN : N = 256) (h : RkI P K N r) (hK : ∀ p, p < 256 → -100000000000 ≤ K p ∧ K p ≤ 100000000000) : (bsN P K N = none → r = 1000000000000000) ∧ ∀ b, bsN P K N = some b → b < 256 ∧ P b = true ∧ r = K b * 256 + b := by
  obtain ⟨h1, h2, h3⟩ := h
  have h2' : ∀ p : Nat, p < 256 → P p = true → r ≤ K p * 256 + p := fun p hp hP => by
    have := mir_d p hp
    have := h2 (mirH p 8) (by omega) (by rw [this.2.1]; exact hP)
    rw [(mir_d p hp).2.1] at this
    exact this
  obtain ⟨s1, s2⟩ := bsN_spec P K N
  refine ⟨fun hc => ?_, fun b hc => ?_⟩
  · rcases h1 with q | ⟨p, q1, q2, q3⟩
    · exact q
    · rw [s1 hc p (by omega)] at q2; cases q2
  · obtain ⟨b1, b2, b3⟩ := s2 b hc
    refine ⟨by omega, b2, ?_⟩
    have hb := h2' b (by omega) b2
    have hkb := hK b (by omega)
    rcases h1 with q | ⟨p, q1, q2, q3⟩
    · omega
    · rcases b3 p (by omega) q2 with z | ⟨z1, z2⟩ <;> omega
