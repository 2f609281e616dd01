/-! loops that stop at the first -/
def anyB (f : Nat → Bool) : Nat → Bool
  | 0 => false
  | n + 1 => anyB f n || f n
theorem anyB_st {f : Nat → Bool} {n : Nat} (h : anyB f n = true) : ∀ k, anyB f (n + k) = true := by
  intro k
  induction k with
  | zero => exact h
  | succ k ih => show (anyB f (n + k) || f (n + k)) = true; rw [ih, Bool.true_or]
theorem anyB_c {f g : Nat → Bool} {n : Nat} (h : ∀ i, i < n → f i = g i) : anyB f n = anyB g n := by
  induction n with
  | zero => rfl
  | succ n ih => show (anyB f n || f n) = (anyB g n || g n); rw [ih (fun i hi => h i (by omega)), h n (by omega)]
theorem anyB_f {f : Nat → Bool} {n : Nat} (h : anyB f n = false) : ∀ i, i < n → f i = false := by
  induction n with
  | zero => intro i hi; omega
  | succ n ih =>
    intro i hi
    have h' : (anyB f n || f n) = false := h
    rw [Bool.or_eq_false_iff] at h'
    by_cases c : i = n
    · subst c; exact h'.2
    · exact ih h'.1 i (by omega)
theorem itr_any {τ ρ : Type} (bot : τ) (F : τ → τ) (ap : Nat → τ → ρ) (N : Nat) (f : Nat → Bool) (R1 R0 : ρ) (h1 : ∀ i, i < N → ∀ k, ap i (F k) = if f i = true then R1 else ap (i + 1) k) (h0 : ∀ k, ap N (F k) = R0) (m : Nat) : ap 0 (itr bot F (m + 1 + N)) = if anyB f N = true then R1 else R0 := by
  have go : ∀ d i, i + d = N → anyB f i = false → ap i (itr bot F (m + 1 + d)) = if anyB f N = true then R1 else R0 := by
    intro d
    induction d with
    | zero =>
      intro i e c
      obtain rfl : i = N := by omega
      rw [Nat.add_zero, itr_s, h0, c]; rfl
    | succ d ih =>
      intro i e c
      rw [show m + 1 + (d + 1) = (m + 1 + d) + 1 by omega, itr_s, h1 i (by omega)]
      by_cases g : f i = true
      · have : anyB f (i + 1) = true := by show (anyB f i || f i) = true; rw [g, Bool.or_true]
        have := anyB_st this d
        rw [show i + 1 + d = N by omega] at this
        rw [if_pos g, if_pos this]
      · rw [if_neg g]
        exact ih (i + 1) (by omega) (by show (anyB f i || f i) = false; rw [c]; simpa using g)
  exact go N 0 (by omega) rfl
/-- some place of a row is not within -/
def nwB (w : RwT) (a b : Int) : Bool := anyB (fun i => !(wi (w.2 i) a b)) w.1.toNat
theorem c_allWithin {D : Dt} {S : SstT} (h : CRep D S) (ho : Ok1 S) {r : Nat} (hr : r < 6) (hn : 0 ≤ (S.1 r).1) (a b : Int32) : f_Row_isAllWithin (111 + 2 * r) a b D = some (if nwB (S.1 r) a.toInt b.toInt = true then 0 else 1, D) := by
  obtain ⟨g1, g2⟩ := h.1 r hr
  have hz := ho.1 r hr
  unfold rwOk at hz
  unfold f_Row_isAllWithin lp_Row_isAllWithin_2 nwB
  obtain ⟨m, hm⟩ := FU_eq (n := (S.1 r).1.toNat + 1) (by omega)
  rw [hm, show m + ((S.1 r).1.toNat + 1) = m + 1 + (S.1 r).1.toNat by omega]
  have e := itr_any (fun _ _ _ _ => none) (s_Row_isAllWithin_2 (111 + 2 * r)) (fun i k => k a b (zI i) D) (S.1 r).1.toNat (fun i => !(wi ((S.1 r).2 i) a.toInt b.toInt)) (some (0, D)) (some (1, D))
    (fun i hi k => by
      show s_Row_isAllWithin_2 (111 + 2 * r) k a b (zI i) D = _
      unfold s_Row_isAllWithin_2
      rw [g1, if_neg (by rw [zI_le (by omega) (by omega) (by omega) (by omega)]; omega), if_pos (inb_t (by omega) (by omega) (by omega)), zI_nat (by omega), g2 i (by omega), c_isWithin, bnd_s, zo_if, zI_s]
      by_cases c : wi ((S.1 r).2 i) a.toInt b.toInt = true
      · simp [c]
      · simp [c])
    (fun k => by
      show s_Row_isAllWithin_2 (111 + 2 * r) k a b (zI ((S.1 r).1.toNat : Nat)) D = _
      unfold s_Row_isAllWithin_2
      rw [g1, if_pos (by rw [zI_le (by omega) (by omega) (by omega) (by omega)]; omega)]) m
  refine (show itr (fun _ _ _ _ => none) (s_Row_isAllWithin_2 (111 + 2 * r)) (m + 1 + (S.1 r).1.toNat) a b (zI ((0 : Nat) : Int)) D = _ from e.trans ?_)
  by_cases c : anyB (fun i => !(wi ((S.1 r).2 i) a.toInt b.toInt)) (S.1 r).1.toNat = true
  · rw [if_pos c, if_pos c]
  · rw [if_neg c, if_neg c]
/-! calendar -/
def calB (d p s x : Int) : Bool := decide ((x + d / p * s) % p = d % p)
def sp_calendar (v1 v2 v3 v4 : Int32) (S : SstT) : Int32 × SstT := if wi v1 0 9999 = true ∧ wi v2 1 30 = true ∧ wi v3 0 5 = true ∧ wi v4 (-9) 9 = true then (if (S.1 v3.toInt.toNat).1 = -1 then (-3, sFind S 1) else if nwB (S.1 v3.toInt.toNat) 0 (v2.toInt - 1) = true then (-3, sFind S 3) else (if anyB (fun i => calB v1.toInt v2.toInt v4.toInt ((S.1 v3.toInt.toNat).2 i).toInt) (S.1 v3.toInt.toNat).1.toNat = true then 1 else 0, S)) else (-1, S)
