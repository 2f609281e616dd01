/-! done: the jobs by when they are due -/
def ipsN (du : Nat → Int) (P : Nat → Nat) (x : Nat) : Nat → Nat
  | 0 => 0
  | i + 1 => if du (P i) ≤ du x then i + 1 else ipsN du P x i
def insA (P : Nat → Nat) (i m x : Nat) : Nat → Nat := fun j => if j < i then P j else if j = i then x else if j ≤ m then P (j - 1) else j
def srtF (du : Nat → Int) : Nat → Nat → Nat
  | 0 => fun j => j
  | m + 1 => insA (srtF du m) (ipsN du (srtF du m) (m + 1) (m + 1)) (m + 1) (m + 1)
theorem ipsN_ok (du : Nat → Int) (P : Nat → Nat) (x : Nat) : ∀ k, ipsN du P x k ≤ k ∧ (∀ i, ipsN du P x k = i + 1 → du (P i) ≤ du x) ∧ ∀ j, ipsN du P x k ≤ j → j < k → du x < du (P j) := by
  intro k
  induction k with
  | zero => exact ⟨Nat.le_refl _, fun i q => (by cases q), fun j _ q => by omega⟩
  | succ k ih =>
    obtain ⟨i1, i2, i3⟩ := ih
    rw [show ipsN du P x (k + 1) = if du (P k) ≤ du x then k + 1 else ipsN du P x k from rfl]
    by_cases c : du (P k) ≤ du x
    · rw [if_pos c]
      refine ⟨Nat.le_refl _, fun i q => ?_, fun j q r => by omega⟩
      rw [← show k = i by omega]; exact c
    · rw [if_neg c]
      refine ⟨by omega, i2, fun j q r => ?_⟩
      by_cases d : j = k
      · subst d; omega
      · exact i3 j q (by omega)
def lxP (du : Nat → Int) (a b : Nat) : Prop := du a < du b ∨ (du a = du b ∧ a < b)
def SrtOk (du : Nat → Int) (n : Nat) (p : Nat → Nat) : Prop := (∀ a, a < n → p a < n) ∧ (∀ a b, a < b → b < n → lxP du (p a) (p b)) ∧ ∀ v, v < n → ∃ a, a < n ∧ p a = v
theorem insA_lt {P : Nat → Nat} {i m x j : Nat} (h : j < i) : insA P i m x j = P j := if_pos h
theorem insA_eq {P : Nat → Nat} {i m x : Nat} : insA P i m x i = x := by unfold insA; rw [if_neg (by omega), if_pos rfl]
theorem insA_gt {P : Nat → Nat} {i m x j : Nat} (h : i < j) (h2 : j ≤ m) : insA P i m x j = P (j - 1) := by unfold insA; rw [if_neg (by omega), if_neg (by omega), if_pos h2]
theorem insA_out {P : Nat → Nat} {i m x j : Nat} (h : i ≤ m) (h2 : m < j) : insA P i m x j = j := by unfold insA; rw [if_neg (by omega), if_neg (by omega), if_neg (by omega)]
theorem srt_ok (du : Nat → Int) : ∀ m, SrtOk du (m + 1) (srtF du m) ∧ ∀ j, m < j → srtF du m j = j := by
  intro m
  induction m with
  | zero => exact ⟨⟨fun a h => h, fun a b q r => by omega, fun v h => ⟨v, h, rfl⟩⟩, fun j _ => rfl⟩
  | succ m ih =>
    obtain ⟨⟨h1, h2, h3⟩, h4⟩ := ih
    obtain ⟨i1, i2, i3⟩ := ipsN_ok du (srtF du m) (m + 1) (m + 1)
    rw [show srtF du (m + 1) = insA (srtF du m) (ipsN du (srtF du m) (m + 1) (m + 1)) (m + 1) (m + 1) from rfl]
    generalize ipsN du (srtF du m) (m + 1) (m + 1) = i at *
    generalize srtF du m = P at *
    refine ⟨⟨fun a ha => ?_, fun a b hab hb => ?_, fun v hv => ?_⟩, fun j hj => insA_out i1 hj⟩
    · by_cases c : a < i
      · rw [insA_lt c]; have := h1 a (by omega); omega
      · by_cases d : a = i
        · subst d; rw [insA_eq]; omega
        · rw [insA_gt (by omega) (by omega)]; have := h1 (a - 1) (by omega); omega
    · by_cases c : b < i
      · rw [insA_lt c, insA_lt (by omega)]; exact h2 a b hab (by omega)
      · by_cases d : b = i
        · subst d
          rw [insA_eq, insA_lt hab]
          obtain ⟨b', rfl⟩ : ∃ b', b = b' + 1 := ⟨b - 1, by omega⟩
          have e := i2 b' rfl
          have ha := h1 a (by omega)
          have e2 : du (P a) ≤ du (P b') := by
            by_cases z : a = b'
            · subst z; exact Int.le_refl _
            · rcases h2 a b' (by omega) (by omega) with q | q <;> omega
          unfold lxP
          by_cases z : du (P a) < du (m + 1)
          · exact Or.inl z
          · exact Or.inr ⟨by omega, by omega⟩
        · rw [insA_gt (show i < b by omega) (by omega)]
          by_cases f : a < i
          · rw [insA_lt f]; exact h2 a (b - 1) (by omega) (by omega)
          · by_cases g : a = i
            · subst g
              rw [insA_eq]
              exact Or.inl (i3 (b - 1) (by omega) (by omega))
            · rw [insA_gt (by omega) (by omega)]; exact h2 (a - 1) (b - 1) (by omega) (by omega)
    · by_cases c : v = m + 1
      · exact ⟨i, by omega, by rw [insA_eq, c]⟩
      · obtain ⟨a, a1, a2⟩ := h3 v (by omega)
        by_cases d : a < i
        · exact ⟨a, by omega, by rw [insA_lt d]; exact a2⟩
        · exact ⟨a + 1, by omega, by rw [insA_gt (by omega) (by omega)]; exact a2⟩
/-- in time: so much time behind so many, in that order -/
def ttF (tk : Nat → Int) (p : Nat → Nat) (u : Nat) : Nat → Int
  | 0 => 0
  | a + 1 => ttF tk p u a + (if u.testBit (p a) = true then tk (p a) else 0)
def flF (tk du : Nat → Int) (p : Nat → Nat) (u a : Nat) : Bool := u.testBit (p a) && decide (du (p a) < ttF tk p u (a + 1))
def itF (n : Nat) (tk du : Nat → Int) (u : Nat) : Bool := !(anyB (flF tk du (srtF du (n - 1)) u) n)
def dnB (it : Nat → Bool) : Nat → Nat
  | 0 => 0
  | k + 1 => if popc (dnB it k) < popc (k + 1) ∧ it (k + 1) = true then k + 1 else dnB it k
theorem dnB_b (it : Nat → Bool) : ∀ k, dnB it k ≤ k := by
  intro k
  induction k with
  | zero => exact Nat.le_refl _
  | succ k ih =>
    show (if popc (dnB it k) < popc (k + 1) ∧ it (k + 1) = true then k + 1 else dnB it k) ≤ k + 1
    by_cases c : popc (dnB it k) < popc (k + 1) ∧ it (k + 1) = true
    · rw [if_pos c]; exact Nat.le_refl _
    · rw [if_neg c]; omega
def dnV (S : SstT) (a b : Nat) : Nat := dnB (itF (jN S a) (jT S a) (jT S b)) (2 ^ jN S a - 1)
def sp_done (v1 v2 : Int32) (S : SstT) : Int32 × SstT := if (rfJb v1 v2 S).1 = 0 then (zI (popc (dnV S v1.toInt.toNat v2.toInt.toNat) : Nat), sTell S (zI (dnV S v1.toInt.toNat v2.toInt.toNat : Nat))) else rfJb v1 v2 S
theorem ttF_b {n : Nat} {tk du : Nat → Int} (hj : JbOk n tk du) {p : Nat → Nat} (hp : ∀ a, a < n → p a < n) (u : Nat) : ∀ a : Nat, a ≤ n → 0 ≤ ttF tk p u a ∧ ttF tk p u a ≤ 24 * a := by
  intro a
  induction a with
  | zero => intro _; exact ⟨Int.le_refl _, Int.le_refl _⟩
  | succ a ih =>
    intro h
    have i := ih (by omega)
    have b := hj.2 (p a) (hp a (by omega))
    show 0 ≤ ttF tk p u a + (if u.testBit (p a) = true then tk (p a) else 0) ∧ ttF tk p u a + (if u.testBit (p a) = true then tk (p a) else 0) ≤ _
    by_cases c : u.testBit (p a) = true
    · rw [if_pos c]; omega
    · rw [if_neg c]; omega
theorem c_isInTime {D : Dt} {n : Nat} {tk du : Nat → Int} {p : Nat → Nat} (hj : JbOk n tk du) (hd : JbC D n tk du) (h : OrF D n p) {u : Nat} (hu : u < 64) : f_Jobs_isInTime (zI u) D = some (if anyB (flF tk du p u) n = true then 0 else 1, D) := by
  have h6 := hj.1
  unfold f_Jobs_isInTime lp_Jobs_isInTime_4
  obtain ⟨M, hM⟩ := FU_eq (n := n + 1) (by omega)
  rw [hM, show M + (n + 1) = M + 1 + n by omega]
  have e := itr_any (fun _ _ _ _ => none) s_Jobs_isInTime_4 (fun i k => k (zI u) (zI (ttF tk p u i)) (zI i) D) n (flF tk du p u) (some (0, D)) (some (1, D))
    (fun i hi k => by
      show s_Jobs_isInTime_4 k (zI u) (zI (ttF tk p u i)) (zI i) D = if flF tk du p u i = true then some (0, D) else k (zI u) (zI (ttF tk p u (i + 1))) (zI ((i + 1 : Nat) : Int)) D
      obtain ⟨o1, o2⟩ := h i hi
      have hb := hj.2 (p i) o2
      have tb := ttF_b hj (fun a ha => (h a ha).2) u i (by omega)
      have ip : inb (zI (p i : Nat)) 6 = true := inb_t (by omega) (by omega) (by omega)
      unfold s_Jobs_isInTime_4 b_Jobs_isInTime_52 flF
      rw [hd.1, if_neg (by rw [zI_le (by omega) (by omega) (by omega) (by omega)]; omega), if_pos (inb_t (by omega) (by omega) (by omega)), zI_nat (by omega), o1, c_hasBit (by omega) (by omega), bnd_s, zo_if, if_pos ip, nm_s, if_pos ip, zI_nat (by omega), (hd.2 _ o2).1, (hd.2 _ o2).2, zI_add, if_cg (zI_le (by omega) (by omega) (by omega) (by omega)), zI_s, show ttF tk p u (i + 1) = ttF tk p u i + (if u.testBit (p i) = true then tk (p i) else 0) from rfl]
      by_cases c : u.testBit (p i) = true
      · rw [if_pos c, if_pos c, c]
        by_cases g : du (p i) < ttF tk p u i + tk (p i)
        · rw [if_neg (by omega), if_pos (by rw [Bool.true_and]; exact decide_eq_true g)]
        · rw [if_pos (by omega), if_neg (by rw [Bool.true_and]; exact fun q => g (of_decide_eq_true q))]
      · rw [if_neg c, if_neg c, Int.add_zero, if_neg (by rw [Bool.eq_false_iff.mpr c, Bool.false_and]; decide)])
    (fun k => by
      show s_Jobs_isInTime_4 k (zI u) (zI (ttF tk p u n)) (zI (n : Nat)) D = _
      unfold s_Jobs_isInTime_4
      rw [hd.1, if_pos ((zI_le (by omega) (by omega) (by omega) (by omega)).mpr (by omega))]) M
  refine (show itr (fun _ _ _ _ => none) s_Jobs_isInTime_4 (M + 1 + n) (zI u) (zI (ttF tk p u 0)) (zI ((0 : Nat) : Int)) D = _ from e.trans ?_)
  by_cases c : anyB (flF tk du p u) n = true
  · rw [if_pos c, if_pos c]
  · rw [if_neg c, if_neg c]
/-- inserting one -/
theorem c_insert {n : Nat} {tk du : Nat → Int} (hj : JbOk n tk du) {P : Nat → Nat} {m : Nat} (hm : m < n) (hP : ∀ a, a < m → P a < m) : ∀ (i : Nat) (D : Dt) (N : Nat), i ≤ m → JbC D n tk du → OrF D n (insA P i m m) →
    ∃ D1, (∀ k2 : Int32 → Dt → Option (Unit × Dt), itr (fun _ _ _ => none) (s_Jobs_orderByDue_12 k2) (N + i + 1) (zI m) (zI i) D = k2 (zI ((m + 1 : Nat) : Int)) D1) ∧ OrF D1 n (insA P (ipsN du P m i) m m) ∧ ∀ k, k ≠ 107 → D1 k = D k := by
  have h6 := hj.1
  intro i
  induction i with
  | zero =>
    intro D N hi hd h
    refine ⟨D, fun k2 => ?_, h, fun _ _ => rfl⟩
    rw [Nat.add_zero, itr_s]
    unfold s_Jobs_orderByDue_12 b_Jobs_orderByDue_57
    rw [if_pos (by decide), zI_s]
  | succ i ih =>
    intro D N hi hd h
    rw [show ipsN du P m (i + 1) = if du (P i) ≤ du m then i + 1 else ipsN du P m i from rfl]
    have o1 := (h i (by omega)).1
    have o2 := (h (i + 1) (by omega)).1
    rw [insA_lt (show i < i + 1 by omega)] at o1
    rw [insA_eq] at o2
    have hPi := hP i (by omega)
    have b1 := hj.2 (P i) (by omega)
    have b2 := hj.2 m hm
    have e1 : zI ((i + 1 : Nat) : Int) - 1 = zI (i : Int) := by rw [show (1 : Int32) = zI 1 from rfl, zI_sub]; congr 1; omega
    have j1 : inb (zI (i : Int)) 6 = true := inb_t (by omega) (by omega) (by omega)
    have j2 : inb (zI ((i + 1 : Nat) : Int)) 6 = true := inb_t (by omega) (by omega) (by omega)
    have j3 : inb (zI (P i : Nat)) 6 = true := inb_t (by omega) (by omega) (by omega)
    have j4 : inb (zI (m : Nat)) 6 = true := inb_t (by omega) (by omega) (by omega)
    have step : ∀ (k2 : Int32 → Dt → Option (Unit × Dt)) (kk : Int32 → Int32 → Dt → Option (Unit × Dt)), s_Jobs_orderByDue_12 k2 kk (zI m) (zI ((i + 1 : Nat) : Int)) D = if du (P i) ≤ du m then k2 (zI ((m + 1 : Nat) : Int)) D else bnd (f_Jobs_swap (zI i) (zI ((i + 1 : Nat) : Int)) D) (fun _ D2 => kk (zI m) (zI (i : Int)) D2) := by
      intro k2 kk
      unfold s_Jobs_orderByDue_12 b_Jobs_orderByDue_57
      rw [if_neg (by rw [show (0 : Int32) = zI 0 from rfl, zI_le (by omega) (by omega) (by omega) (by omega)]; omega), e1, if_pos j1, zI_nat (by omega), zI_nat (by omega), o1, o2, if_pos j3, if_pos j2, if_pos j4, zI_nat (by omega), zI_nat (by omega), (hd.2 (P i) (by omega)).2, (hd.2 m hm).2, if_cg (zI_le (by omega) (by omega) (by omega) (by omega)), zI_s, zI_m1]
    by_cases c : du (P i) ≤ du m
    · rw [if_pos c]
      refine ⟨D, fun k2 => ?_, h, fun _ _ => rfl⟩
      rw [show N + (i + 1) + 1 = (N + i + 1) + 1 by omega, itr_s, step, if_pos c]
    · rw [if_neg c]
      obtain ⟨E, x1, x2, x3⟩ := c_swap h6 h (show i < n by omega) (show i + 1 < n by omega)
      have hE : OrF E n (insA P i m m) := fun j hj2 => by
        have := x2 j hj2
        have e : swP (insA P (i + 1) m m) i (i + 1) j = insA P i m m j := by
          unfold swP
          by_cases z : j = i + 1
          · subst z; rw [if_pos rfl, insA_lt (show i < i + 1 by omega), insA_gt (show i < i + 1 by omega) (by omega)]; rfl
          · rw [if_neg z]
            by_cases y : j = i
            · subst y; rw [if_pos rfl, insA_eq, insA_eq]
            · rw [if_neg y]
              by_cases w : j < i
              · rw [insA_lt (show j < i + 1 by omega), insA_lt w]
              · by_cases v : j ≤ m
                · rw [insA_gt (show i + 1 < j by omega) v, insA_gt (show i < j by omega) v]
                · rw [insA_out (by omega) (by omega), insA_out (by omega) (by omega)]
        rw [e] at this
        exact this
      obtain ⟨G, g1, g2, g3⟩ := ih E N (by omega) (by unfold JbC; rw [x3 104 (by omega), x3 105 (by omega), x3 106 (by omega)]; exact hd) hE
      refine ⟨G, fun k2 => ?_, g2, fun k hk => by rw [g3 k hk, x3 k hk]⟩
      rw [show N + (i + 1) + 1 = (N + i + 1) + 1 by omega, itr_s, step, if_neg c, x1, bnd_s, g1]
theorem c_orderByDue {D : Dt} {n : Nat} {tk du : Nat → Int} (hj : JbOk n tk du) (hd : JbC D n tk du) (h : ∀ k, k < n → D 107 k = zI (k : Nat)) : ∃ D1, f_Jobs_orderByDue D = some ((), D1) ∧ OrF D1 n (srtF du (n - 1)) ∧ ∀ k, k ≠ 107 → D1 k = D k := by
  have h6 := hj.1
  unfold f_Jobs_orderByDue lp_Jobs_orderByDue_2
  obtain ⟨M, hM⟩ := FU_eq (n := (n - 1) + 1) (by omega)
  rw [hM, show M + ((n - 1) + 1) = (M + 1) + (n - 1) by omega]
  obtain ⟨K, ⟨k1, k2⟩, e⟩ := itr_go (fun _ _ => none) s_Jobs_orderByDue_2 (fun i (K : Dt) k => k (zI ((i + 1 : Nat) : Int)) K) (n - 1) (fun i (K : Dt) => OrF K n (srtF du i) ∧ ∀ k, k ≠ 107 → K k = D k)
    (fun i hi K z => by
      obtain ⟨z1, z2⟩ := z
      obtain ⟨⟨s1, s2, s3⟩, s4⟩ := srt_ok du i
      have hdK : JbC K n tk du := by unfold JbC; rw [z2 104 (by omega), z2 105 (by omega), z2 106 (by omega)]; exact hd
      have hin : OrF K n (insA (srtF du i) (i + 1) (i + 1) (i + 1)) := fun j hj2 => by
        have := z1 j hj2
        have e : srtF du i j = insA (srtF du i) (i + 1) (i + 1) (i + 1) j := by
          by_cases w : j < i + 1
          · rw [insA_lt w]
          · by_cases v : j = i + 1
            · subst v; rw [insA_eq, s4 (i + 1) (by omega)]
            · rw [insA_out (by omega) (by omega), s4 j (by omega)]
        rw [e] at this
        exact this
      obtain ⟨M2, hM2⟩ := FU_eq (n := (i + 1) + 1) (by omega)
      obtain ⟨D1, d1, d2, d3⟩ := c_insert hj (P := srtF du i) (m := i + 1) (show i + 1 < n by omega) s1 (i + 1) K M2 (Nat.le_refl _) hdK hin
      refine ⟨D1, ⟨d2, fun q hq => by rw [d3 q hq, z2 q hq]⟩, fun k => ?_⟩
      unfold s_Jobs_orderByDue_2 lp_Jobs_orderByDue_12
      rw [hdK.1, if_neg (by rw [zI_le (by omega) (by omega) (by omega) (by omega)]; omega), hM2, show M2 + (i + 1 + 1) = M2 + (i + 1) + 1 by omega, d1])
    D ⟨fun j hj2 => ⟨h j hj2, hj2⟩, fun _ _ => rfl⟩
  have e := e (M + 1)
  refine ⟨K, ?_, k1, k2⟩
  refine (show itr (fun _ _ => none) s_Jobs_orderByDue_2 (M + 1 + (n - 1)) (zI ((0 + 1 : Nat) : Int)) D = _ from e.trans ?_)
  rw [itr_s]
  unfold s_Jobs_orderByDue_2
  rw [k2 104 (by omega), hd.1, if_pos ((zI_le (by omega) (by omega) (by omega) (by omega)).mpr (by omega))]
theorem c_findMost {D : Dt} {n : Nat} {tk du : Nat → Int} (hj : JbOk n tk du) (hd : JbC D n tk du) (h : ∀ k, k < n → D 107 k = zI (k : Nat)) : ∃ D1, f_Jobs_findMostInTime D = some (zI (dnB (itF n tk du) (2 ^ n - 1) : Nat), D1) ∧ ∀ k, k ≠ 107 → D1 k = D k := by
  have h6 := hj.1
  have p6 : 2 ^ n ≤ 64 := Nat.pow_le_pow_right (n := 2) (by omega) h6
  have p0 : 0 < 2 ^ n := Nat.two_pow_pos n
  obtain ⟨E, e1, e2, e3⟩ := c_orderByDue hj hd h
  have hdE : JbC E n tk du := by unfold JbC; rw [e3 104 (by omega), e3 105 (by omega), e3 106 (by omega)]; exact hd
  unfold f_Jobs_findMostInTime
  rw [e1, bnd_s]
  refine ⟨E, ?_, e3⟩
  unfold lp_Jobs_findMostInTime_8
  obtain ⟨M, hM⟩ := FU_eq (n := (2 ^ n - 1) + 1) (by omega)
  rw [hM, show M + ((2 ^ n - 1) + 1) = (M + 1) + (2 ^ n - 1) by omega]
  obtain ⟨U, -, e⟩ := itr_go (fun _ _ _ => none) s_Jobs_findMostInTime_8 (fun i (U : Unit) k => k (zI (dnB (itF n tk du) i : Nat)) (zI ((i + 1 : Nat) : Int)) E) (2 ^ n - 1) (fun i U => True)
    (fun i hi U _ => ⟨(), trivial, fun k => by
      have db := dnB_b (itF n tk du) i
      have q1 := popc8 (show i + 1 < 256 by omega)
      have q2 := popc8 (show dnB (itF n tk du) i < 256 by omega)
      unfold s_Jobs_findMostInTime_8 b_Jobs_findMostInTime_39
      rw [hdE.1, shl_d n (by omega), if_neg (by rw [zI_le (by omega) (by omega) (by omega) (by omega)]; omega), c_bitCount (by omega), bnd_s, c_bitCount (by omega), bnd_s, if_cg (zI_le (by omega) (by omega) (by omega) (by omega)), c_isInTime hj hdE e2 (by omega), bnd_s, zI_s, show dnB (itF n tk du) (i + 1) = if popc (dnB (itF n tk du) i) < popc (i + 1) ∧ itF n tk du (i + 1) = true then i + 1 else dnB (itF n tk du) i from rfl]
      unfold itF
      by_cases c : popc (dnB (itF n tk du) i) < popc (i + 1)
      · unfold itF at c
        rw [if_neg (by omega)]
        by_cases g : anyB (flF tk du (srtF du (n - 1)) (i + 1)) n = true
        · rw [if_pos g, if_pos rfl, if_neg (fun q => by have := q.2; rw [g] at this; cases this)]
        · rw [if_neg g, if_neg (show ¬ (1 : Int32) = 0 by decide), if_pos ⟨c, by rw [Bool.eq_false_iff.mpr g]; rfl⟩]
      · unfold itF at c
        rw [if_pos (by omega), if_neg (fun q => c q.1)]⟩) () trivial
  have e := e (M + 1)
  refine (show itr (fun _ _ _ => none) s_Jobs_findMostInTime_8 (M + 1 + (2 ^ n - 1)) (zI (dnB (itF n tk du) 0 : Nat)) (zI ((0 + 1 : Nat) : Int)) E = _ from e.trans ?_)
  rw [itr_s]
  unfold s_Jobs_findMostInTime_8
  rw [hdE.1, shl_d n (by omega), if_pos ((zI_le (by omega) (by omega) (by omega) (by omega)).mpr (by omega))]
theorem dnV_b {S : SstT} {a b : Nat} (h : jN S a ≤ 6) : dnV S a b < 64 := by
  have p6 : 2 ^ jN S a ≤ 64 := Nat.pow_le_pow_right (n := 2) (by omega) h
  have p0 : 0 < 2 ^ jN S a := Nat.two_pow_pos _
  have := dnB_b (itF (jN S a) (jT S a) (jT S b)) (2 ^ jN S a - 1)
  unfold dnV
  omega
theorem k_done {D : Dt} {S : SstT} (h : CRep D S) (ho : Ok S) (v1 v2 : Int32) : CDo (f_Root_done v1 v2 D) D (sp_done v1 v2 S).1 (sp_done v1 v2 S).2 := by
  obtain ⟨E, e1, e2, e3⟩ := c_refusedJobs h ho v1 v2
  unfold f_Root_done sp_done
  rw [e1, bnd_s]
  by_cases c : (rfJb v1 v2 S).1 = 0
  · obtain ⟨q1, q2, q3, q4, q5, q6, q7, q8⟩ := rfJb_0 c
    have e2x : CRep E S := by rw [q1] at e2; exact e2
    obtain ⟨a, ha, -, rfl⟩ := wi_nat q2 (by omega)
    obtain ⟨b, hb, -, rfl⟩ := wi_nat q3 (by omega)
    have ea : (zI (a : Int)).toInt.toNat = a := by rw [zI_toInt (by omega) (by omega), Int.toNat_natCast]
    have eb : (zI (b : Int)).toInt.toNat = b := by rw [zI_toInt (by omega) (by omega), Int.toNat_natCast]
    rw [ea] at q4 q5 q6 q7
    rw [eb] at q6 q8
    have hz := ho.1.1 a (by omega)
    unfold rwOk at hz
    have hj := jb_ok q5 q6 q7 q8
    have hn6 : jN S a ≤ 6 := hj.1
    rw [if_pos c, if_pos c, ea, eb]
    have i1 : inb (zI (a : Int)) 6 = true := inb_t (by omega) (by omega) (by omega)
    have i2 : inb (zI (b : Int)) 6 = true := inb_t (by omega) (by omega) (by omega)
    obtain ⟨F, f1, f2, f3, f4⟩ := c_jTake e2x (show a < 6 by omega) (show b < 6 by omega) (by omega) q5 q6
    obtain ⟨G, g1, g2⟩ := c_findMost hj f2 f3
    have g1 : f_Jobs_findMostInTime F = some (zI (dnV S a b : Nat), G) := g1
    have db := dnV_b (S := S) (a := a) (b := b) hn6
    rw [if_pos i1, if_pos i2, zI_nat (by omega), zI_nat (by omega), f1, bnd_s, g1, bnd_s, c_bitCount (by omega), bnd_s]
    have hG : CRep G S := e2x.congr (fun k hk => by
      simp only [cIds, Bool.or_eq_true, Bool.and_eq_true, decide_eq_true_eq, beq_iff_eq] at hk
      rw [g2 k (by omega), f4 k (by omega)])
    exact (c_tell hG _ _).bind (fun k hk => by rw [g2 k (by omega), f4 k (by omega), e3 k hk])
  · rw [if_neg c, if_neg c]
    exact ⟨E, rfl, e2, e3⟩
