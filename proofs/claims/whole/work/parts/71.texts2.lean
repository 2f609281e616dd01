/-! a street read from a text -/
def bbN (c : Nat → Int32) (n : Nat) : Nat → Nat → Nat
  | 0, i => i
  | f + 1, i => if i < n ∧ c i = 32 then bbN c n f (i + 1) else i
def bbT (c : Nat → Int32) (n i : Nat) : Nat := bbN c n (n - i) i
theorem bbT_s {c : Nat → Int32} {n i : Nat} (h : i < n) (h2 : c i = 32) : bbT c n i = bbT c n (i + 1) := by
  unfold bbT
  rw [show n - i = (n - (i + 1)) + 1 by omega]
  show (if i < n ∧ c i = 32 then bbN c n (n - (i + 1)) (i + 1) else i) = _
  rw [if_pos ⟨h, h2⟩]
theorem bbT_e {c : Nat → Int32} {n i : Nat} (h : ¬ (i < n ∧ c i = 32)) : bbT c n i = i := by
  unfold bbT
  cases hf : n - i with
  | zero => rfl
  | succ f =>
    show (if i < n ∧ c i = 32 then bbN c n f (i + 1) else i) = i
    rw [if_neg h]
theorem bbT_b {c : Nat → Int32} {n : Nat} : ∀ d i, n - i = d → i ≤ bbT c n i ∧ (i ≤ n → bbT c n i ≤ n) ∧ (bbT c n i < n → ¬ c (bbT c n i) = 32) := by
  intro d
  induction d with
  | zero =>
    intro i hd
    rw [bbT_e (by omega)]
    exact ⟨Nat.le_refl _, fun h => h, fun h => by omega⟩
  | succ d ih =>
    intro i hd
    by_cases g : c i = 32
    · rw [bbT_s (by omega) g]
      obtain ⟨a, b, e⟩ := ih (i + 1) (by omega)
      exact ⟨by omega, fun h => b (by omega), e⟩
    · rw [bbT_e (fun q => g q.2)]
      exact ⟨Nat.le_refl _, fun h => h, fun _ => g⟩
theorem bbT_p {c : Nat → Int32} {n i : Nat} : i ≤ bbT c n i ∧ (i ≤ n → bbT c n i ≤ n) ∧ (bbT c n i < n → ¬ c (bbT c n i) = 32) := bbT_b (n - i) i rfl
def fgT (c : Nat → Int32) (n i : Nat) : Int := if i < n ∧ 48 ≤ (c i).toInt ∧ (c i).toInt ≤ 57 then (c i).toInt - 48 else -1
def kdT (x : Int32) : Int := if x = 100 then 3 else if x = 104 then 0 else if x = 108 then 5 else if x = 109 then 1 else if x = 115 then 2 else if x = 119 then 4 else -1
theorem fgT_b (c : Nat → Int32) (n i : Nat) : -1 ≤ fgT c n i ∧ fgT c n i ≤ 9 ∧ (fgT c n i ≠ -1 → i < n) := by
  unfold fgT
  by_cases g : i < n ∧ 48 ≤ (c i).toInt ∧ (c i).toInt ≤ 57
  · rw [if_pos g]; omega
  · rw [if_neg g]; omega
theorem kdT_b (x : Int32) : -1 ≤ kdT x ∧ kdT x ≤ 5 := by
  unfold kdT
  repeat' split
  all_goals omega
def hfT (c : Nat → Int32) (n i : Nat) : Option Nat := if kdT (c i) = -1 then some i else if fgT c n (i + 1) = -1 then some (i + 1) else if fgT c n (i + 2) = -1 then some (i + 2) else if fgT c n (i + 3) = -1 then some (i + 3) else none
theorem hfT_0 {c : Nat → Int32} {n i : Nat} (h : hfT c n i = none) : kdT (c i) ≠ -1 ∧ fgT c n (i + 1) ≠ -1 ∧ fgT c n (i + 2) ≠ -1 ∧ fgT c n (i + 3) ≠ -1 := by
  unfold hfT at h
  by_cases c1 : kdT (c i) = -1
  · rw [if_pos c1] at h; cases h
  · rw [if_neg c1] at h
    by_cases c2 : fgT c n (i + 1) = -1
    · rw [if_pos c2] at h; cases h
    · rw [if_neg c2] at h
      by_cases c3 : fgT c n (i + 2) = -1
      · rw [if_pos c3] at h; cases h
      · rw [if_neg c3] at h
        by_cases c4 : fgT c n (i + 3) = -1
        · rw [if_pos c4] at h; cases h
        · exact ⟨c1, c2, c3, c4⟩
theorem hfT_x {c : Nat → Int32} {n i x : Nat} (h : hfT c n i = some x) : i ≤ x ∧ x ≤ i + 3 := by
  unfold hfT at h
  by_cases c1 : kdT (c i) = -1
  · rw [if_pos c1] at h
    have : i = x := by injection h
    omega
  · rw [if_neg c1] at h
    by_cases c2 : fgT c n (i + 1) = -1
    · rw [if_pos c2] at h
      have : i + 1 = x := by injection h
      omega
    · rw [if_neg c2] at h
      by_cases c3 : fgT c n (i + 2) = -1
      · rw [if_pos c3] at h
        have : i + 2 = x := by injection h
        omega
      · rw [if_neg c3] at h
        by_cases c4 : fgT c n (i + 3) = -1
        · rw [if_pos c4] at h
          have : i + 3 = x := by injection h
          omega
        · rw [if_neg c4] at h; cases h
def nxT (c : Nat → Int32) (n : Nat) (o : Option Nat) (m : Nat) (r : Option Nat × Nat) : Option Nat × Nat := match o with
  | some x => (some x, m)
  | none => r
def rsT (c : Nat → Int32) (n : Nat) : Nat → Nat → Nat → Option Nat × Nat
  | 0, _, m => (none, m)
  | f + 1, i, m => if n ≤ i then (none, m) else if 8 ≤ m then (some i, m) else nxT c n (hfT c n i) m (rsT c n f (bbT c n (i + 4)) (m + 1))
def psT (c : Nat → Int32) (n i : Nat) : Nat → Nat
  | 0 => i
  | j + 1 => bbT c n (psT c n i j + 4)
theorem rsT_ok {c : Nat → Int32} {n i0 : Nat} : ∀ f i m, f + m = 9 → m ≤ 8 → i = psT c n i0 m → (∀ j, j < m → hfT c n (psT c n i0 j) = none) → (rsT c n f i m).1 = none → (rsT c n f i m).2 ≤ 8 ∧ ∀ j, j < (rsT c n f i m).2 → hfT c n (psT c n i0 j) = none := by
  intro f
  induction f with
  | zero => intro i m h1 h2; omega
  | succ f ih =>
    intro i m h1 h2 hi hp
    have e : rsT c n (f + 1) i m = if n ≤ i then (none, m) else if 8 ≤ m then (some i, m) else nxT c n (hfT c n i) m (rsT c n f (bbT c n (i + 4)) (m + 1)) := rfl
    rw [e]
    by_cases c1 : n ≤ i
    · rw [if_pos c1]; exact fun _ => ⟨h2, hp⟩
    · rw [if_neg c1]
      by_cases c2 : 8 ≤ m
      · rw [if_pos c2]; intro q; cases q
      · rw [if_neg c2]
        cases hc : hfT c n i with
        | some x => intro q; cases q
        | none =>
          show (rsT c n f (bbT c n (i + 4)) (m + 1)).1 = none → _
          intro q
          refine ih (bbT c n (i + 4)) (m + 1) (by omega) (by omega) (by rw [hi]; rfl) (fun j hj => ?_) q
          by_cases d : j = m
          · subst d; rw [← hi]; exact hc
          · exact hp j (by omega)
/-- the fault, and how many houses -/
def stT (c : Nat → Int32) (n : Nat) : Option Nat × Nat := if n ≤ bbT c n 0 ∨ ¬ c (bbT c n 0) = 113 then (some (bbT c n 0), 0) else if fgT c n (bbT c n 0 + 1) < 1 then (some (bbT c n 0 + 1), 0) else if fgT c n (bbT c n 0 + 2) = -1 then (some (bbT c n 0 + 2), 0) else rsT c n 9 (bbT c n (bbT c n 0 + 3)) 0
def ftV (o : Option Nat) : Int := match o with
  | none => -9
  | some x => x
abbrev i0T (c : Nat → Int32) (n : Nat) : Nat := bbT c n (bbT c n 0 + 3)
def bedT (c : Nat → Int32) (n m : Nat) : BedT := (m, fgT c n (bbT c n 0 + 1), fgT c n (bbT c n 0 + 2), fun j => kdT (c (psT c n (i0T c n) j)), fun j => fgT c n (psT c n (i0T c n) j + 1), fun j => fgT c n (psT c n (i0T c n) j + 2), fun j => fgT c n (psT c n (i0T c n) j + 3), fun _ => 0)
theorem stT_ok {c : Nat → Int32} {n : Nat} (h : (stT c n).1 = none) : BOk (bedT c n (stT c n).2) ∧ 1 ≤ fgT c n (bbT c n 0 + 1) ∧ bbT c n 0 < n ∧ c (bbT c n 0) = 113 ∧ fgT c n (bbT c n 0 + 2) ≠ -1 ∧ stT c n = rsT c n 9 (i0T c n) 0 := by
  have b1 := fgT_b c n (bbT c n 0 + 1)
  have b2 := fgT_b c n (bbT c n 0 + 2)
  by_cases c1 : n ≤ bbT c n 0 ∨ ¬ c (bbT c n 0) = 113
  · unfold stT at h; rw [if_pos c1] at h; cases h
  · by_cases c2 : fgT c n (bbT c n 0 + 1) < 1
    · unfold stT at h; rw [if_neg c1, if_pos c2] at h; cases h
    · by_cases c3 : fgT c n (bbT c n 0 + 2) = -1
      · unfold stT at h; rw [if_neg c1, if_neg c2, if_pos c3] at h; cases h
      · have e : stT c n = rsT c n 9 (i0T c n) 0 := by unfold stT; rw [if_neg c1, if_neg c2, if_neg c3]
        have c1a : ¬ n ≤ bbT c n 0 := fun q => c1 (Or.inl q)
        have c1b : c (bbT c n 0) = 113 := Decidable.of_not_not (fun q => c1 (Or.inr q))
        refine ⟨?_, by omega, by omega, c1b, c3, e⟩
        obtain ⟨r1, r2⟩ := rsT_ok (c := c) (n := n) (i0 := i0T c n) 9 (i0T c n) 0 rfl (by omega) rfl (fun j hj => by omega) (by rw [← e]; exact h)
        rw [← e] at r1 r2
        refine ⟨r1, ⟨?_, b1.2.1⟩, ⟨?_, b2.2.1⟩, fun j hj => ?_⟩
        · show 0 ≤ fgT c n (bbT c n 0 + 1); omega
        · show 0 ≤ fgT c n (bbT c n 0 + 2); omega
        · obtain ⟨k1, k2, k3, k4⟩ := hfT_0 (r2 j hj)
          have e1 := kdT_b (c (psT c n (i0T c n) j))
          have e2 := fgT_b c n (psT c n (i0T c n) j + 1)
          have e3 := fgT_b c n (psT c n (i0T c n) j + 2)
          have e4 := fgT_b c n (psT c n (i0T c n) j + 3)
          refine ⟨⟨?_, e1.2⟩, ⟨?_, e2.2.1⟩, ⟨?_, ?_⟩, ⟨?_, e4.2.1⟩, Or.inl rfl⟩
          · show 0 ≤ kdT (c (psT c n (i0T c n) j)); omega
          · show 0 ≤ fgT c n (psT c n (i0T c n) j + 1); omega
          · show 0 ≤ fgT c n (psT c n (i0T c n) j + 2); omega
          · show fgT c n (psT c n (i0T c n) j + 2) ≤ 100; omega
          · show 0 ≤ fgT c n (psT c n (i0T c n) j + 3); omega
/-! the class reads -/
def CTx (D : Dt) (a n : Nat) (c : Nat → Int32) : Prop := D a 1 = zI (n : Nat) ∧ ∀ i, i < n → D (a + 1) i = c i
theorem CTx.congr {D D1 : Dt} {a n : Nat} {c : Nat → Int32} (h : CTx D a n c) (h1 : D1 a = D a) (h2 : D1 (a + 1) = D (a + 1)) : CTx D1 a n c := by
  unfold CTx; rw [h1, h2]; exact h
theorem c_behind {D : Dt} {a n : Nat} {c : Nat → Int32} (h : CTx D a n c) (hn : n ≤ 60) {i : Nat} (hi : i ≤ 1000) : f_Text_behindBlanks a (zI i) D = some (zI (bbT c n i : Nat), D) := by
  have go : ∀ d i N, n - i = d → i ≤ 1000 → d < N → itr (fun _ _ => none) (s_Text_behindBlanks_2 a) N (zI i) D = some (zI (bbT c n i : Nat), D) := by
    intro d
    induction d with
    | zero =>
      intro i N hd hi hN
      obtain ⟨N', rfl⟩ : ∃ N', N = N' + 1 := ⟨N - 1, by omega⟩
      rw [itr_s, bbT_e (by omega)]
      unfold s_Text_behindBlanks_2
      rw [h.1, if_pos ((zI_le (by omega) (by omega) (by omega) (by omega)).mpr (by omega))]
    | succ d ih =>
      intro i N hd hi hN
      obtain ⟨N', rfl⟩ : ∃ N', N = N' + 1 := ⟨N - 1, by omega⟩
      rw [itr_s]
      have ih := ih (i + 1) N' (by omega) (by omega) (by omega)
      generalize itr (fun _ _ => none) (s_Text_behindBlanks_2 a) N' = kk at ih
      unfold s_Text_behindBlanks_2
      rw [h.1, if_neg (by rw [zI_le (by omega) (by omega) (by omega) (by omega)]; omega), if_pos (inb_t (by omega) (by omega) (by omega)), zI_nat (by omega), h.2 i (by omega), zI_s]
      by_cases g : c i = 32
      · rw [if_pos g, bbT_s (by omega) g]; exact ih
      · rw [if_neg g, bbT_e (fun q => g q.2)]
  exact go (n - i) i FU rfl hi (by unfold FU; omega)
theorem c_figure {D : Dt} {a n : Nat} {c : Nat → Int32} (h : CTx D a n c) (hn : n ≤ 60) {i : Nat} (hi : i ≤ 1000) : f_Text_figureAt a (zI i) D = some (zI (fgT c n i), D) := by
  unfold f_Text_figureAt b_Text_figureAt_34 b_Text_figureAt_35 fgT
  rw [h.1, if_cg (zI_le (by omega) (by omega) (by omega) (by omega)), if_pos rfl, if_neg (show ¬ (1 : Int32) = 0 by decide)]
  by_cases g : i < n
  · have hin : inb (zI (i : Int)) 60 = true := inb_t (by omega) (by omega) (by omega)
    rw [if_neg (by omega), if_pos hin, if_pos hin, if_pos hin, zI_nat (by omega), h.2 i g, if_cg Int32.lt_iff_toInt_lt, if_cg Int32.lt_iff_toInt_lt]
    simp only [tl]
    by_cases g1 : (c i).toInt < 48
    · rw [if_pos g1, if_neg (by omega)]; rfl
    · rw [if_neg g1]
      by_cases g2 : 57 < (c i).toInt
      · rw [if_pos g2, if_neg (by omega)]; rfl
      · rw [if_neg g2, if_pos (by omega)]
        have e : c i - 48 = zI ((c i).toInt - 48) := by
          rw [← zI_sub, zI_self]; rfl
        rw [e]
  · rw [if_pos (by omega), if_neg (fun q => g q.1)]; rfl
theorem kd_if (x : Int32) (D : Dt) : (if x = 100 then some ((3 : Int32), D) else (if x = 104 then some (0, D) else (if x = 108 then some (5, D) else (if x = 109 then some (1, D) else (if x = 115 then some (2, D) else (if x = 119 then some (4, D) else some ((-1), D))))))) = some (zI (kdT x), D) := by
  unfold kdT
  by_cases c1 : x = 100
  · rw [if_pos c1, if_pos c1]; rfl
  · rw [if_neg c1, if_neg c1]
    by_cases c2 : x = 104
    · rw [if_pos c2, if_pos c2]; rfl
    · rw [if_neg c2, if_neg c2]
      by_cases c3 : x = 108
      · rw [if_pos c3, if_pos c3]; rfl
      · rw [if_neg c3, if_neg c3]
        by_cases c4 : x = 109
        · rw [if_pos c4, if_pos c4]; rfl
        · rw [if_neg c4, if_neg c4]
          by_cases c5 : x = 115
          · rw [if_pos c5, if_pos c5]; rfl
          · rw [if_neg c5, if_neg c5]
            by_cases c6 : x = 119
            · rw [if_pos c6, if_pos c6]; rfl
            · rw [if_neg c6, if_neg c6]; rfl
theorem c_kindAt {D : Dt} {a n : Nat} {c : Nat → Int32} (h : CTx D a n c) (hn : n ≤ 60) {i : Nat} (hi : i < n) : f_Text_kindAt a (zI i) D = some (zI (kdT (c i)), D) := by
  unfold f_Text_kindAt
  rw [if_pos (inb_t (by omega) (by omega) (by omega)), zI_nat (by omega), h.2 i hi]
  exact kd_if _ _
/-- houses read so far -/
def HdC (D : Dt) (c : Nat → Int32) (n i0 m : Nat) : Prop := D 20 5 = zI (m : Nat) ∧ ∀ j, j < m → D 21 j = zI (kdT (c (psT c n i0 j))) ∧ D 22 j = zI (fgT c n (psT c n i0 j + 1)) ∧ D 23 j = zI (fgT c n (psT c n i0 j + 2)) ∧ D 24 j = zI (fgT c n (psT c n i0 j + 3))
theorem c_readHouse {D : Dt} {a n : Nat} {c : Nat → Int32} (h : CTx D a n c) (ha : 100 < a) (hn : n ≤ 60) {i i0 m : Nat} (hi : i < n) (hm : m ≤ 8) (hd : HdC D c n i0 m) (hp : i = psT c n i0 m) :
    ∃ D1, f_Bed_readHouse 20 a (zI i) D = some (zI (if 8 ≤ m then (i : Int) else ftV (hfT c n i)), D1) ∧ (∀ k, (k < 20 ∨ 24 < k) → D1 k = D k) ∧ (∀ j, 5 < j → D1 20 j = D 20 j) ∧ (m < 8 → hfT c n i = none → HdC D1 c n i0 (m + 1)) := by
  have kb := kdT_b (c i)
  unfold f_Bed_readHouse
  rw [c_kindAt h hn hi, bnd_s, hd.1, show (8 : Int32) = zI 8 from rfl, if_cg (zI_le (by omega) (by omega) (by omega) (by omega)), show (-1 : Int32) = zI (-1) from rfl, if_cg (zI_eq (by omega) (by omega) (by omega) (by omega))]
  by_cases c8 : 8 ≤ m
  · rw [if_pos (by omega), if_pos c8]
    exact ⟨D, rfl, fun _ _ => rfl, fun _ _ => rfl, fun q => by omega⟩
  · rw [if_neg (by omega), if_neg c8]
    by_cases ck : kdT (c i) = -1
    · rw [if_pos ck]
      have e : hfT c n i = some i := by unfold hfT; rw [if_pos ck]
      rw [e]
      exact ⟨D, rfl, fun _ _ => rfl, fun _ _ => rfl, fun _ q => by cases q⟩
    · rw [if_neg ck]
      unfold lp_Bed_readHouse_25
      obtain ⟨M, hM⟩ := FU_eq (n := 4) (by omega)
      rw [hM]
      have stp : ∀ (k : Int32 → Int32 → Int32 → Dt → Option (Int32 × Dt)) (q : Nat), 1 ≤ q → q ≤ 3 → s_Bed_readHouse_25 20 a k (zI i) (zI (kdT (c i))) (zI q) D = if fgT c n (i + q) = -1 then some (zI ((i + q : Nat) : Int), D) else k (zI i) (zI (kdT (c i))) (zI ((q + 1 : Nat) : Int)) D := by
        intro k q q1 q3
        have fb := fgT_b c n (i + q)
        unfold s_Bed_readHouse_25
        rw [if_neg (by rw [show (3 : Int32) = zI 3 from rfl, zI_lt (by omega) (by omega) (by omega) (by omega)]; omega), zI_add, show (i : Int) + (q : Int) = ((i + q : Nat) : Int) from rfl, c_figure h hn (by omega), bnd_s, show (-1 : Int32) = zI (-1) from rfl, if_cg (zI_eq (by omega) (by omega) (by omega) (by omega)), zI_s]
      rw [show itr (fun _ _ _ _ => none) (s_Bed_readHouse_25 20 a) (M + 4) (zI i) (zI (kdT (c i))) 1 D = s_Bed_readHouse_25 20 a (itr (fun _ _ _ _ => none) (s_Bed_readHouse_25 20 a) (M + 3)) (zI i) (zI (kdT (c i))) (zI ((1 : Nat) : Int)) D from rfl, stp _ 1 (by omega) (by omega)]
      unfold hfT
      rw [if_neg ck]
      by_cases g1 : fgT c n (i + 1) = -1
      · rw [if_pos g1, if_pos g1]
        exact ⟨D, rfl, fun _ _ => rfl, fun _ _ => rfl, fun _ q => by cases q⟩
      · rw [if_neg g1, if_neg g1, show itr (fun _ _ _ _ => none) (s_Bed_readHouse_25 20 a) (M + 3) (zI i) (zI (kdT (c i))) (zI ((1 + 1 : Nat) : Int)) D = s_Bed_readHouse_25 20 a (itr (fun _ _ _ _ => none) (s_Bed_readHouse_25 20 a) (M + 2)) (zI i) (zI (kdT (c i))) (zI ((2 : Nat) : Int)) D from rfl, stp _ 2 (by omega) (by omega)]
        by_cases g2 : fgT c n (i + 2) = -1
        · rw [if_pos g2, if_pos g2]
          exact ⟨D, rfl, fun _ _ => rfl, fun _ _ => rfl, fun _ q => by cases q⟩
        · rw [if_neg g2, if_neg g2, show itr (fun _ _ _ _ => none) (s_Bed_readHouse_25 20 a) (M + 2) (zI i) (zI (kdT (c i))) (zI ((2 + 1 : Nat) : Int)) D = s_Bed_readHouse_25 20 a (itr (fun _ _ _ _ => none) (s_Bed_readHouse_25 20 a) (M + 1)) (zI i) (zI (kdT (c i))) (zI ((3 : Nat) : Int)) D from rfl, stp _ 3 (by omega) (by omega)]
          by_cases g3 : fgT c n (i + 3) = -1
          · rw [if_pos g3, if_pos g3]
            exact ⟨D, rfl, fun _ _ => rfl, fun _ _ => rfl, fun _ q => by cases q⟩
          · rw [if_neg g3, if_neg g3, itr_s]
            generalize itr (fun _ _ _ _ => none) (s_Bed_readHouse_25 20 a) M = kk
            have im : inb (zI (m : Int)) 8 = true := inb_t (by omega) (by omega) (by omega)
            have ez : ∀ q : Nat, zI (i : Int) + zI (q : Int) = zI ((i + q : Nat) : Int) := fun q => by rw [zI_add]; rfl
            unfold s_Bed_readHouse_25
            rw [if_pos (show (3 : Int32) < zI ((3 + 1 : Nat) : Int) by decide), hd.1, if_pos im, nm_s, zI_nat (by omega), show (1 : Int32) = zI ((1 : Nat) : Int) from rfl, show (2 : Int32) = zI ((2 : Nat) : Int) from rfl, show (3 : Int32) = zI ((3 : Nat) : Int) from rfl, ez, ez, ez]
            rw [c_figure (h.congr (wr_ne (by omega)) (wr_ne (by omega))) hn (by omega), bnd_s, wr_ne (show 20 ≠ 20 + 1 by omega), hd.1, if_pos im, nm_s, zI_nat (by omega)]
            rw [c_figure (h.congr (by rw [wr_ne (by omega), wr_ne (by omega)]) (by rw [wr_ne (by omega), wr_ne (by omega)])) hn (by omega), bnd_s, wr_ne (show 20 ≠ 20 + 2 by omega), wr_ne (show 20 ≠ 20 + 1 by omega), hd.1, if_pos im, nm_s, zI_nat (by omega)]
            rw [c_figure (h.congr (by rw [wr_ne (by omega), wr_ne (by omega), wr_ne (by omega)]) (by rw [wr_ne (by omega), wr_ne (by omega), wr_ne (by omega)])) hn (by omega), bnd_s, wr_ne (show 20 ≠ 20 + 3 by omega), wr_ne (show 20 ≠ 20 + 2 by omega), wr_ne (show 20 ≠ 20 + 1 by omega), hd.1, if_pos im, nm_s, zI_nat (by omega), nm_s, wr_ne (show 20 ≠ 20 + 4 by omega), wr_ne (show 20 ≠ 20 + 3 by omega), wr_ne (show 20 ≠ 20 + 2 by omega), wr_ne (show 20 ≠ 20 + 1 by omega), hd.1, ← show (1 : Int32) = zI ((1 : Nat) : Int) from rfl, zI_s]
            refine ⟨_, rfl, fun k hk => by rw [wr_ne (by omega), wr_ne (by omega), wr_ne (by omega), wr_ne (by omega), wr_ne (by omega)], fun j hj => by rw [wr_at, upd_ne (by omega), wr_ne (by omega), wr_ne (by omega), wr_ne (by omega), wr_ne (by omega)], fun _ _ => ⟨by rw [wr_at, upd_at], fun j hj => ?_⟩⟩
            have e21 : ∀ x1 x2 x3 x4 x5 : Int32, (wr (wr (wr (wr (wr D (20 + 1) m x1) (20 + 2) m x2) (20 + 3) m x3) (20 + 4) m x4) 20 5 x5) 21 = upd (D 21) m x1 := fun x1 x2 x3 x4 x5 => by
              rw [wr_ne (by omega), wr_ne (by omega), wr_ne (by omega), wr_ne (by omega)]; exact wr_at D 21 m x1
            have e22 : ∀ x1 x2 x3 x4 x5 : Int32, (wr (wr (wr (wr (wr D (20 + 1) m x1) (20 + 2) m x2) (20 + 3) m x3) (20 + 4) m x4) 20 5 x5) 22 = upd (D 22) m x2 := fun x1 x2 x3 x4 x5 => by
              rw [wr_ne (by omega), wr_ne (by omega), wr_ne (by omega)]
              refine (wr_at (wr D (20 + 1) m x1) 22 m x2).trans ?_
              rw [wr_ne (by omega)]
            have e23 : ∀ x1 x2 x3 x4 x5 : Int32, (wr (wr (wr (wr (wr D (20 + 1) m x1) (20 + 2) m x2) (20 + 3) m x3) (20 + 4) m x4) 20 5 x5) 23 = upd (D 23) m x3 := fun x1 x2 x3 x4 x5 => by
              rw [wr_ne (by omega), wr_ne (by omega)]
              refine (wr_at (wr (wr D (20 + 1) m x1) (20 + 2) m x2) 23 m x3).trans ?_
              rw [wr_ne (by omega), wr_ne (by omega)]
            have e24 : ∀ x1 x2 x3 x4 x5 : Int32, (wr (wr (wr (wr (wr D (20 + 1) m x1) (20 + 2) m x2) (20 + 3) m x3) (20 + 4) m x4) 20 5 x5) 24 = upd (D 24) m x4 := fun x1 x2 x3 x4 x5 => by
              rw [wr_ne (by omega)]
              refine (wr_at (wr (wr (wr D (20 + 1) m x1) (20 + 2) m x2) (20 + 3) m x3) 24 m x4).trans ?_
              rw [wr_ne (by omega), wr_ne (by omega), wr_ne (by omega)]
            rw [e21, e22, e23, e24]
            by_cases cj : j = m
            · subst cj
              rw [upd_at, upd_at, upd_at, upd_at, ← hp]
              exact ⟨rfl, rfl, rfl, rfl⟩
            · rw [upd_ne cj, upd_ne cj, upd_ne cj, upd_ne cj]
              exact hd.2 j (by omega)
