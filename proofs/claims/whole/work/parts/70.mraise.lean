/-! raise: the model -/
def slR (S : SstT) (R : Nat → Int) : Nat → Int := fun i => sS S.2.2.2.1.1 i + R i
theorem sSls_set (S : SstT) (s : Nat → Int) (i : Nat) (v : Int) : sSill (sSls S s) i v = sSls S (fu s i v) := rfl
theorem slR_fu (S : SstT) (R : Nat → Int) (i : Nat) (k : Int) : fu (slR S R) i (slR S R i - R i + k) = slR S (fu R i k) := by
  funext j
  unfold slR
  by_cases c : j = i
  · subst c; rw [fu_at, fu_at]; omega
  · rw [fu_ne c, fu_ne c]
theorem slR_0 (S : SstT) : sSls S (slR S (fun _ => 0)) = S := by
  have : slR S (fun _ => 0) = S.2.2.2.1.1.2.2.2.2.2.1 := by
    funext j
    show S.2.2.2.1.1.2.2.2.2.2.1 j + 0 = _
    omega
  show sStr S (bSR S.2.2.2.1.1 (slR S (fun _ => 0)) (rR S.2.2.2.1.1), S.2.2.2.1.2) = S
  rw [this]; rfl
theorem sumN_fu {R : Nat → Int} {i : Nat} (h : R i = 0) (k : Int) : ∀ n, sumN (fu R i k) n = sumN R n + (if i < n then k else 0) := by
  intro n
  induction n with
  | zero => show (0 : Int) = 0 + _; rw [if_neg (by omega)]; rfl
  | succ n ih =>
    show sumN (fu R i k) n + fu R i k n = sumN R n + R n + _
    rw [ih]
    by_cases c : n = i
    · subst c; rw [fu_at, if_neg (by omega), if_pos (by omega), h]
    · rw [fu_ne c]
      by_cases d : i < n
      · rw [if_pos d, if_pos (by omega)]; omega
      · rw [if_neg d, if_neg (by omega)]; omega
theorem sumN_le1 {R : Nat → Int} {n : Nat} (h : ∀ i, 0 ≤ R i) : ∀ i, i < n → R i ≤ sumN R n := by
  induction n with
  | zero => intro i hi; omega
  | succ n ih =>
    intro i hi
    have := sumN_p (f := R) (n := n) (fun i _ => h i)
    have := h n
    simp only [sumN]
    by_cases c : i = n
    · subst c; omega
    · have := ih i (by omega); omega
theorem sumN_same {R f : Nat → Int} {n : Nat} (h : ∀ i, i < n → f i ≤ R i) : sumN f n ≤ sumN R n ∧ (sumN R n ≤ sumN f n → ∀ i, i < n → R i = f i) := by
  induction n with
  | zero => exact ⟨Int.le_refl _, fun _ i hi => by omega⟩
  | succ n ih =>
    obtain ⟨i1, i2⟩ := ih (fun i hi => h i (by omega))
    have := h n (by omega)
    simp only [sumN]
    refine ⟨by omega, fun q i hi => ?_⟩
    by_cases c : i = n
    · subst c; omega
    · exact i2 (by omega) i (by omega)
/-- what a call of raises gives -/
def RsR (D D1 : Dt) (S : SstT) (p i : Nat) (R : Nat → Int) (left : Nat) (b : Bool) : Prop :=
  MRep D1 (sSls S (slR S R)) ∧ FrM D D1 ∧ (b = true ↔ ((∀ j, j < i → R j = ndZ S p j) ∧ sumN (ndZ S p) i + (left : Int) = ndN S p)) ∧ (∀ j, j < i → D1 205 j = D 205 j) ∧ (b = true → ∀ j, i ≤ j → j < S.2.2.2.1.1.1 → D1 205 j = zI (ndZ S p j))
theorem m_raises {S : SstT} (ho : Ok S) (hs : SlOk S) (hn : 0 < S.2.2.2.1.1.1) {p : Nat} (hp : p < 256) : ∀ (d i left : Nat) (R : Nat → Int) (D : Dt) (x : Nat), i + d = S.2.2.2.1.1.1 → (∀ j, 0 ≤ R j) → (∀ j, i ≤ j → R j = 0) → sumN R S.2.2.2.1.1.1 + (left : Int) ≤ 4 → sumN R S.2.2.2.1.1.1 + (left : Int) ≤ ndN S p → MRep D (sSls S (slR S R)) →
    ∃ (D1 : Dt) (b : Bool), f_Model_raises (x + (d + 1)) (zI p) (zI i) (zI left) D = some (if b = true then 1 else 0, D1) ∧ RsR D D1 S p i R left b := by
  have h8 := ho.2.1.1.1
  have hok : ∀ R : Nat → Int, (∀ j, 0 ≤ R j) → sumN R S.2.2.2.1.1.1 ≤ 4 → Ok (sSls S (slR S R)) := fun R h1 h2 => ho.sls (fun i hi => by
    have a1 := hs.1 i hi
    have a2 := (ho.2.1.1.2.2.2 i hi).2.2.1
    have a3 := sumN_le1 h1 i hi
    have a4 := h1 i
    show 0 ≤ sS S.2.2.2.1.1 i + R i ∧ sS S.2.2.2.1.1 i + R i ≤ 100
    omega)
  have hnd : ∀ i, i < S.2.2.2.1.1.1 → 0 ≤ ndZ S p i := fun i hi => ((nd_b ho hn p (show i < 8 by omega)).2.1 hi).1
  intro d
  induction d with
  | zero =>
    intro i left R D x hi hR0 hRi h4 hN hM
    obtain rfl : i = S.2.2.2.1.1.1 := by omega
    have hRp := sumN_p (f := R) (n := S.2.2.2.1.1.1) (fun i _ => hR0 i)
    show ∃ (D1 : Dt) (b : Bool), itr _ e_Model_raises (x + 1) (zI p) (zI (S.2.2.2.1.1.1 : Nat)) (zI left) D = _ ∧ _
    rw [itr_s]
    unfold e_Model_raises
    rw [show D 176 10 = zI (S.2.2.2.1.1.1 : Nat) from hM.2.2.2.1.1.1, if_pos rfl, show (0 : Int32) = zI ((0 : Nat) : Int) from rfl, if_cg (zI_le (by omega) (by omega) (by omega) (by omega))]
    by_cases c : left = 0
    · subst c
      rw [if_pos (by omega)]
      have hok1 := hok R hR0 (by omega)
      obtain ⟨L, l1, l2, l3, l4, l5, l6⟩ := m_layTuesday hM hok1 hn hp
      have h35 : L 176 35 = zI (hrm (sSls S (slR S R)) p) := l2.1.2.1
      have hb : 0 ≤ hrm (sSls S (slR S R)) p ∧ hrm (sSls S (slR S R)) p ≤ 1152 := hrm_b hok1 hn p
      have h0 := harm0 (R := R) ho hn (fun i hi => ⟨hR0 i, by
        have a1 := hs.1 i hi
        have a3 := sumN_le1 hR0 i hi
        omega⟩) p
      refine ⟨L, decide (hrm (sSls S (slR S R)) p = 0), ?_, l3, l4, ?_, fun j _ => by rw [l6 205 (by omega)], fun _ j a b => by omega⟩
      · rw [l1, bnd_s, h35, show zI ((0 : Nat) : Int) = zI 0 from rfl, if_cg (zI_eq (by omega) (by omega) (by omega) (by omega))]
        by_cases g : hrm (sSls S (slR S R)) p = 0
        · rw [if_pos g, if_pos (decide_eq_true g)]
        · rw [if_neg g, if_neg (fun q => g (of_decide_eq_true q))]
      · rw [decide_eq_true_eq]
        refine h0.trans ⟨fun q => ⟨(sumN_same q).2 (by unfold ndN at hN; omega), by unfold ndN; omega⟩, fun q j hj => by rw [q.1 j hj]; exact Int.le_refl _⟩
    · rw [if_neg (by omega)]
      refine ⟨D, false, rfl, hM, fun _ _ => rfl, ⟨fun q => (by cases q), fun q => ?_⟩, fun _ _ => rfl, fun q => (by cases q)⟩
      have := q.2
      unfold ndN at this
      omega
  | succ d ih =>
    intro i left R D x hi hR0 hRi h4 hN hM
    have hin : i < S.2.2.2.1.1.1 := by omega
    have i8 : inb (zI (i : Int)) 8 = true := inb_t (by omega) (by omega) (by omega)
    have hRp := sumN_p (f := R) (n := S.2.2.2.1.1.1) (fun i _ => hR0 i)
    have hle : ∀ e, sumN (ndZ S p) (i + 1) + e = ndN S p → 0 ≤ e ∨ True := fun _ _ => Or.inr trivial
    have hsplit : sumN (ndZ S p) (i + 1) = sumN (ndZ S p) i + ndZ S p i := rfl
    have hmono : sumN (ndZ S p) (i + 1) ≤ ndN S p := by
      unfold ndN
      have go : ∀ e, i + 1 + e ≤ S.2.2.2.1.1.1 → sumN (ndZ S p) (i + 1) ≤ sumN (ndZ S p) (i + 1 + e) := by
        intro e
        induction e with
        | zero => intro _; exact Int.le_refl _
        | succ e ih2 =>
          intro he
          have a1 := ih2 (by omega)
          have a2 := hnd (i + 1 + e) (by omega)
          show _ ≤ sumN (ndZ S p) (i + 1 + e) + ndZ S p (i + 1 + e)
          omega
      have := go d (by omega)
      rw [show i + 1 + d = S.2.2.2.1.1.1 by omega] at this
      exact this
    have loop : ∀ (e k m : Nat) (D : Dt), k + e = left + 1 → MRep D (sSls S (slR S R)) → ∃ (D1 : Dt) (b : Bool), itr (fun _ _ _ _ _ _ => none) (s_Model_raises_38 (f_Model_raises (x + (d + 1)))) (m + e + 1) (zI p) (zI i) (zI left) 0 (zI k) D = some (if b = true then 1 else 0, D1) ∧ MRep D1 (sSls S (slR S R)) ∧ FrM D D1 ∧ (b = true ↔ ((∀ j, j < i → R j = ndZ S p j) ∧ sumN (ndZ S p) i + (left : Int) = ndN S p ∧ (k : Int) ≤ ndZ S p i)) ∧ (∀ j, j < i → D1 205 j = D 205 j) ∧ (b = true → ∀ j, i ≤ j → j < S.2.2.2.1.1.1 → D1 205 j = zI (ndZ S p j)) := by
      intro e
      induction e with
      | zero =>
        intro k m D hk hM
        rw [Nat.add_zero, itr_s]
        unfold s_Model_raises_38
        rw [if_pos ((zI_lt (by omega) (by omega) (by omega) (by omega)).mpr (by omega)), if_pos (Or.inl rfl)]
        refine ⟨D, false, rfl, hM, fun _ _ => rfl, ⟨fun q => (by cases q), fun q => ?_⟩, fun _ _ => rfl, fun q => (by cases q)⟩
        omega
      | succ e ih2 =>
        intro k m D hk hM
        have hR1 : ∀ j, 0 ≤ fu R i (k : Int) j := fun j => by
          by_cases c : j = i
          · subst c; rw [fu_at]; omega
          · rw [fu_ne c]; exact hR0 j
        have hsum : sumN (fu R i (k : Int)) S.2.2.2.1.1.1 = sumN R S.2.2.2.1.1.1 + k := by rw [sumN_fu (hRi i (Nat.le_refl _)), if_pos hin]
        have g3 : D 185 i = zI (slR S R i) := (hM.2.2.2.1.1.at (hok R hR0 (by omega)).2.1.1 (show i < S.2.2.2.1.1.1 from hin)).2.2.1
        have hM1 : MRep (wr D 205 i (zI (k : Int))) (sSls S (slR S R)) := hM.congr (fun j _ => by rw [wr_ne (by omega)]) (fun q hq => by
          rw [wr_ne]
          intro e; subst e; revert hq; decide)
        have hM2 := m_setSill hM1 (hok R hR0 (by omega)) (i := i) (slR S R i - R i + k)
        rw [sSls_set, slR_fu, hRi i (Nat.le_refl _), Int.sub_zero] at hM2
        obtain ⟨L, b, l1, l2, l3, l4, l5, l6⟩ := ih (i + 1) (left - k) (fu R i (k : Int)) _ x (by omega) hR1 (fun j hj => by rw [fu_ne (by omega)]; exact hRi j (by omega)) (by rw [hsum]; omega) (by rw [hsum]; omega) hM2
        have gL : L 185 i = zI (slR S R i + k) := by
          have := (l2.2.2.2.1.1.at (hok (fu R i (k : Int)) hR1 (by rw [hsum]; omega)).2.1.1 (show i < S.2.2.2.1.1.1 from hin)).2.2.1
          rw [this]
          show zI (S.2.2.2.1.1.2.2.2.2.2.1 i + fu R i (k : Int) i) = zI (S.2.2.2.1.1.2.2.2.2.2.1 i + R i + k)
          rw [fu_at, hRi i (Nat.le_refl _), Int.add_zero]
        have hM3 := m_setSill l2 (hok (fu R i (k : Int)) hR1 (by rw [hsum]; omega)) (i := i) (slR S R i)
        have eback : fu (slR S (fu R i (k : Int))) i (slR S R i) = slR S R := by
          funext j
          unfold slR
          by_cases c : j = i
          · subst c; rw [fu_at]
          · rw [fu_ne c, fu_ne c]
        rw [sSls_set, eback] at hM3
        have e1 : itr (fun _ _ _ _ _ _ => none) (s_Model_raises_38 (f_Model_raises (x + (d + 1)))) (m + (e + 1) + 1) (zI p) (zI i) (zI left) 0 (zI k) D = itr (fun _ _ _ _ _ _ => none) (s_Model_raises_38 (f_Model_raises (x + (d + 1)))) (m + e + 1) (zI p) (zI i) (zI left) (if b = true then 1 else 0) (zI ((k + 1 : Nat) : Int)) (wr L 185 i (zI (slR S R i))) := by
          rw [show m + (e + 1) + 1 = (m + e + 1) + 1 by omega, itr_s]
          generalize itr (fun _ _ _ _ _ _ => none) (s_Model_raises_38 (f_Model_raises (x + (d + 1)))) (m + e + 1) = kk
          unfold s_Model_raises_38
          rw [if_neg (by rw [zI_lt (by omega) (by omega) (by omega) (by omega)]; omega), if_pos rfl]
          simp only [i8, if_true, nm_s, zI_nat (show i < 2147483648 by omega)]
          rw [wr_ne (show 185 ≠ 205 by omega), g3, zI_add, zI_s, zI_sub, show (left : Int) - (k : Int) = ((left - k : Nat) : Int) by omega, l1, bnd_s, gL, zI_sub, show slR S R i + (k : Int) - (k : Int) = slR S R i by omega, zI_s]
        rw [e1]
        have fr1 : ∀ q, q < 176 → (wr L 185 i (zI (slR S R i))) q = D q := fun q hq => by rw [wr_ne (by omega), l3 q hq, wr_ne (by omega), wr_ne (by omega)]
        have pre : ∀ j, j < i → (wr L 185 i (zI (slR S R i))) 205 j = D 205 j := fun j hj => by rw [wr_ne (by omega), l5 j (by omega), wr_ne (by omega), wr_at, upd_ne (by omega)]
        have hb4 : b = true ↔ ((∀ j, j < i → R j = ndZ S p j) ∧ (k : Int) = ndZ S p i ∧ sumN (ndZ S p) i + (left : Int) = ndN S p) := by
          refine l4.trans ⟨fun q => ⟨fun j hj => ?_, ?_, ?_⟩, fun q => ⟨fun j hj => ?_, ?_⟩⟩
          · have := q.1 j (by omega); rw [fu_ne (by omega)] at this; exact this
          · have := q.1 i (by omega); rw [fu_at] at this; exact this
          · have a1 := q.1 i (by omega); rw [fu_at] at a1
            have a2 := q.2
            omega
          · by_cases c : j = i
            · subst c; rw [fu_at]; exact q.2.1
            · rw [fu_ne c]; exact q.1 j (by omega)
          · have a1 := q.2.1
            have a2 := q.2.2
            omega
        by_cases gb : b = true
        · rw [if_pos gb]
          refine ⟨wr L 185 i (zI (slR S R i)), true, ?_, hM3, fr1, ⟨fun _ => ⟨(hb4.mp gb).1, (hb4.mp gb).2.2, by have := (hb4.mp gb).2.1; omega⟩, fun _ => rfl⟩, pre, fun _ j a b2 => ?_⟩
          · rw [itr_s]
            unfold s_Model_raises_38
            rw [if_neg (show ¬ (1 : Int32) = 0 by decide), if_pos (Or.inr rfl)]
            by_cases c : zI (left : Int) < zI ((k + 1 : Nat) : Int)
            · rw [if_pos c]; rfl
            · rw [if_neg c]; rfl
          · rw [wr_ne (by omega)]
            by_cases c : j = i
            · subst c; rw [l5 j (by omega), wr_ne (by omega), wr_at, upd_at, (hb4.mp gb).2.1]
            · exact l6 gb j (by omega) b2
        · rw [if_neg gb]
          obtain ⟨D2, b2, y1, y2, y3, y4, y5, y6⟩ := ih2 (k + 1) m (wr L 185 i (zI (slR S R i))) (by omega) hM3
          refine ⟨D2, b2, y1, y2, fun q hq => by rw [y3 q hq, fr1 q hq], y4.trans ⟨fun q => ⟨q.1, q.2.1, by omega⟩, fun q => ⟨q.1, q.2.1, ?_⟩⟩, fun j hj => by rw [y5 j hj, pre j hj], y6⟩
          have a1 : ¬ (k : Int) = ndZ S p i := fun a => gb (hb4.mpr ⟨q.1, a, q.2.1⟩)
          have a2 := q.2.2
          omega
    obtain ⟨m, hm⟩ := FU_eq (n := left + 2) (by omega)
    obtain ⟨D1, b, y1, y2, y3, y4, y5, y6⟩ := loop (left + 1) 0 m D (by omega) hM
    refine ⟨D1, b, ?_, y2, y3, y4.trans ⟨fun q => ⟨q.1, q.2.1⟩, fun q => ⟨q.1, q.2, hnd i hin⟩⟩, y5, y6⟩
    show itr _ e_Model_raises (x + (d + 1) + 1) (zI p) (zI i) (zI left) D = _
    rw [itr_s]
    show e_Model_raises (f_Model_raises (x + (d + 1))) (zI p) (zI i) (zI left) D = _
    unfold e_Model_raises
    rw [show D 176 10 = zI (S.2.2.2.1.1.1 : Nat) from hM.2.2.2.1.1.1, if_neg (by rw [zI_eqn (by omega) (by omega)]; omega)]
    unfold lp_Model_raises_38
    rw [hm, show m + (left + 2) = m + (left + 1) + 1 by omega]
    exact y1
theorem m_raiseRow {D : Dt} {S : SstT} (h : MRep D S) (ho : Ok S) {r p a : Nat} (hr : r < 6) (h205 : ∀ j, j < S.2.2.2.1.1.1 → D 205 j = zI (ndZ S p j)) : ∃ D1, lp_Model_raise_56 FU (zI r) (zI a) 0 (wr D 178 r (zI (S.2.2.2.1.1.1 : Nat))) = some (zI a, D1) ∧ MRep D1 (sRow S r (((S.2.2.2.1.1.1 : Nat) : Int), fun i => zI (ndZ S p i))) ∧ FrM D D1 := by
  have h8 := ho.2.1.1.1
  unfold lp_Model_raise_56
  obtain ⟨m, hm⟩ := FU_eq (n := 61) (by omega)
  rw [hm, show m + 61 = (m + 1) + 60 by omega]
  generalize hF : wr D 178 r (zI (S.2.2.2.1.1.1 : Nat)) = F
  have Fk : ∀ k, k ≠ 178 → F k = D k := fun k a => by rw [← hF, wr_ne a]
  obtain ⟨K, ⟨k1, k2, k3⟩, e⟩ := itr_go (fun _ _ _ _ => none) s_Model_raise_56 (fun i (K : Dt) k => k (zI r) (zI a) (zI i) K) 60 (fun i (K : Dt) => (∀ j, j < i → K 179 (60 * r + j) = if j < S.2.2.2.1.1.1 then zI (ndZ S p j) else 0) ∧ (∀ q, (q < 60 * r ∨ 60 * r + 60 ≤ q) → K 179 q = F 179 q) ∧ ∀ k, k ≠ 179 → K k = F k)
    (fun i hi K z => by
      obtain ⟨z1, z2, z3⟩ := z
      refine ⟨wr K 179 (60 * r + i) (if i < S.2.2.2.1.1.1 then zI (ndZ S p i) else 0), ⟨fun j hj => ?_, fun q hq => by rw [wr_at, upd_ne (by omega)]; exact z2 q hq, fun k hk => by rw [wr_ne hk]; exact z3 k hk⟩, fun k => ?_⟩
      · rw [wr_at]
        by_cases cj : j = i
        · subst cj; rw [upd_at]
        · rw [upd_ne (by omega)]; exact z1 j (by omega)
      · have h10 : K 176 10 = zI (S.2.2.2.1.1.1 : Nat) := by rw [z3 176 (by omega), Fk 176 (by omega)]; exact h.2.2.2.1.1.1
        unfold s_Model_raise_56 b_Model_raise_94
        rw [if_neg (by rw [show (60 : Int32) = zI 60 from rfl, zI_le (by omega) (by omega) (by omega) (by omega)]; omega), h10, zI_p60, if_pos (inb_t (n := 360) (by omega) (by omega) (by omega)), if_pos (inb_t (n := 360) (by omega) (by omega) (by omega)), nm_s, nm_s, zI_nat (show 60 * r + i < 2147483648 by omega), zI_s, if_cg (zI_le (by omega) (by omega) (by omega) (by omega))]
        by_cases c2 : i < S.2.2.2.1.1.1
        · rw [if_neg (by omega), if_pos c2, if_pos (inb_t (by omega) (by omega) (by omega)), zI_nat (by omega), z3 205 (by omega), Fk 205 (by omega), h205 i c2]
        · rw [if_pos (by omega), if_neg c2])
    F ⟨fun j hj => by omega, fun _ _ => rfl, fun _ _ => rfl⟩
  have e := e (m + 1)
  refine ⟨K, ?_, ?_, fun k hk => by rw [k3 k (by omega), Fk k (by omega)]⟩
  · refine (show itr (fun _ _ _ _ => none) s_Model_raise_56 (m + 1 + 60) (zI r) (zI a) (zI ((0 : Nat) : Int)) F = _ from e.trans ?_)
    rw [itr_s]
    unfold s_Model_raise_56
    rw [if_pos (by decide)]
  · refine h.setRow ho.1 (r := r) ⟨by rw [k3 178 (by omega), ← hF, wr_at, upd_at], fun i hi => ?_⟩ (fun q _ hq => by rw [k3 178 (by omega), ← hF, wr_at, upd_ne hq]) (fun q i _ hq hi => by rw [k2 _ (by omega), Fk 179 (by omega)]) (fun k a b _ => by rw [k3 k b, Fk k a]) (fun j _ => by rw [k3 176 (by omega), Fk 176 (by omega)])
    have hi : (i : Int) < ((S.2.2.2.1.1.1 : Nat) : Int) := hi
    rw [k1 i (by omega), if_pos (by omega)]
theorem q_raise {D : Dt} {S : SstT} (h : MRep D S) (ho : Ok S) (hs : SlOk S) (v1 v2 : Int32) : MDo (f_Model_raise v1 v2 D) D (sp_raise v1 v2 S).1 (sp_raise v1 v2 S).2 := by
  have h8 := ho.2.1.1.1
  unfold f_Model_raise sp_raise
  rw [m_isPlan, bnd_s, zo_if, m_isRow, bnd_s, zo_if, if_cg (m_n0 h ho)]
  by_cases c : wi v1 0 255 = true
  · by_cases c0 : wi v2 0 5 = true
    · rw [if_pos c, if_pos c0, if_pos (And.intro c0 c)]
      by_cases d : 0 < S.2.2.2.1.1.1
      · rw [if_neg (fun q => q d), if_pos d]
        obtain ⟨p, hp, -, rfl⟩ := wi_nat c (by omega)
        obtain ⟨r, hr, -, rfl⟩ := wi_nat c0 (by omega)
        rw [zI_toInt (show -2147483648 ≤ (p : Int) by omega) (show (p : Int) < 2147483648 by omega), zI_toInt (show -2147483648 ≤ (r : Int) by omega) (show (r : Int) < 2147483648 by omega), Int.toNat_natCast, Int.toNat_natCast]
        have hin : inb (zI (r : Int)) 6 = true := inb_t (by omega) (by omega) (by omega)
        have nb : 0 ≤ ndN S p := sumN_p (fun i hi => ((nd_b ho d p (show i < 8 by omega)).2.1 hi).1)
        have loop : ∀ (e a m : Nat) (F : Dt), a + e = 5 → (a : Int) ≤ ndN S p → MRep F S → FrM D F → MDo (itr (fun _ _ _ _ => none) s_Model_raise_28 (m + e + 1) (zI p) (zI r) (zI a) F) D (if ndN S p ≤ 4 then (zI (ndN S p), sRow S r (((S.2.2.2.1.1.1 : Nat) : Int), fun i => zI (ndZ S p i))) else (-9, S)).1 (if ndN S p ≤ 4 then (zI (ndN S p), sRow S r (((S.2.2.2.1.1.1 : Nat) : Int), fun i => zI (ndZ S p i))) else (-9, S)).2 := by
          intro e
          induction e with
          | zero =>
            intro a m F ha hN hF fr
            rw [Nat.add_zero, itr_s, if_neg (by omega)]
            unfold s_Model_raise_28
            rw [if_pos (by rw [show (4 : Int32) = zI 4 from rfl, zI_lt (by omega) (by omega) (by omega) (by omega)]; omega)]
            exact ⟨F, rfl, hF, fr⟩
          | succ e ih =>
            intro a m F ha hN hF fr
            have hF0 : MRep F (sSls S (slR S (fun _ => 0))) := by rw [slR_0]; exact hF
            obtain ⟨G, b, g1, g2, g3, g4, g5, g6⟩ := m_raises ho hs d (show p < 256 by omega) S.2.2.2.1.1.1 0 a (fun _ => 0) F (9 - S.2.2.2.1.1.1) (by omega) (fun _ => Int.le_refl _) (fun _ _ => rfl) (by rw [sumN_0]; omega) (by rw [sumN_0]; omega) hF0
            rw [show 9 - S.2.2.2.1.1.1 + (S.2.2.2.1.1.1 + 1) = 10 by omega] at g1
            rw [slR_0] at g2
            have fr2 : FrM D G := fun k hk => by rw [g3 k hk, fr k hk]
            have g4' : b = true ↔ (a : Int) = ndN S p := by
              refine g4.trans ⟨fun q => ?_, fun q => ⟨fun j hj => by omega, ?_⟩⟩
              · have := q.2
                rw [show sumN (ndZ S p) 0 = 0 from rfl] at this
                omega
              · rw [show sumN (ndZ S p) 0 = 0 from rfl]; omega
            rw [show m + (e + 1) + 1 = (m + e + 1) + 1 by omega, itr_s]
            have ih := ih (a + 1) m G (by omega)
            generalize itr (fun _ _ _ _ => none) s_Model_raise_28 (m + e + 1) = kk at ih
            unfold s_Model_raise_28
            rw [if_neg (by rw [show (4 : Int32) = zI 4 from rfl, zI_lt (by omega) (by omega) (by omega) (by omega)]; omega), show (0 : Int32) = zI ((0 : Nat) : Int) from rfl]
            rw [g1, bnd_s]
            by_cases gb : b = true
            · have ha2 := g4'.mp gb
              rw [if_pos gb, if_neg (show ¬ (1 : Int32) = zI ((0 : Nat) : Int) by decide), if_pos hin, nm_s, zI_nat (by omega), show G 176 10 = zI (S.2.2.2.1.1.1 : Nat) from g2.2.2.2.1.1.1, if_pos (by omega)]
              obtain ⟨K, k1, k2, k3⟩ := m_raiseRow g2 ho (r := r) (p := p) (a := a) (by omega) (fun j hj => g6 gb j (by omega) hj)
              refine ⟨K, ?_, k2, fun k hk => by rw [k3 k hk, fr2 k hk]⟩
              rw [← ha2]
              exact k1
            · rw [if_neg gb, if_pos (show (0 : Int32) = zI ((0 : Nat) : Int) from rfl), zI_s]
              have : ¬ (a : Int) = ndN S p := fun q => gb (g4'.mpr q)
              exact ih (by omega) g2 fr2
        unfold lp_Model_raise_28
        obtain ⟨m, hm⟩ := FU_eq (n := 6) (by omega)
        rw [hm, show m + 6 = m + 5 + 1 by omega]
        exact loop 5 0 m D (by omega) (by omega) h (fun _ _ => rfl)
      · rw [if_pos d, if_neg d]
        exact MDo.same h _
    · rw [if_pos c, if_neg c0, if_neg (fun q => c0 q.1)]
      exact MDo.same h _
  · rw [if_neg c, if_neg (fun q => c q.2)]
    exact MDo.same h _
