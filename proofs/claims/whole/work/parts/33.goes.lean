/-! the model's hour -/
theorem MBed.at {D : Dt} {B : BedT} (h : MBed D B) (hB : BOk B) {j : Nat} (hj : j < B.1) : D 183 j = zI (kK B j) ∧ D 184 j = zI (fF B j) ∧ D 185 j = zI (sS B j) ∧ D 186 j = zI (rR B j) ∧ D 187 j = zI (hH B j) := h.2.2.2 j (by have := hB.1; omega) hj
theorem MBed.fl {D : Dt} {B : BedT} (h : MBed D B) (hn : 0 < B.1) : D 176 8 = zI B.2.1 ∧ D 176 9 = zI B.2.2.1 := by
  have h1 := h.2.1
  have h2 := h.2.2.1
  rw [if_neg (by omega)] at h1 h2
  exact ⟨h1, h2⟩
theorem zI_p26 (f i : Nat) : (26 : Int32) * zI f + zI i = zI ((26 * f + i : Nat) : Int) := by
  rw [show (26 : Int32) = zI 26 from rfl, zI_mul, zI_add]; congr 1
theorem zI_0p (i : Nat) : (0 : Int32) + zI i = zI i := by rw [show (0 : Int32) = zI 0 from rfl, zI_add, Int.zero_add]
theorem zI_8p (i : Nat) : (8 : Int32) + zI i = zI ((8 + i : Nat) : Int) := by rw [show (8 : Int32) = zI 8 from rfl, zI_add]; rfl
theorem zI_16p (i : Nat) : (16 : Int32) + zI i = zI ((16 + i : Nat) : Int) := by rw [show (16 : Int32) = zI 16 from rfl, zI_add]; rfl
theorem m_v {f i : Nat} (hf : f < 2) (hi : i < 26) (D : Dt) : f_Model_v (zI f) (zI i) D = some (D 189 (26 * f + i), D) := by
  unfold f_Model_v
  rw [zI_p26, if_pos (inb_t (by omega) (by omega) (by omega)), zI_nat (by omega)]
theorem m_place {f i : Nat} (hf : f < 2) (hi : i < 26) (x : Int32) (D : Dt) : f_Model_place (zI f) (zI i) x D = some ((), wr D 189 (26 * f + i) x) := by
  unfold f_Model_place
  rw [zI_p26, if_pos (inb_t (by omega) (by omega) (by omega)), zI_nat (by omega), nm_s]
theorem m_add {f i : Nat} (hf : f < 2) (hi : i < 26) (x : Int32) (D : Dt) : f_Model_add (zI f) (zI i) x D = some ((), wr D 189 (26 * f + i) (D 189 (26 * f + i) + x)) := by
  unfold f_Model_add
  rw [zI_p26, if_pos (inb_t (by omega) (by omega) (by omega)), if_pos (inb_t (by omega) (by omega) (by omega)), zI_nat (by omega), nm_s]
theorem m_lesser {a b : Int} (h1 : -2147483648 ≤ a) (h2 : a < 2147483648) (h3 : -2147483648 ≤ b) (h4 : b < 2147483648) (D : Dt) : f_Model_lesser (zI a) (zI b) D = some (zI (min a b), D) := by
  unfold f_Model_lesser
  by_cases c : b ≤ a
  · rw [if_pos ((zI_le h3 h4 h1 h2).mpr c), Int.min_eq_right c]
  · rw [if_neg (fun q => c ((zI_le h3 h4 h1 h2).mp q)), Int.min_eq_left (by omega)]
theorem m_greater {a b : Int} (h1 : -2147483648 ≤ a) (h2 : a < 2147483648) (h3 : -2147483648 ≤ b) (h4 : b < 2147483648) (D : Dt) : f_Model_greater (zI a) (zI b) D = some (zI (max a b), D) := by
  unfold f_Model_greater
  by_cases c : a ≤ b
  · rw [if_pos ((zI_le h1 h2 h3 h4).mpr c), Int.max_eq_right c]
  · rw [if_neg (fun q => c ((zI_le h1 h2 h3 h4).mp q)), Int.max_eq_left (by omega)]
theorem m_higher {D : Dt} {f i : Nat} {B : BedT} {a : Nat → Int} (hf : f < 2) (hb : MBed D B) (hB : BOk B) (ha : ∀ j, j < 8 → D 189 (26 * f + j) = zI (a j)) (hi : i < B.1) : f_Model_higher (zI f) (zI i) D = some (zI (drpZ B a i), D) := by
  have h8 := hB.1
  unfold f_Model_higher b_Model_higher_36
  rw [hb.1, show (1 : Int32) = zI 1 from rfl, zI_sub, zI_0p]
  simp only [inb_t (show (0 : Int) ≤ (i : Int) by omega) (show (i : Int) < (8 : Nat) by omega) (by omega), if_true, zI_nat (show i < 2147483648 by omega), (hb.at hB hi).2.1, m_v hf (show i < 26 by omega), bnd_s, ha i (by omega), zI_add]
  unfold drpZ nxtZ
  by_cases c : i + 1 < B.1
  · rw [if_neg (by rw [zI_eq (by omega) (by omega) (by omega) (by omega)]; omega), if_pos c, show ((i : Int) + 1) = ((i + 1 : Nat) : Int) from rfl]
    simp only [inb_t (show (0 : Int) ≤ ((i + 1 : Nat) : Int) by omega) (show ((i + 1 : Nat) : Int) < (8 : Nat) by omega) (by omega), if_true, zI_nat (show i + 1 < 2147483648 by omega), (hb.at hB c).2.1, (hb.at hB hi).2.1, m_v hf (show i + 1 < 26 by omega), m_v hf (show i < 26 by omega), bnd_s, ha (i + 1) (by omega), ha i (by omega), zI_add, zI_sub]
  · rw [if_pos (by rw [zI_eq (by omega) (by omega) (by omega) (by omega)]; omega), if_neg c, (hb.fl (by omega)).2, zI_sub]
theorem m_runOf {D : Dt} {f i : Nat} {B : BedT} {a : Nat → Int} (hf : f < 2) (hb : MBed D B) (hB : BOk B) (ha : ∀ j, j < 8 → D 189 (26 * f + j) = zI (a j)) (hi : i < B.1) (h0 : 0 ≤ a i) (h1 : a i < 1000000) (d1 : -1000000 ≤ drpZ B a i) (d2 : drpZ B a i < 1000000) : f_Model_runOf (zI f) (zI i) D = some (zI (runZ B a i), D) := by
  have h8 := hB.1
  obtain ⟨⟨k0, k5⟩, -, -, -, h01⟩ := hB.2.2.2 i hi
  obtain ⟨e1, -, -, -, e5⟩ := hb.at hB hi
  have tail : ∀ r : Int, 0 ≤ r → r < 2000000 → b_Model_runOf_31 (zI i) (zI r) D = some (zI (if hH B i = 1 then 0 else if kK B i = 3 ∨ kK B i = 5 then min r 2 else r), D) := by
    intro r r0 r1
    unfold b_Model_runOf_31 b_Model_runOf_67
    rw [show (2 : Int32) = zI 2 from rfl]
    simp only [m_lesser (show -2147483648 ≤ r by omega) (show r < 2147483648 by omega) (show -2147483648 ≤ (2 : Int) by omega) (show (2 : Int) < 2147483648 by omega), bnd_s, inb_t (show (0 : Int) ≤ (i : Int) by omega) (show (i : Int) < (8 : Nat) by omega) (by omega), if_true, zI_nat (show i < 2147483648 by omega), e1, e5, show (1 : Int32) = zI 1 from rfl, show (3 : Int32) = zI 3 from rfl, show (5 : Int32) = zI 5 from rfl, zI_eq (show -2147483648 ≤ hH B i by omega) (show hH B i < 2147483648 by omega) (show -2147483648 ≤ (1 : Int) by omega) (show (1 : Int) < 2147483648 by omega), zI_eq (show -2147483648 ≤ kK B i by omega) (show kK B i < 2147483648 by omega) (show -2147483648 ≤ (3 : Int) by omega) (show (3 : Int) < 2147483648 by omega), zI_eq (show -2147483648 ≤ kK B i by omega) (show kK B i < 2147483648 by omega) (show -2147483648 ≤ (5 : Int) by omega) (show (5 : Int) < 2147483648 by omega)]
    by_cases c : hH B i = 1
    · simp only [c, if_true]; rfl
    · simp only [c, if_false]
      by_cases d : kK B i = 3
      · simp only [d, if_true, true_or]
      · simp only [d, if_false, false_or]
        by_cases d2 : kK B i = 5
        · simp only [d2, if_true]
        · simp only [d2, if_false]
  unfold f_Model_runOf
  rw [m_higher hf hb hB ha hi, bnd_s]
  unfold runZ halfZ
  by_cases c : drpZ B a i ≤ 0
  · rw [if_neg (by rw [show (0 : Int32) = zI 0 from rfl, zI_lt (by omega) (by omega) (by omega) (by omega)]; omega), if_pos c]
    exact tail 0 (by omega) (by omega)
  · rw [if_pos (by rw [show (0 : Int32) = zI 0 from rfl, zI_lt (by omega) (by omega) (by omega) (by omega)]; omega), if_neg c, if_neg (by decide), zI_0p, m_v hf (by omega), bnd_s, zI_1, show (2 : Int32) = zI 2 from rfl, zI_div (by omega) (by omega) (by omega) (by omega), ha i (by omega), m_lesser (by omega) (by omega) (by omega) (by omega), bnd_s]
    exact tail _ (by omega) (by omega)
theorem m_groundBy {k r : Int} (k0 : 0 ≤ k) (k5 : k ≤ 5) (h0 : 0 ≤ r) (h1 : r < 1000000) (D : Dt) : f_Model_groundBy (zI k) (zI r) D = some (zI (grdZ k r), D) := by
  unfold f_Model_groundBy b_Model_groundBy_14 grdZ
  simp only [show (1 : Int32) = zI 1 from rfl, show (4 : Int32) = zI 4 from rfl, show (2 : Int32) = zI 2 from rfl, zI_eq (show -2147483648 ≤ k by omega) (show k < 2147483648 by omega) (show -2147483648 ≤ (4 : Int) by omega) (show (4 : Int) < 2147483648 by omega), zI_eq (show -2147483648 ≤ k by omega) (show k < 2147483648 by omega) (show -2147483648 ≤ (1 : Int) by omega) (show (1 : Int) < 2147483648 by omega), zI_lt (show -2147483648 ≤ r by omega) (show r < 2147483648 by omega) (show -2147483648 ≤ (2 : Int) by omega) (show (2 : Int) < 2147483648 by omega), zI_div h0 (show r < 2147483648 by omega) (show (0 : Int) < 2 by omega) (show (2 : Int) < 2147483648 by omega)]
  by_cases c : k = 4
  · rw [if_neg (by omega), if_pos c, if_pos c, if_neg (by decide)]
  · by_cases d : k = 1
    · rw [if_pos d]
      by_cases q : r < 2
      · rw [if_pos q, if_neg c, if_neg c, if_neg (by omega)]; rfl
      · rw [if_neg q, if_neg c, if_pos (by omega)]
    · rw [if_neg d, if_neg c, if_neg c, if_neg (by omega)]; rfl
theorem rdN_out {B : BedT} {x0 : RdT} : ∀ i, i < B.1 → (rdN B i x0).2.2.1 = x0.2.2.1 := by
  intro i
  induction i with
  | zero => intro _; rfl
  | succ i ih =>
    intro hi
    show (if i + 1 < B.1 then (rdN B i x0).2.2.1 else _) = _
    rw [if_pos hi]; exact ih (by omega)
/-- the model's water on the way down, from place p of its row, houses below i done -/
def MRd (D : Dt) (p i : Nat) (x0 x : RdT) : Prop := (∀ j, j < 8 → D 189 (p + j) = zI (x.1 j)) ∧ (∀ j, j < 8 → D 189 (p + (16 + j)) = zI (x.2.1 j)) ∧ D 189 (p + 25) = zI x.2.2.1 ∧ (∀ j, j < i → D 190 j = zI (x.2.2.2 j)) ∧ D 176 25 = zI (x.2.2.1 - x0.2.2.1)
/-- which places of 189 the way down leaves -/
def keepRd (D D1 : Dt) (p : Nat) : Prop := (∀ q, (q < p ∨ p + 26 ≤ q ∨ (p + 8 ≤ q ∧ q < p + 16) ∨ q = p + 24) → D1 189 q = D 189 q) ∧ (∀ j, j ≠ 25 → D1 176 j = D 176 j) ∧ ∀ k, k ≠ 176 → k ≠ 189 → k ≠ 190 → D1 k = D k
theorem keepRd.bed {D D1 : Dt} {p : Nat} {B : BedT} (h : keepRd D D1 p) (hb : MBed D B) : MBed D1 B := hb.congr (h.2.1 8 (by omega)) (h.2.1 9 (by omega)) (h.2.1 10 (by omega)) (fun k a b => h.2.2 k (by omega) (by omega) (by omega))
theorem upd_sh {f : Nat → Int32} {g : Nat → Int} {n p i : Nat} (h : ∀ j, j < n → f (p + j) = zI (g j)) (v : Int) : ∀ j, j < n → upd f (p + i) (zI v) (p + j) = zI (fu g i v j) := by
  intro j hj
  by_cases e : j = i
  · subst e; rw [upd_at, fu_at]
  · rw [upd_ne (by omega), fu_ne e]; exact h j hj
theorem m_rdStep {D : Dt} {f i : Nat} {B : BedT} {x0 x : RdT} (hf : f < 2) (hb : MBed D B) (hB : BOk B) (hx : MRd D (26 * f) i x0 x) (hi : i < B.1) (ho : x.2.2.1 = x0.2.2.1) (h0 : ∀ j, 0 ≤ x.1 j) (h1 : ∀ j, j < 8 → x.1 j < 900000) :
    ∃ D1, MRd D1 (26 * f) (i + 1) x0 (rdS B i x) ∧ keepRd D D1 (26 * f) ∧ ∀ k, s_Model_goes_32 k (zI f) (zI i) D = k (zI f) (zI ((i + 1 : Nat) : Int)) D1 := by
  have h8 := hB.1
  obtain ⟨x1, x2, x3, x4, x5⟩ := hx
  obtain ⟨d1, d2⟩ := drp_le hB hi h0 h1
  have r0 := h0 i
  have r1 := h1 i (by omega)
  obtain ⟨q1, q2⟩ := runZ_ok (B := B) (a := x.1) (i := i) r0
  obtain ⟨⟨k0, k5⟩, -⟩ := hB.2.2.2 i hi
  have hrun := m_runOf hf hb hB x1 hi r0 (by omega) d1 d2
  unfold rdS
  generalize hr : runZ B x.1 i = r at *
  -- what is written, in its order
  generalize hE : wr (wr (wr D 190 i (zI r)) 189 (26 * f + i) (zI (x.1 i - r))) 189 (26 * f + (16 + i)) (zI (x.2.1 i + grdZ (kK B i) r)) = E
  have E9 : ∀ q, E 189 q = upd (upd (D 189) (26 * f + i) (zI (x.1 i - r))) (26 * f + (16 + i)) (zI (x.2.1 i + grdZ (kK B i) r)) q := fun q => by
    rw [← hE, wr_at, wr_at, wr_ne (by omega)]
  have E0 : E 190 = upd (D 190) i (zI r) := by rw [← hE, wr_ne (by omega), wr_ne (by omega), wr_at]
  have Ek : ∀ k, k ≠ 189 → k ≠ 190 → E k = D k := fun k a b => by rw [← hE, wr_ne a, wr_ne a, wr_ne b]
  have a1 : ∀ j, j < 8 → E 189 (26 * f + j) = zI (fu x.1 i (x.1 i - r) j) := fun j hj => by
    rw [E9, upd_ne (by omega)]; exact upd_sh x1 _ j hj
  have a2 : ∀ j, j < 8 → E 189 (26 * f + (16 + j)) = zI (fu x.2.1 i (x.2.1 i + grdZ (kK B i) r) j) := fun j hj => by
    rw [E9]
    by_cases e : j = i
    · subst e; rw [upd_at, fu_at]
    · rw [upd_ne (by omega), upd_ne (by omega), fu_ne e]; exact x2 j hj
  have a4 : ∀ j, j < i + 1 → E 190 j = zI (fu x.2.2.2 i r j) := fun j hj => by
    rw [E0]
    by_cases e : j = i
    · subst e; rw [upd_at, fu_at]
    · rw [upd_ne e, fu_ne e]; exact x4 j (by omega)
  have a3 : E 189 (26 * f + 25) = zI x.2.2.1 := by rw [E9, upd_ne (by omega), upd_ne (by omega)]; exact x3
  have aq : ∀ q, (q < 26 * f ∨ 26 * f + 26 ≤ q ∨ (26 * f + 8 ≤ q ∧ q < 26 * f + 16) ∨ q = 26 * f + 24) → E 189 q = D 189 q := fun q hq => by
    rw [E9, upd_ne (by omega), upd_ne (by omega)]
  have hstep : ∀ k, s_Model_goes_32 k (zI f) (zI i) D = (if ((E 176 10) - 1) ≤ zI i then bnd (f_Model_add (zI f) 25 (zI r) E) (fun x24 D25 => nm (wr D25 176 25 (zI r)) (fun D26 => b_Model_goes_127 k (zI f) (zI i) D26)) else bnd (f_Model_add (zI f) ((0 + zI i) + 1) (zI r) E) (fun x27 D28 => b_Model_goes_127 k (zI f) (zI i) D28)) := by
    intro k
    have y1 : wr D 190 i (zI r) 189 (26 * f + i) + -zI r = zI (x.1 i - r) := by rw [wr_ne (by omega), x1 i (by omega), zI_neg, zI_add]; rfl
    have y2 : (wr (wr D 190 i (zI r)) 189 (26 * f + i) (zI (x.1 i - r))) 189 (26 * f + (16 + i)) + zI (grdZ (kK B i) r) = zI (x.2.1 i + grdZ (kK B i) r) := by
      rw [wr_at, upd_ne (by omega), wr_ne (by omega), x2 i (by omega), zI_add]
    have y3 : (wr (wr D 190 i (zI r)) 189 (26 * f + i) (zI (x.1 i - r))) 183 i = zI (kK B i) := by
      rw [wr_ne (by omega), wr_ne (by omega)]; exact (hb.at hB hi).1
    unfold s_Model_goes_32
    rw [hb.1, if_neg (by rw [zI_le (by omega) (by omega) (by omega) (by omega)]; omega), hrun, bnd_s]
    simp only [inb_t (show (0 : Int) ≤ (i : Int) by omega) (show (i : Int) < (8 : Nat) by omega) (by omega), if_true, zI_nat (show i < 2147483648 by omega), nm_s]
    rw [zI_0p, m_add hf (by omega), bnd_s, y1, y3, m_groundBy k0 k5 q1 (by omega), bnd_s, zI_16p, m_add hf (by omega), bnd_s, y2, hE]
  rw [Ek 176 (by omega) (by omega), hb.1, show (1 : Int32) = zI 1 from rfl, zI_sub, zI_0p, zI_add, show ((i : Int) + 1) = ((i + 1 : Nat) : Int) from rfl] at hstep
  by_cases c : i + 1 < B.1
  · refine ⟨wr E 189 (26 * f + (i + 1)) (zI (x.1 (i + 1) + r)), ⟨fun j hj => ?_, fun j hj => ?_, ?_, fun j hj => ?_, ?_⟩, ⟨fun q hq => ?_, fun j hj => ?_, fun k b1 b2 b3 => ?_⟩, fun k => ?_⟩
    · rw [wr_at]; simp only [c, if_true]; exact upd_sh a1 _ j hj
    · rw [wr_at, upd_ne (by omega)]; exact a2 j hj
    · rw [wr_at, upd_ne (by omega)]; simp only [c, if_true]; exact a3
    · rw [wr_ne (by omega)]; exact a4 j hj
    · rw [wr_ne (by omega), Ek 176 (by omega) (by omega)]; simp only [c, if_true]; exact x5
    · rw [wr_at, upd_ne (by omega)]; exact aq q hq
    · rw [wr_ne (by omega), Ek 176 (by omega) (by omega)]
    · rw [wr_ne b2]; exact Ek k b2 b3
    · rw [hstep k, if_neg (by rw [zI_le (by omega) (by omega) (by omega) (by omega)]; omega), m_add hf (by omega), bnd_s, a1 (i + 1) (by omega), fu_ne (by omega), zI_add]
      unfold b_Model_goes_127
      rw [show (zI (i : Int) + 1) = zI ((i + 1 : Nat) : Int) from zI_s i]
  · refine ⟨wr (wr E 189 (26 * f + 25) (zI (x.2.2.1 + r))) 176 25 (zI r), ⟨fun j hj => ?_, fun j hj => ?_, ?_, fun j hj => ?_, ?_⟩, ⟨fun q hq => ?_, fun j hj => ?_, fun k b1 b2 b3 => ?_⟩, fun k => ?_⟩
    · rw [wr_ne (by omega), wr_at, upd_ne (by omega)]; simp only [c, if_false]; exact a1 j hj
    · rw [wr_ne (by omega), wr_at, upd_ne (by omega)]; exact a2 j hj
    · rw [wr_ne (by omega), wr_at, upd_at]; simp only [c, if_false]
    · rw [wr_ne (by omega), wr_ne (by omega)]; exact a4 j hj
    · rw [wr_at, upd_at]; simp only [c, if_false]; congr 1; omega
    · rw [wr_ne (by omega), wr_at, upd_ne (by omega)]; exact aq q hq
    · rw [wr_at, upd_ne hj, wr_ne (by omega), Ek 176 (by omega) (by omega)]
    · rw [wr_ne b1, wr_ne b2]; exact Ek k b2 b3
    · rw [hstep k, if_pos (by rw [zI_le (by omega) (by omega) (by omega) (by omega)]; omega), show (25 : Int32) = zI ((25 : Nat) : Int) from rfl, m_add hf (by omega), bnd_s, a3, zI_add, nm_s]
      unfold b_Model_goes_127
      rw [show (zI (i : Int) + 1) = zI ((i + 1 : Nat) : Int) from zI_s i]
