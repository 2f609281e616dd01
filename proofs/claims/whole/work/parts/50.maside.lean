/-! the model's Tuesday aside -/
theorem cutN_n {X : WatT} {n : Nat} (hn : n ≤ 8) (h : ∀ i, n ≤ i → X.1 i = 0) : cutN X n = cutN X 8 := by
  have go : ∀ k, cutN X (n + k) = cutN X n := by
    intro k
    induction k with
    | zero => rfl
    | succ k ih =>
      show cutN X (n + k) ||| (if decide (2 ≤ X.1 (n + k)) = true then 2 ^ (n + k) else 0) = _
      rw [h (n + k) (by omega), if_neg (by decide), Nat.or_zero, ih]
  have := go (8 - n)
  rw [show n + (8 - n) = 8 by omega] at this
  exact this.symm
theorem tdN_s {B : BedT} {p : Nat} {W : WatT} {h j : Nat} (hj : j < B.1) : (if j < B.1 ∧ 0 < gotZ B (bt p h) (tdW B p W h) j ∧ ¬ (tdB B p W h).testBit j = true then (h : Int) else tdN B p W h j) = tdN B p W (h + 1) j := by
  have e : (tdB B p W (h + 1)).testBit j = ((tdB B p W h).testBit j || decide (0 < gotZ B (bt p h) (tdW B p W h) j)) := by
    show (tdB B p W h ||| snkN B (bt p h) (tdW B p W h) B.1).testBit j = _
    rw [Nat.testBit_or]
    unfold snkN
    rw [orN_tb, decide_eq_true hj, Bool.true_and]
  show _ = (if (tdB B p W (h + 1)).testBit j = true ∧ ¬ (tdB B p W h).testBit j = true then (h : Int) else tdN B p W h j)
  rw [e]
  by_cases c : 0 < gotZ B (bt p h) (tdW B p W h) j <;> by_cases d : (tdB B p W h).testBit j = true <;> simp [c, d, hj]
def MdT (D : Dt) (B : BedT) (p : Nat) (W : WatT) (f h : Nat) : Prop := PRep (D 189) (26 * f) (tdW B p W h) ∧ D 176 35 = zI (tdH B p W h) ∧ D 176 37 = zI (tdB B p W h : Nat) ∧ (∀ j, j < B.1 → D 202 j = zI (tdM B p W h j) ∧ D 200 j = zI (tdN B p W h j)) ∧ ∀ t, t < h → D 201 t = zI (cutN (tdW B p W (t + 1)) 8 : Nat)
/-- an hour has gone, what it brought is met -/
theorem m_met {D E : Dt} {f p h : Nat} {B : BedT} {W : WatT} {T : Int} (hf : f < 2) (hh : h < 8) (hb : MBed E B) (hB : BOk B) (hn : 0 < B.1) (hW : WOk B W T) (hT0 : 0 ≤ T) (hT : T < 100000) (hm : MdT D B p W f h)
    (e1 : PRep (E 189) (26 * f) (tdW B p W (h + 1))) (e2 : ∀ j, j < B.1 → E 191 j = zI (gotZ B (bt p h) (tdW B p W h) j)) (e3 : ∀ j, j ≠ 25 → j ≠ 26 → E 176 j = D 176 j) (e4 : ∀ k, 199 < k → E k = D k) :
    ∃ D1, f_Model_meetsHour (zI f) (zI h) E = some ((), D1) ∧ MdT D1 B p W f (h + 1) ∧ (∀ j, j ≠ 35 → j ≠ 37 → D1 176 j = E 176 j) ∧ ∀ k, k ≠ 176 → k ≠ 200 → k ≠ 201 → k ≠ 202 → D1 k = E k := by
  obtain ⟨m1, m2, m3, m4, m5⟩ := hm
  have h8 := hB.1
  have hw := td_ok hB hn hW p h
  have hw1 := td_ok hB hn hW p (h + 1)
  obtain ⟨-, hg9, -, -, -, -, -, -⟩ := hrW_ok (op := bt p h) hB hn hw
  obtain ⟨F, f1, f2, f3, f4, f5, f6, f7, f8⟩ := m_meetsHour (D := E) (f := f) (op := bt p h) (h := h) (B := B) (W := tdW B p W h) (X := tdW B p W (h + 1)) (hm := tdH B p W h) (wt := tdB B p W h) (mk := tdM B p W h) (wn := tdN B p W h) hf hh hb hB hg9 e1 (fun i hi => by have w1 := hw1.1 i; have w2 := le_sum8 hw1.1 hi; have w3 := hw1.2.2.2; omega) (fun i hi => by have := tdM_ok hB hn hW hT0 p hi h; omega) (tdB_lt h8 p W h) e2 (by rw [e3 35 (by omega) (by omega)]; exact m2) (by rw [e3 37 (by omega) (by omega)]; exact m3) (fun j hj => by rw [e4 202 (by omega), e4 200 (by omega)]; exact m4 j hj)
  refine ⟨F, f1, ⟨by rw [f8 189 (by omega) (by omega) (by omega) (by omega)]; exact e1, f2, f3, fun j hj => ⟨?_, ?_⟩, fun t ht => ?_⟩, f7, f8⟩
  · rw [(f4 j hj).1, if_pos hj]; rfl
  · rw [(f4 j hj).2, tdN_s hj]
  · by_cases c : t = h
    · subst c; rw [f5, cutN_n h8 (fun i hi => (hw1.2.1 i hi).1)]
    · rw [f6 t c, e4 201 (by omega)]; exact m5 t (by omega)
def grdW (B : BedT) (p : Nat) (W : WatT) : Int := sum8 (tdW B p W 8).2.2.1 - sum8 W.2.2.1
theorem m_runAside {D : Dt} {p : Nat} {B : BedT} {W : WatT} {T : Int} (hb : MBed D B) (hB : BOk B) (hn : 0 < B.1) (hW : WOk B W T) (hT0 : 0 ≤ T) (hT : T < 100000) (hp : p < 256) (hPR : PRep (D 189) 26 W) :
    ∃ D1, f_Model_runAside (zI p) D = some ((), D1) ∧ MdT D1 B p W 1 8 ∧ (D1 176 36 = zI (grdW B p W) ∧ D1 176 38 = zI ((tdW B p W 8).2.2.2.2 - W.2.2.2.2) ∧ D1 176 39 = zI (sum8 (tdW B p W 8).1)) ∧ (∀ q, q < 26 → D1 189 q = D 189 q) ∧ (∀ j, (j < 25 ∨ j = 26 ∨ 39 < j) → D1 176 j = D 176 j) ∧ ∀ k, k ≠ 176 → k ≠ 189 → k ≠ 190 → k ≠ 191 → k ≠ 200 → k ≠ 201 → k ≠ 202 → D1 k = D k := by
  have h8 := hB.1
  unfold f_Model_runAside lp_Model_runAside_21
  obtain ⟨E, e1, e2, e3, e4, e5, e6⟩ := m_noTuesday (D := D)
  have hbE : MBed E B := hb.congr (e5 8 (by omega) (by omega)) (e5 9 (by omega) (by omega)) (e5 10 (by omega) (by omega)) (fun k a b => e6 k (by omega) (by omega) (by omega))
  have hPE : PRep (E 189) (26 * 1) W := by rw [e6 189 (by omega) (by omega) (by omega)]; exact hPR
  rw [e1, bnd_s, zI_z1, m_groundAll (f := 1) (by omega) hbE.1 h8 (fun j hj => (hPE.2.2 j hj).2.2) (fun i hi => (hW.2.1 i hi).2.2), bnd_s, show (25 : Int32) = zI ((25 : Nat) : Int) from rfl, m_v (f := 1) (by omega) (by omega), bnd_s, show E 189 (26 * 1 + 25) = _ from hPE.2.1]
  obtain ⟨m, hm⟩ := FU_eq (n := 9) (by omega)
  rw [hm, show m + 9 = (m + 1) + 8 by omega]
  obtain ⟨F, ⟨f1, f2, f3, f4⟩, e⟩ := itr_go (fun _ _ _ _ _ => none) s_Model_runAside_21 (fun i (F : Dt) k => k (zI p) (zI (sum8 W.2.2.1)) (zI W.2.2.2.2) (zI i) F) 8 (fun i (F : Dt) => MdT F B p W 1 i ∧ (∀ q, q < 26 → F 189 q = D 189 q) ∧ (∀ j, (j < 25 ∨ j = 26 ∨ 37 < j) → F 176 j = D 176 j) ∧ ∀ k, k ≠ 176 → k ≠ 189 → k ≠ 190 → k ≠ 191 → k ≠ 200 → k ≠ 201 → k ≠ 202 → F k = D k)
    (fun i hi F z => by
      obtain ⟨z1, z2, z3, z4⟩ := z
      have hbF : MBed F B := hb.congr (z3 8 (by omega)) (z3 9 (by omega)) (z3 10 (by omega)) (fun k a b => z4 k (by omega) (by omega) (by omega) (by omega) (by omega) (by omega) (by omega))
      have hw := td_ok hB hn hW p i
      obtain ⟨K, k1, k2, k3, k4, k5, k6, k7⟩ := m_goes (f := 1) (op := bt p i) (by omega) hbF hB hn z1.1 hw (by omega) (bt_01 p i)
      have hbK : MBed K B := hbF.congr (k6 8 (by omega)) (k6 9 (by omega)) (k6 10 (by omega)) (fun k a b => k7 k (by omega) (by omega) (by omega) (by omega))
      obtain ⟨L, l1, l2, l3, l4⟩ := m_met (D := F) (E := K) (f := 1) (by omega) hi hbK hB hn hW hT0 hT z1 k2 (fun j hj => (k3 j hj).2) (fun j a _ => k6 j a) (fun k hk => k7 k (by omega) (by omega) (by omega) (by omega))
      refine ⟨L, ⟨l2, fun q hq => ?_, fun j hj => ?_, fun k a b c d u v w => ?_⟩, fun k => ?_⟩
      · rw [l4 189 (by omega) (by omega) (by omega) (by omega), k5 q (by omega), z2 q hq]
      · rw [l3 j (by omega) (by omega), k6 j (by omega), z3 j hj]
      · rw [l4 k a u v w, k7 k a b c d, z4 k a b c d u v w]
      · unfold s_Model_runAside_21
        have hbt : (if p.testBit i = true then (1 : Int32) else 0) = zI (bt p i : Nat) := by
          unfold bt
          by_cases c : p.testBit i = true
          · rw [if_pos c, if_pos c]; rfl
          · rw [if_neg c, if_neg c]; rfl
        rw [if_neg (by rw [show (8 : Int32) = zI 8 from rfl, zI_le (by omega) (by omega) (by omega) (by omega)]; omega), m_has hp hi, bnd_s, hbt, zI_z1, k1, bnd_s, l1, bnd_s, ← zI_z1, zI_s])
    E ⟨⟨hPE, by rw [e2]; rfl, by rw [e3]; rfl, fun j hj => ⟨by rw [(e4 j (by omega)).2]; rfl, by rw [(e4 j (by omega)).1]; rfl⟩, fun t ht => by omega⟩, fun q hq => by rw [e6 189 (by omega) (by omega) (by omega)], fun j hj => e5 j (by omega) (by omega), fun k a b c d u v w => e6 k a u w⟩
  have e := e (m + 1)
  refine (show ∃ D1, itr (fun _ _ _ _ _ => none) s_Model_runAside_21 (m + 1 + 8) (zI p) (zI (sum8 W.2.2.1)) (zI W.2.2.2.2) (zI ((0 : Nat) : Int)) E = some ((), D1) ∧ _ from ?_)
  rw [e, itr_s]
  unfold s_Model_runAside_21
  have hbF : MBed F B := hb.congr (f3 8 (by omega)) (f3 9 (by omega)) (f3 10 (by omega)) (fun k a b => f4 k (by omega) (by omega) (by omega) (by omega) (by omega) (by omega) (by omega))
  have hw8 := td_ok hB hn hW p 8
  obtain ⟨u1, u2, u3, u4, u5⟩ := f1
  rw [if_pos (by decide), zI_z1, m_groundAll (f := 1) (by omega) hbF.1 h8 (fun j hj => (u1.2.2 j hj).2.2) (fun i hi => (hw8.2.1 i hi).2.2), bnd_s, nm_s, show (25 : Int32) = zI ((25 : Nat) : Int) from rfl, m_v (f := 1) (by omega) (by omega), bnd_s, nm_s, wr_ne (show 189 ≠ 176 by omega), show F 189 (26 * 1 + 25) = _ from u1.2.1, zI_sub, zI_sub]
  generalize hG : wr (wr F 176 36 (zI (sum8 (tdW B p W 8).2.2.1 - sum8 W.2.2.1))) 176 38 (zI ((tdW B p W 8).2.2.2.2 - W.2.2.2.2)) = G
  have Gk : ∀ k, k ≠ 176 → G k = F k := fun k a => by rw [← hG, wr_ne a, wr_ne a]
  have G6 : ∀ j, j ≠ 36 → j ≠ 38 → G 176 j = F 176 j := fun j a b => by rw [← hG, wr_at, upd_ne b, wr_at, upd_ne a]
  have hbG : MBed G B := hbF.congr (G6 8 (by omega) (by omega)) (G6 9 (by omega) (by omega)) (G6 10 (by omega) (by omega)) (fun k a b => Gk k (by omega))
  rw [m_standing (f := 1) (by omega) hbG h8 (fun j hj => by rw [Gk 189 (by omega)]; exact (u1.2.2 j hj).1) (fun i hi => (hw8.2.1 i hi).1), bnd_s, nm_s]
  refine ⟨_, rfl, ⟨by rw [wr_ne (by omega), Gk 189 (by omega)]; exact u1, by rw [wr_at, upd_ne (by omega), G6 35 (by omega) (by omega)]; exact u2, by rw [wr_at, upd_ne (by omega), G6 37 (by omega) (by omega)]; exact u3, fun j hj => by rw [wr_ne (by omega), wr_ne (by omega), Gk 202 (by omega), Gk 200 (by omega)]; exact u4 j hj, fun t ht => by rw [wr_ne (by omega), Gk 201 (by omega)]; exact u5 t ht⟩, ⟨?_, ?_, by rw [wr_at, upd_at]⟩, fun q hq => by rw [wr_ne (by omega), Gk 189 (by omega)]; exact f2 q hq, fun j hj => by rw [wr_at, upd_ne (by omega), G6 j (by omega) (by omega)]; exact f3 j (by omega), fun k a b c d u v w => by rw [wr_ne a, Gk k a]; exact f4 k a b c d u v w⟩
  · rw [wr_at, upd_ne (by omega), ← hG, wr_at, upd_ne (by omega), wr_at, upd_at]; rfl
  · rw [wr_at, upd_ne (by omega), ← hG, wr_at, upd_at]
/-- what a laid Tuesday tells, in the model -/
def MTd (D : Dt) (S : SstT) (p : Nat) : Prop := MdT D S.2.2.2.1.1 p S.2.2.2.1.2.1 1 8 ∧ D 176 36 = zI (grdV S p) ∧ D 176 38 = zI ((tW S p 8).2.2.2.2 - S.2.2.2.1.2.1.2.2.2.2) ∧ D 176 39 = zI (sum8 (tW S p 8).1)
theorem m_layTuesday {D : Dt} {S : SstT} (h : MRep D S) (ho : Ok S) (hn : 0 < S.2.2.2.1.1.1) {p : Nat} (hp : p < 256) :
    ∃ D1, f_Model_layTuesday (zI p) D = some ((), D1) ∧ MTd D1 S p ∧ MRep D1 S ∧ FrM D D1 ∧ (∀ j, 39 < j → D1 176 j = D 176 j) ∧ ∀ k, 202 < k → D1 k = D k := by
  obtain ⟨hb, hw, hc, hpp⟩ := h.2.2.2.1
  obtain ⟨o1, o2, o3, ⟨o4, o5, o6⟩, o7, o8⟩ := ho.2.1
  unfold f_Model_layTuesday
  obtain ⟨E, e1, e2, e2b, e3⟩ := m_copyStreet (D := D)
  have hbE : MBed E S.2.2.2.1.1 := hb.congr (by rw [e3 176 (by omega)]) (by rw [e3 176 (by omega)]) (by rw [e3 176 (by omega)]) (fun k a b => e3 k (by omega))
  have hwE : PRep (E 189) 26 S.2.2.2.1.2.1 := hw.mv (fun j hj => by rw [Nat.zero_add]; exact e2 j hj)
  obtain ⟨F, f1, f2, f3, f4, f5, f6⟩ := m_runAside hbE o1 hn o4 (by omega) (by omega) hp hwE
  rw [e1, bnd_s, f1, bnd_s]
  refine ⟨F, rfl, ⟨f2, f3⟩, mIds_scr h (fun j hj => by rw [f4 j hj, e2b j hj]) (fun j hj => by rw [f5 j (by have := mSl_ne hj; omega), e3 176 (by omega)]) (fun k hk h189 => ?_), fun k hk => by rw [f6 k (by omega) (by omega) (by omega) (by omega) (by omega) (by omega) (by omega), e3 k (by omega)], fun j hj => by rw [f5 j (by omega), e3 176 (by omega)], fun k hk => by rw [f6 k (by omega) (by omega) (by omega) (by omega) (by omega) (by omega) (by omega), e3 k (by omega)]⟩
  simp only [mIds, Bool.or_eq_true, Bool.and_eq_true, decide_eq_true_eq, beq_iff_eq] at hk
  rw [f6 k (by omega) (by omega) (by omega) (by omega) (by omega) (by omega) (by omega), e3 k (by omega)]
theorem m_needTuesday {D : Dt} {S : SstT} (h : MRep D S) (ho : Ok S) (g v : Int32) : ((g = 0 ∨ ¬ wi v 0 255 = true) → f_Model_needTuesday g v D = some (-1, D)) ∧ (¬ g = 0 → wi v 0 255 = true → ¬ 0 < S.2.2.2.1.1.1 → f_Model_needTuesday g v D = some (-4, D)) ∧ (¬ g = 0 → wi v 0 255 = true → 0 < S.2.2.2.1.1.1 → ∃ D1, f_Model_needTuesday g v D = some (0, D1) ∧ MTd D1 S v.toInt.toNat ∧ MRep D1 S ∧ FrM D D1) := by
  unfold f_Model_needTuesday
  rw [m_isPlan, bnd_s, zo_if, if_cg (m_n0 h ho)]
  refine ⟨fun q => ?_, fun a b c => ?_, fun a b c => ?_⟩
  · by_cases e : g = 0
    · rw [if_pos e]
    · rw [if_neg e, if_neg (by rcases q with q | q; exact absurd q e; exact q)]
  · rw [if_neg a, if_pos b, if_pos c]
  · obtain ⟨p, hp, -, rfl⟩ := wi_nat b (by omega)
    obtain ⟨E, e1, e2, e3, e4, -, -⟩ := m_layTuesday h ho c (show p < 256 by omega)
    rw [if_neg a, if_pos b, if_neg (fun q => q c), e1, bnd_s]
    refine ⟨E, rfl, ?_, e3, e4⟩
    rw [zI_toInt (by omega) (by omega), Int.toNat_natCast]; exact e2
