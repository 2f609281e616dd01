/-! fault, street: the model reads -/
def MTx (D : Dt) (t n : Nat) (c : Nat → Int32) : Prop := D 181 t = zI (n : Nat) ∧ ∀ i, i < n → D 182 (60 * t + i) = c i
theorem MTx.congr {D D1 : Dt} {t n : Nat} {c : Nat → Int32} (h : MTx D t n c) (h1 : D1 181 = D 181) (h2 : D1 182 = D 182) : MTx D1 t n c := by
  unfold MTx; rw [h1, h2]; exact h
theorem m_byte {D : Dt} {t n : Nat} {c : Nat → Int32} (h : MTx D t n c) (ht : t < 4) (hn : n ≤ 60) {i : Nat} (hi : i ≤ 1000) : f_Model_byteAt (zI t) (zI i) D = some (if i < n then c i else 0, D) := by
  unfold f_Model_byteAt
  rw [if_pos (inb_t (by omega) (by omega) (by omega)), zI_nat (by omega), h.1, if_cg (zI_le (by omega) (by omega) (by omega) (by omega))]
  by_cases g : i < n
  · rw [if_neg (by omega), if_pos g, zI_p60, if_pos (inb_t (by omega) (by omega) (by omega)), zI_nat (by omega), h.2 i g]
  · rw [if_pos (by omega), if_neg g]
theorem fig_in (x : Int32) {l : Int} (h0 : 0 ≤ l) (h1 : l ≤ 1) : wi (x - 48) l 9 = true ↔ l + 48 ≤ x.toInt ∧ x.toInt ≤ 57 := by
  unfold wi
  rw [decide_eq_true_eq]
  refine ⟨fun q => ?_, fun q => ?_⟩
  · have e : x = zI ((x - 48).toInt + 48) := by
      rw [← zI_add, zI_self, show zI 48 = (48 : Int32) from rfl, Int32.sub_add_cancel]
    have e2 := congrArg Int32.toInt e
    rw [zI_toInt (by omega) (by omega)] at e2
    omega
  · have e : x - 48 = zI (x.toInt - 48) := by rw [← zI_sub, zI_self]; rfl
    rw [e, zI_toInt (by omega) (by omega)]
    omega
/-- what reading changes -/
def RdFr (D D1 : Dt) : Prop := (∀ j, (j < 16 ∨ 20 < j) → D1 176 j = D 176 j) ∧ ∀ k, k ≠ 176 → k ≠ 188 → D1 k = D k
theorem RdFr.refl (D : Dt) : RdFr D D := ⟨fun _ _ => rfl, fun _ _ _ => rfl⟩
theorem RdFr.trans {D E F : Dt} (h : RdFr D E) (g : RdFr E F) : RdFr D F := ⟨fun j hj => by rw [g.1 j hj, h.1 j hj], fun k a b => by rw [g.2 k a b, h.2 k a b]⟩
theorem RdFr.sl {D : Dt} {j : Nat} (h1 : 16 ≤ j) (h2 : j ≤ 20) (v : Int32) : RdFr D (wr D 176 j v) := ⟨fun i hi => by rw [wr_at, upd_ne (by omega)], fun k a _ => by rw [wr_ne a]⟩
theorem RdFr.hs {D : Dt} (j : Nat) (v : Int32) : RdFr D (wr D 188 j v) := ⟨fun i hi => by rw [wr_ne (by omega)], fun k _ b => by rw [wr_ne b]⟩
theorem RdFr.tx {D D1 : Dt} {t n : Nat} {c : Nat → Int32} (h : RdFr D D1) (hc : MTx D t n c) : MTx D1 t n c := hc.congr (h.2 181 (by omega) (by omega)) (h.2 182 (by omega) (by omega))
theorem m_figure {D : Dt} {t n : Nat} {c : Nat → Int32} (h : MTx D t n c) (ht : t < 4) (hn : n ≤ 60) {i : Nat} (hi : i ≤ 1000) (hr : D 176 16 = zI (i : Nat)) {lo : Int32} {l : Int} (hl : lo.toInt = l) (h0 : 0 ≤ l) (h1 : l ≤ 1) :
    ∃ D1, f_Model_figure (zI t) lo 9 D = some (if l ≤ fgT c n i then 1 else 0, D1) ∧ RdFr D D1 ∧ D1 188 = D 188 ∧ (∀ j, j ≠ 16 → j ≠ 17 → D1 176 j = D 176 j) ∧ D1 176 16 = zI ((if l ≤ fgT c n i then i + 1 else i : Nat) : Int) ∧ (l ≤ fgT c n i → D1 176 17 = zI (fgT c n i)) := by
  have key : (wi ((if i < n then c i else 0) - 48) l 9 = true ↔ l ≤ fgT c n i) ∧ (l ≤ fgT c n i → (if i < n then c i else 0) - 48 = zI (fgT c n i)) := by
    unfold fgT
    by_cases g : i < n
    · rw [if_pos g, fig_in _ h0 h1]
      by_cases g2 : i < n ∧ 48 ≤ (c i).toInt ∧ (c i).toInt ≤ 57
      · rw [if_pos g2]
        refine ⟨by omega, fun _ => ?_⟩
        rw [← zI_sub, zI_self]; rfl
      · rw [if_neg g2]
        exact ⟨by omega, fun q => by omega⟩
    · rw [if_neg g, if_neg (fun q => g q.1), fig_in _ h0 h1]
      simp only [tl]
      exact ⟨by omega, fun q => by omega⟩
  unfold f_Model_figure b_Model_figure_42
  rw [hr, m_byte h ht hn hi, bnd_s, nm_s, wr_at, upd_at, m_in, bnd_s, hl, show (9 : Int32).toInt = 9 from by decide, zo_if]
  generalize hE : wr D 176 17 ((if i < n then c i else 0) - 48) = E
  have E16 : E 176 16 = zI (i : Nat) := by rw [← hE, wr_at, upd_ne (by omega)]; exact hr
  have fE : RdFr D E := by rw [← hE]; exact RdFr.sl (by omega) (by omega) _
  by_cases g : l ≤ fgT c n i
  · have hw := key.1.mpr g
    rw [if_pos hw, if_pos hw, if_pos g, nm_s, if_pos (Or.inr rfl), if_pos g, E16, zI_s]
    refine ⟨_, rfl, fE.trans (RdFr.sl (by omega) (by omega) _), by rw [wr_ne (by omega), ← hE, wr_ne (by omega)], fun j a b => by rw [wr_at, upd_ne a, ← hE, wr_at, upd_ne b], by rw [wr_at, upd_at], fun _ => ?_⟩
    rw [wr_at, upd_ne (by omega), ← hE, wr_at, upd_at]; exact key.2 g
  · have hw : ¬ wi ((if i < n then c i else 0) - 48) l 9 = true := fun q => g (key.1.mp q)
    rw [if_neg hw, if_neg hw, if_neg g, nm_s, if_pos (Or.inl rfl), if_neg g, E16, show zI (i : Int) + 0 = zI (i : Int) from by rw [show (0 : Int32) = zI 0 from rfl, zI_add, Int.add_zero]]
    exact ⟨_, rfl, fE.trans (RdFr.sl (by omega) (by omega) _), by rw [wr_ne (by omega), ← hE, wr_ne (by omega)], fun j a b => by rw [wr_at, upd_ne a, ← hE, wr_at, upd_ne b], by rw [wr_at, upd_at], fun q => absurd q g⟩
theorem m_readsFlow {D : Dt} {t n : Nat} {c : Nat → Int32} (h : MTx D t n c) (ht : t < 4) (hn : n ≤ 60) {i : Nat} (hi : i < n) (hr : D 176 16 = zI (i : Nat)) :
    ∃ D1, RdFr D D1 ∧ (¬ c i = 113 → f_Model_readsFlow (zI t) D = some (0, D1) ∧ D1 176 16 = zI (i : Nat)) ∧ (c i = 113 → fgT c n (i + 1) < 1 → f_Model_readsFlow (zI t) D = some (0, D1) ∧ D1 176 16 = zI ((i + 1 : Nat) : Int)) ∧ (c i = 113 → 1 ≤ fgT c n (i + 1) → fgT c n (i + 2) = -1 → f_Model_readsFlow (zI t) D = some (0, D1) ∧ D1 176 16 = zI ((i + 2 : Nat) : Int)) ∧
      (c i = 113 → 1 ≤ fgT c n (i + 1) → fgT c n (i + 2) ≠ -1 → f_Model_readsFlow (zI t) D = some (1, D1) ∧ D1 176 16 = zI ((i + 3 : Nat) : Int) ∧ D1 176 18 = zI (fgT c n (i + 1)) ∧ D1 176 19 = zI (fgT c n (i + 2)) ∧ D1 176 20 = D 176 20) := by
  have hb2 := fgT_b c n (i + 2)
  unfold f_Model_readsFlow
  rw [hr, m_byte h ht hn (by omega), bnd_s, if_pos hi]
  by_cases g : c i = 113
  · rw [if_pos g, nm_s, hr, zI_s]
    generalize hE : wr D 176 16 (zI ((i + 1 : Nat) : Int)) = E
    have fE : RdFr D E := by rw [← hE]; exact RdFr.sl (by omega) (by omega) _
    have E16 : E 176 16 = zI ((i + 1 : Nat) : Int) := by rw [← hE, wr_at, upd_at]
    have Ej : ∀ j, j ≠ 16 → E 176 j = D 176 j := fun j hj => by rw [← hE, wr_at, upd_ne hj]
    obtain ⟨F, f1, f2, f3, f4, f5, f6⟩ := m_figure (fE.tx h) ht hn (show i + 1 ≤ 1000 by omega) E16 (lo := 1) (l := 1) (by decide) (by omega) (by omega)
    rw [f1, bnd_s]
    by_cases g1 : 1 ≤ fgT c n (i + 1)
    · rw [if_pos g1] at f5
      rw [if_pos g1, if_neg (show ¬ (1 : Int32) = 0 by decide)]
      obtain ⟨G, k1, k2, k3, k4, k5, k6⟩ := m_figure (f2.tx (fE.tx h)) ht hn (show i + 1 + 1 ≤ 1000 by omega) f5 (lo := 0) (l := 0) (by decide) (by omega) (by omega)
      rw [k1, bnd_s]
      by_cases g2 : 0 ≤ fgT c n (i + 1 + 1)
      · rw [if_pos g2] at k5
        rw [if_pos g2, if_neg (show ¬ (1 : Int32) = 0 by decide), nm_s, nm_s, f6 g1, wr_at, upd_ne (show 17 ≠ 18 by omega), k6 g2]
        have g2' : fgT c n (i + 2) ≠ -1 := fun q => by rw [show i + 2 = i + 1 + 1 from rfl] at q; omega
        refine ⟨wr (wr G 176 18 (zI (fgT c n (i + 1)))) 176 19 (zI (fgT c n (i + 1 + 1))), fE.trans (f2.trans (k2.trans ((RdFr.sl (by omega) (by omega) _).trans (RdFr.sl (by omega) (by omega) _)))), fun q => absurd g q, fun _ q => by omega, fun _ _ q => absurd q g2', fun _ _ _ => ⟨rfl, ?_, ?_, ?_, ?_⟩⟩
        · rw [wr_at, upd_ne (by omega), wr_at, upd_ne (by omega)]; exact k5
        · rw [wr_at, upd_ne (by omega), wr_at, upd_at]
        · rw [wr_at, upd_at]
        · rw [wr_at, upd_ne (by omega), wr_at, upd_ne (by omega), k4 20 (by omega) (by omega), f4 20 (by omega) (by omega), Ej 20 (by omega)]
      · rw [if_neg g2] at k5
        rw [if_neg g2, if_pos rfl]
        have g2' : fgT c n (i + 2) = -1 := by rw [show i + 2 = i + 1 + 1 from rfl] at hb2 ⊢; omega
        exact ⟨G, fE.trans (f2.trans k2), fun q => absurd g q, fun _ q => by omega, fun _ _ _ => ⟨rfl, k5⟩, fun _ _ q => absurd g2' q⟩
    · rw [if_neg g1] at f5
      rw [if_neg g1, if_pos rfl]
      exact ⟨F, fE.trans f2, fun q => absurd g q, fun _ _ => ⟨rfl, f5⟩, fun _ q => absurd q g1, fun _ q => absurd q g1⟩
  · rw [if_neg g]
    exact ⟨D, RdFr.refl D, fun _ => ⟨rfl, hr⟩, fun q => absurd q g, fun q => absurd q g, fun q => absurd q g⟩
theorem m_kindOf (x : Int32) (D : Dt) : f_Model_kindOf x D = some (if kdT x = -1 then -9 else zI (kdT x), D) := by
  unfold f_Model_kindOf kdT
  by_cases c1 : x = 100
  · rw [if_pos c1, if_pos c1]; rfl
  · rw [if_neg c1, if_neg c1]
    by_cases c2 : x = 104
    · rw [if_pos c2, if_pos c2]; rfl
    · rw [if_neg c2, if_neg c2]
      by_cases c3 : x = 108
      · rw [if_pos c3, if_pos c3]; rfl
      · rw [if_neg c3, if_neg c3]
        by_cases c4 : x = 109
        · rw [if_pos c4, if_pos c4]; rfl
        · rw [if_neg c4, if_neg c4]
          by_cases c5 : x = 115
          · rw [if_pos c5, if_pos c5]; rfl
          · rw [if_neg c5, if_neg c5]
            by_cases c6 : x = 119
            · rw [if_pos c6, if_pos c6]; rfl
            · rw [if_neg c6, if_neg c6]; rfl
/-- houses read so far -/
def HdM (D : Dt) (c : Nat → Int32) (n i0 m : Nat) : Prop := D 176 20 = zI (m : Nat) ∧ ∀ j, j < m → D 188 (4 * j) = zI (kdT (c (psT c n i0 j))) ∧ D 188 (4 * j + 1) = zI (fgT c n (psT c n i0 j + 1)) ∧ D 188 (4 * j + 2) = zI (fgT c n (psT c n i0 j + 2)) ∧ D 188 (4 * j + 3) = zI (fgT c n (psT c n i0 j + 3))
/-- a house's figure -/
theorem m_hstep {D : Dt} {t n : Nat} {c : Nat → Int32} (h : MTx D t n c) (ht : t < 4) (hn : n ≤ 60) {i m q : Nat} (hi : i + q ≤ 1000) (hm : m < 8) (q1 : 1 ≤ q) (q3 : q ≤ 3) (hr : D 176 16 = zI ((i + q : Nat) : Int)) (h20 : D 176 20 = zI (m : Nat)) :
    (fgT c n (i + q) = -1 → ∃ D1, RdFr D D1 ∧ D1 176 16 = zI ((i + q : Nat) : Int) ∧ ∀ k, s_Model_readsHouse_54 k (zI t) (zI q) D = some (0, D1)) ∧ (fgT c n (i + q) ≠ -1 → ∃ D1, RdFr D D1 ∧ D1 176 16 = zI ((i + (q + 1) : Nat) : Int) ∧ (∀ j, j ≠ 16 → j ≠ 17 → D1 176 j = D 176 j) ∧ D1 188 = upd (D 188) (4 * m + q) (zI (fgT c n (i + q))) ∧ ∀ k, s_Model_readsHouse_54 k (zI t) (zI q) D = k (zI t) (zI ((q + 1 : Nat) : Int)) D1) := by
  have hb := fgT_b c n (i + q)
  obtain ⟨F, f1, f2, f3, f4, f5, f6⟩ := m_figure h ht hn hi hr (lo := 0) (l := 0) (by decide) (by omega) (by omega)
  have n4 : ¬ (4 : Int32) ≤ zI (q : Int) := by rw [show (4 : Int32) = zI 4 from rfl, zI_le (by omega) (by omega) (by omega) (by omega)]; omega
  refine ⟨fun g => ⟨F, f2, ?_, fun k => ?_⟩, fun g => ?_⟩
  · rw [if_neg (by omega)] at f5; exact f5
  · unfold s_Model_readsHouse_54
    rw [if_neg n4, f1, bnd_s, if_neg (show ¬ 0 ≤ fgT c n (i + q) by omega), if_pos rfl]
  · have g0 : 0 ≤ fgT c n (i + q) := by omega
    rw [if_pos g0] at f5
    refine ⟨wr F 188 (4 * m + q) (zI (fgT c n (i + q))), f2.trans (RdFr.hs _ _), by rw [wr_ne (by omega)]; exact f5, fun j a b => by rw [wr_ne (by omega)]; exact f4 j a b, by rw [wr_at, f3], fun k => ?_⟩
    have e4 : (4 : Int32) * zI (m : Int) + zI (q : Int) = zI ((4 * m + q : Nat) : Int) := by
      rw [show (4 : Int32) = zI 4 from rfl, zI_mul, zI_add]; rfl
    unfold s_Model_readsHouse_54
    rw [if_neg n4, f1, bnd_s, if_pos g0, if_neg (show ¬ (1 : Int32) = 0 by decide), f4 20 (by omega) (by omega), h20, e4, if_pos (inb_t (by omega) (by omega) (by omega)), nm_s, zI_nat (by omega), f6 g0, zI_s]
theorem m_readsHouse {D : Dt} {t n : Nat} {c : Nat → Int32} (h : MTx D t n c) (ht : t < 4) (hn : n ≤ 60) {i i0 m : Nat} (hi : i < n) (hm : m ≤ 8) (hr : D 176 16 = zI (i : Nat)) (hd : HdM D c n i0 m) (hp : i = psT c n i0 m) :
    ∃ D1, RdFr D D1 ∧ (8 ≤ m → f_Model_readsHouse (zI t) D = some (0, D1) ∧ D1 176 16 = zI (i : Nat)) ∧ (m < 8 → ∀ x, hfT c n i = some x → f_Model_readsHouse (zI t) D = some (0, D1) ∧ D1 176 16 = zI (x : Nat)) ∧ (m < 8 → hfT c n i = none → f_Model_readsHouse (zI t) D = some (1, D1) ∧ D1 176 16 = zI ((i + 4 : Nat) : Int) ∧ HdM D1 c n i0 (m + 1) ∧ D1 176 18 = D 176 18 ∧ D1 176 19 = D 176 19) := by
  have kb := kdT_b (c i)
  unfold f_Model_readsHouse
  rw [hr, m_byte h ht hn (by omega), bnd_s, if_pos hi, m_kindOf, bnd_s, hd.1, show (8 : Int32) = zI 8 from rfl, if_cg (zI_eq (a := ((m : Nat) : Int)) (b := 8) (by omega) (by omega) (by omega) (by omega))]
  by_cases ck : kdT (c i) = -1
  · rw [if_pos ck, if_pos rfl]
    have e : hfT c n i = some i := by unfold hfT; rw [if_pos ck]
    rw [e]
    refine ⟨D, RdFr.refl D, fun _ => ⟨rfl, hr⟩, fun _ x hx => ⟨rfl, ?_⟩, fun _ q => by cases q⟩
    have hx : i = x := by injection hx
    rw [← hx]; exact hr
  · rw [if_neg ck, if_neg (by rw [show (-9 : Int32) = zI (-9) from rfl, zI_eq (by omega) (by omega) (by omega) (by omega)]; omega)]
    by_cases c8 : 8 ≤ m
    · rw [if_pos (by omega)]
      exact ⟨D, RdFr.refl D, fun _ => ⟨rfl, hr⟩, fun q => by omega, fun q => by omega⟩
    · rw [if_neg (by omega), nm_s, hr, zI_s, wr_at, upd_ne (show 20 ≠ 16 by omega), hd.1]
      have e4 : (4 : Int32) * zI (m : Int) = zI ((4 * m : Nat) : Int) := by
        rw [show (4 : Int32) = zI 4 from rfl, zI_mul]; rfl
      rw [e4, if_pos (inb_t (by omega) (by omega) (by omega)), nm_s, zI_nat (by omega)]
      generalize hE : wr (wr D 176 16 (zI ((i + 1 : Nat) : Int))) 188 (4 * m) (zI (kdT (c i))) = E
      have fE : RdFr D E := by rw [← hE]; exact (RdFr.sl (by omega) (by omega) _).trans (RdFr.hs _ _)
      have E16 : E 176 16 = zI ((i + 1 : Nat) : Int) := by rw [← hE, wr_ne (by omega), wr_at, upd_at]
      have Ej : ∀ j, j ≠ 16 → E 176 j = D 176 j := fun j hj => by rw [← hE, wr_ne (by omega), wr_at, upd_ne hj]
      have E188 : E 188 = upd (D 188) (4 * m) (zI (kdT (c i))) := by rw [← hE, wr_at, wr_ne (by omega)]
      have flt : ∀ (F : Dt) (x : Nat), RdFr D F → F 176 16 = zI (x : Nat) → hfT c n i = some x → ∃ D1, RdFr D D1 ∧ (8 ≤ m → some ((0 : Int32), F) = some (0, D1) ∧ D1 176 16 = zI (i : Nat)) ∧ (m < 8 → ∀ x, hfT c n i = some x → some ((0 : Int32), F) = some (0, D1) ∧ D1 176 16 = zI (x : Nat)) ∧ (m < 8 → hfT c n i = none → some ((0 : Int32), F) = some (1, D1) ∧ D1 176 16 = zI ((i + 4 : Nat) : Int) ∧ HdM D1 c n i0 (m + 1) ∧ D1 176 18 = D 176 18 ∧ D1 176 19 = D 176 19) := by
        intro F x f1 f2 f3
        refine ⟨F, f1, fun q => by omega, fun _ y hy => ⟨rfl, ?_⟩, fun _ q => by rw [f3] at q; cases q⟩
        rw [f3] at hy
        have hy : x = y := by injection hy
        rw [← hy]; exact f2
      unfold lp_Model_readsHouse_54
      obtain ⟨M, hM⟩ := FU_eq (n := 4) (by omega)
      rw [hM, show itr (fun _ _ _ => none) s_Model_readsHouse_54 (M + 4) (zI t) 1 E = s_Model_readsHouse_54 (itr (fun _ _ _ => none) s_Model_readsHouse_54 (M + 3)) (zI t) (zI ((1 : Nat) : Int)) E from rfl]
      obtain ⟨s1, s2⟩ := m_hstep (fE.tx h) ht hn (i := i) (q := 1) (by omega) (show m < 8 by omega) (by omega) (by omega) E16 (by rw [Ej 20 (by omega)]; exact hd.1)
      by_cases g1 : fgT c n (i + 1) = -1
      · obtain ⟨F, f1, f2, f3⟩ := s1 g1
        rw [f3]
        exact flt F (i + 1) (fE.trans f1) f2 (by unfold hfT; rw [if_neg ck, if_pos g1])
      · obtain ⟨F, f1, f2, f3, f4, f5⟩ := s2 g1
        rw [f5, show itr (fun _ _ _ => none) s_Model_readsHouse_54 (M + 3) (zI t) (zI ((1 + 1 : Nat) : Int)) F = s_Model_readsHouse_54 (itr (fun _ _ _ => none) s_Model_readsHouse_54 (M + 2)) (zI t) (zI ((2 : Nat) : Int)) F from rfl]
        have F20 : F 176 20 = zI (m : Nat) := by rw [f3 20 (by omega) (by omega), Ej 20 (by omega)]; exact hd.1
        have fF := fE.trans f1
        obtain ⟨s3, s4⟩ := m_hstep (fF.tx h) ht hn (i := i) (q := 2) (by omega) (show m < 8 by omega) (by omega) (by omega) f2 F20
        by_cases g2 : fgT c n (i + 2) = -1
        · obtain ⟨G, k1, k2, k3⟩ := s3 g2
          rw [k3]
          exact flt G (i + 2) (fF.trans k1) k2 (by unfold hfT; rw [if_neg ck, if_neg g1, if_pos g2])
        · obtain ⟨G, k1, k2, k3, k4, k5⟩ := s4 g2
          rw [k5, show itr (fun _ _ _ => none) s_Model_readsHouse_54 (M + 2) (zI t) (zI ((2 + 1 : Nat) : Int)) G = s_Model_readsHouse_54 (itr (fun _ _ _ => none) s_Model_readsHouse_54 (M + 1)) (zI t) (zI ((3 : Nat) : Int)) G from rfl]
          have G20 : G 176 20 = zI (m : Nat) := by rw [k3 20 (by omega) (by omega)]; exact F20
          have fG := fF.trans k1
          obtain ⟨s5, s6⟩ := m_hstep (fG.tx h) ht hn (i := i) (q := 3) (by omega) (show m < 8 by omega) (by omega) (by omega) k2 G20
          by_cases g3 : fgT c n (i + 3) = -1
          · obtain ⟨H, y1, y2, y3⟩ := s5 g3
            rw [y3]
            exact flt H (i + 3) (fG.trans y1) y2 (by unfold hfT; rw [if_neg ck, if_neg g1, if_neg g2, if_pos g3])
          · obtain ⟨H, y1, y2, y3, y4, y5⟩ := s6 g3
            have e : hfT c n i = none := by unfold hfT; rw [if_neg ck, if_neg g1, if_neg g2, if_neg g3]
            have H20 : H 176 20 = zI (m : Nat) := by rw [y3 20 (by omega) (by omega)]; exact G20
            rw [y5, itr_s]
            generalize itr (fun _ _ _ => none) s_Model_readsHouse_54 M = kk
            unfold s_Model_readsHouse_54
            rw [if_pos (show (4 : Int32) ≤ zI ((3 + 1 : Nat) : Int) by decide), nm_s, H20, zI_s]
            refine ⟨wr H 176 20 (zI ((m + 1 : Nat) : Int)), (fG.trans y1).trans (RdFr.sl (by omega) (by omega) _), fun q => absurd q c8, fun _ x hx => (by rw [e] at hx; cases hx), fun _ _ => ⟨rfl, by rw [wr_at, upd_ne (by omega)]; exact y2, ⟨by rw [wr_at, upd_at], fun j hj => ?_⟩, ?_, ?_⟩⟩
            · rw [wr_ne (by omega), y4, k4, f4, E188]
              by_cases cj : j = m
              · subst cj
                rw [← hp]
                refine ⟨?_, ?_, ?_, ?_⟩
                · rw [upd_ne (by omega), upd_ne (by omega), upd_ne (by omega), upd_at]
                · rw [upd_ne (by omega), upd_ne (by omega), upd_at]
                · rw [upd_ne (by omega), upd_at]
                · rw [upd_at]
              · obtain ⟨x1, x2, x3, x4⟩ := hd.2 j (by omega)
                refine ⟨?_, ?_, ?_, ?_⟩
                · rw [upd_ne (by omega), upd_ne (by omega), upd_ne (by omega), upd_ne (by omega)]; exact x1
                · rw [upd_ne (by omega), upd_ne (by omega), upd_ne (by omega), upd_ne (by omega)]; exact x2
                · rw [upd_ne (by omega), upd_ne (by omega), upd_ne (by omega), upd_ne (by omega)]; exact x3
                · rw [upd_ne (by omega), upd_ne (by omega), upd_ne (by omega), upd_ne (by omega)]; exact x4
            · rw [wr_at, upd_ne (by omega), y3 18 (by omega) (by omega), k3 18 (by omega) (by omega), f3 18 (by omega) (by omega), Ej 18 (by omega)]
            · rw [wr_at, upd_ne (by omega), y3 19 (by omega) (by omega), k3 19 (by omega) (by omega), f3 19 (by omega) (by omega), Ej 19 (by omega)]
