/-! fault, street: the model -/
theorem m_readLoop2 {t n i0 : Nat} {c : Nat → Int32} (ht : t < 4) (hn : n ≤ 60) : ∀ (d i m : Nat) (D : Dt) (N : Nat), n - i ≤ d → i ≤ n → m ≤ 8 → MTx D t n c → D 176 16 = zI (i : Nat) → ¬ D 176 18 = 0 → HdM D c n i0 m → bbT c n i = psT c n i0 m →
    ∃ D1, itr (fun _ _ => none) s_Model_faultOf_15 (N + d + 1) (zI t) D = some (zI (ftV (rsT c n (9 - m) (bbT c n i) m).1), D1) ∧ RdFr D D1 ∧ ((rsT c n (9 - m) (bbT c n i) m).1 = none → HdM D1 c n i0 (rsT c n (9 - m) (bbT c n i) m).2 ∧ D1 176 18 = D 176 18 ∧ D1 176 19 = D 176 19) := by
  intro d
  induction d with
  | zero =>
    intro i m D N hd hi hm hc h16 h18 hh hp
    have e : bbT c n i = i := bbT_e (by omega)
    have er : rsT c n (9 - m) i m = (none, m) := by
      rw [show 9 - m = (8 - m) + 1 by omega]
      show (if n ≤ i then (none, m) else _) = _
      rw [if_pos (by omega)]
    rw [e, er, itr_s]
    unfold s_Model_faultOf_15
    rw [if_pos (inb_t (by omega) (by omega) (by omega)), zI_nat (by omega), hc.1, h16, if_pos ((zI_le (by omega) (by omega) (by omega) (by omega)).mpr (by omega)), if_neg h18]
    exact ⟨D, rfl, RdFr.refl D, fun _ => ⟨hh, rfl, rfl⟩⟩
  | succ d ih =>
    intro i m D N hd hi hm hc h16 h18 hh hp
    by_cases c1 : n ≤ i
    · have e : bbT c n i = i := bbT_e (by omega)
      have er : rsT c n (9 - m) i m = (none, m) := by
        rw [show 9 - m = (8 - m) + 1 by omega]
        show (if n ≤ i then (none, m) else _) = _
        rw [if_pos (by omega)]
      rw [e, er, itr_s]
      unfold s_Model_faultOf_15
      rw [if_pos (inb_t (by omega) (by omega) (by omega)), zI_nat (by omega), hc.1, h16, if_pos ((zI_le (by omega) (by omega) (by omega) (by omega)).mpr (by omega)), if_neg h18]
      exact ⟨D, rfl, RdFr.refl D, fun _ => ⟨hh, rfl, rfl⟩⟩
    · rw [itr_s, show N + (d + 1) = N + d + 1 by omega]
      generalize hkk : itr (fun _ _ => none) s_Model_faultOf_15 (N + d + 1) = kk
      unfold s_Model_faultOf_15 b_Model_faultOf_81
      rw [if_pos (inb_t (by omega) (by omega) (by omega)), zI_nat (by omega), hc.1, h16, if_neg (by rw [zI_le (by omega) (by omega) (by omega) (by omega)]; omega), m_byte hc ht hn (by omega), bnd_s, if_pos (show i < n by omega), if_neg h18]
      by_cases c2 : c i = 32
      · rw [if_pos c2, nm_s, h16, zI_s, bbT_s (by omega) c2, ← hkk]
        have fE : RdFr D (wr D 176 16 (zI ((i + 1 : Nat) : Int))) := RdFr.sl (by omega) (by omega) _
        obtain ⟨G, g1, g2, g3⟩ := ih (i + 1) m (wr D 176 16 (zI ((i + 1 : Nat) : Int))) N (by omega) (by omega) hm (fE.tx hc) (by rw [wr_at, upd_at]) (by rw [wr_at, upd_ne (by omega)]; exact h18) ⟨by rw [wr_at, upd_ne (by omega)]; exact hh.1, fun j hj => by rw [wr_ne (by omega)]; exact hh.2 j hj⟩ (by rw [← bbT_s (by omega) c2]; exact hp)
        refine ⟨G, g1, fE.trans g2, fun q => ?_⟩
        obtain ⟨y1, y2, y3⟩ := g3 q
        exact ⟨y1, by rw [y2, wr_at, upd_ne (by omega)], by rw [y3, wr_at, upd_ne (by omega)]⟩
      · have e : bbT c n i = i := bbT_e (fun q => c2 q.2)
        rw [e] at hp ⊢
        have er : rsT c n (9 - m) i m = if 8 ≤ m then (some i, m) else nxT c n (hfT c n i) m (rsT c n (8 - m) (bbT c n (i + 4)) (m + 1)) := by
          rw [show 9 - m = (8 - m) + 1 by omega]
          show (if n ≤ i then (none, m) else _) = _
          rw [if_neg c1]
        rw [if_neg c2, er]
        obtain ⟨F, f1, f2, f3, f4⟩ := m_readsHouse hc ht hn (show i < n by omega) hm h16 hh hp
        by_cases c8 : 8 ≤ m
        · obtain ⟨x1, x2⟩ := f2 c8
          rw [x1, bnd_s, if_pos rfl, if_pos c8, x2]
          exact ⟨F, rfl, f1, fun q => by cases q⟩
        · rw [if_neg c8]
          cases hf : hfT c n i with
          | some x =>
            obtain ⟨x1, x2⟩ := f3 (by omega) x hf
            rw [x1, bnd_s, if_pos rfl, x2]
            exact ⟨F, rfl, f1, fun q => by cases q⟩
          | none =>
            obtain ⟨x1, x2, x3, x4, x5⟩ := f4 (by omega) hf
            have h3 := (fgT_b c n (i + 3)).2.2 (hfT_0 hf).2.2.2
            rw [x1, bnd_s, if_neg (show ¬ (1 : Int32) = 0 by decide), ← hkk]
            obtain ⟨G, g1, g2, g3⟩ := ih (i + 4) (m + 1) F N (by omega) (by omega) (by omega) (f1.tx hc) x2 (by rw [x4]; exact h18) x3 (by rw [hp]; rfl)
            rw [show 9 - (m + 1) = 8 - m by omega] at g1 g3
            refine ⟨G, g1, f1.trans g2, fun q => ?_⟩
            obtain ⟨y1, y2, y3⟩ := g3 q
            exact ⟨y1, by rw [y2, x4], by rw [y3, x5]⟩
theorem m_readLoop1 {t n : Nat} {c : Nat → Int32} (ht : t < 4) (hn : n ≤ 60) : ∀ (d i : Nat) (D : Dt) (N : Nat), n - i ≤ d → i ≤ n → MTx D t n c → D 176 16 = zI (i : Nat) → D 176 18 = 0 → D 176 20 = 0 → bbT c n i = bbT c n 0 →
    ∃ D1, itr (fun _ _ => none) s_Model_faultOf_15 (N + 61 + d + 1) (zI t) D = some (zI (ftV (stT c n).1), D1) ∧ RdFr D D1 ∧ ((stT c n).1 = none → HdM D1 c n (i0T c n) (stT c n).2 ∧ D1 176 18 = zI (fgT c n (bbT c n 0 + 1)) ∧ D1 176 19 = zI (fgT c n (bbT c n 0 + 2))) := by
  intro d
  induction d with
  | zero =>
    intro i D N hd hi hc h16 h18 h20 hp
    have e : bbT c n i = i := bbT_e (by omega)
    have er : stT c n = (some i, 0) := by unfold stT; rw [if_pos (Or.inl (by omega)), ← hp, e]
    rw [er, itr_s]
    have hin : inb (zI (t : Int)) 4 = true := inb_t (by omega) (by omega) (by omega)
    unfold s_Model_faultOf_15
    rw [if_pos hin, if_pos hin, zI_nat (by omega), hc.1, h16, if_pos ((zI_le (by omega) (by omega) (by omega) (by omega)).mpr (by omega)), if_pos h18]
    exact ⟨D, by rw [show n = i by omega]; rfl, RdFr.refl D, fun q => by cases q⟩
  | succ d ih =>
    intro i D N hd hi hc h16 h18 h20 hp
    have hin : inb (zI (t : Int)) 4 = true := inb_t (by omega) (by omega) (by omega)
    by_cases c1 : n ≤ i
    · have e : bbT c n i = i := bbT_e (by omega)
      have er : stT c n = (some i, 0) := by unfold stT; rw [if_pos (Or.inl (by omega)), ← hp, e]
      rw [er, itr_s]
      unfold s_Model_faultOf_15
      rw [if_pos hin, if_pos hin, zI_nat (by omega), hc.1, h16, if_pos ((zI_le (by omega) (by omega) (by omega) (by omega)).mpr (by omega)), if_pos h18]
      exact ⟨D, by rw [show n = i by omega]; rfl, RdFr.refl D, fun q => by cases q⟩
    · rw [itr_s, show N + 61 + (d + 1) = N + 61 + d + 1 by omega]
      generalize hkk : itr (fun _ _ => none) s_Model_faultOf_15 (N + 61 + d + 1) = kk
      unfold s_Model_faultOf_15 b_Model_faultOf_81
      rw [if_pos hin, zI_nat (by omega), hc.1, h16, if_neg (by rw [zI_le (by omega) (by omega) (by omega) (by omega)]; omega), m_byte hc ht hn (by omega), bnd_s, if_pos (show i < n by omega), if_pos h18]
      by_cases c2 : c i = 32
      · rw [if_pos c2, nm_s, h16, zI_s, ← hkk]
        have fE : RdFr D (wr D 176 16 (zI ((i + 1 : Nat) : Int))) := RdFr.sl (by omega) (by omega) _
        obtain ⟨G, g1, g2, g3⟩ := ih (i + 1) (wr D 176 16 (zI ((i + 1 : Nat) : Int))) N (by omega) (by omega) (fE.tx hc) (by rw [wr_at, upd_at]) (by rw [wr_at, upd_ne (by omega)]; exact h18) (by rw [wr_at, upd_ne (by omega)]; exact h20) (by rw [← bbT_s (by omega) c2]; exact hp)
        exact ⟨G, g1, fE.trans g2, g3⟩
      · have e : bbT c n i = i := bbT_e (fun q => c2 q.2)
        rw [e] at hp
        have est : stT c n = if n ≤ i ∨ ¬ c i = 113 then (some i, 0) else if fgT c n (i + 1) < 1 then (some (i + 1), 0) else if fgT c n (i + 2) = -1 then (some (i + 2), 0) else rsT c n 9 (bbT c n (i + 3)) 0 := by unfold stT; rw [← hp]
        rw [if_neg c2, est]
        obtain ⟨F, f1, f2, f3, f4, f5⟩ := m_readsFlow hc ht hn (show i < n by omega) h16
        by_cases g : c i = 113
        · have hno : ¬ (n ≤ i ∨ ¬ c i = 113) := fun z => by rcases z with z | z; exact c1 z; exact z g
          rw [if_neg hno]
          by_cases g1 : fgT c n (i + 1) < 1
          · obtain ⟨x1, x2⟩ := f3 g g1
            rw [x1, bnd_s, if_pos rfl, x2, if_pos g1]
            exact ⟨F, rfl, f1, fun q => by cases q⟩
          · rw [if_neg g1]
            by_cases g2 : fgT c n (i + 2) = -1
            · obtain ⟨x1, x2⟩ := f4 g (by omega) g2
              rw [x1, bnd_s, if_pos rfl, x2, if_pos g2]
              exact ⟨F, rfl, f1, fun q => by cases q⟩
            · obtain ⟨x1, x2, x3, x4, x5⟩ := f5 g (by omega) g2
              have h3 := (fgT_b c n (i + 2)).2.2 g2
              have b1 := fgT_b c n (i + 1)
              rw [x1, bnd_s, if_neg (show ¬ (1 : Int32) = 0 by decide), if_neg g2, ← hkk]
              obtain ⟨G, y1, y2, y3⟩ := m_readLoop2 (i0 := bbT c n (i + 3)) ht hn 60 (i + 3) 0 F (N + d + 1) (by omega) (by omega) (by omega) (f1.tx hc) x2 (by rw [x3, show (0 : Int32) = zI 0 from rfl, zI_eq (by omega) (by omega) (by omega) (by omega)]; omega) ⟨by rw [x5]; exact h20, fun j hj => by omega⟩ rfl
              rw [show N + d + 1 + 60 + 1 = N + 61 + d + 1 by omega] at y1
              refine ⟨G, y1, f1.trans y2, fun q => ?_⟩
              obtain ⟨w1, w2, w3⟩ := y3 q
              rw [show i0T c n = bbT c n (i + 3) from by show bbT c n (bbT c n 0 + 3) = _; rw [← hp], ← hp]
              exact ⟨w1, by rw [w2]; exact x3, by rw [w3]; exact x4⟩
        · obtain ⟨x1, x2⟩ := f2 g
          rw [x1, bnd_s, if_pos rfl, x2, if_pos (Or.inr g)]
          exact ⟨F, rfl, f1, fun q => by cases q⟩
theorem m_faultOf {D : Dt} {t n : Nat} {c : Nat → Int32} (ht : t < 4) (hn : n ≤ 60) (hc : MTx D t n c) : ∃ D1, f_Model_faultOf (zI t) D = some (zI (ftV (stT c n).1), D1) ∧ RdFr D D1 ∧ ((stT c n).1 = none → HdM D1 c n (i0T c n) (stT c n).2 ∧ D1 176 18 = zI (fgT c n (bbT c n 0 + 1)) ∧ D1 176 19 = zI (fgT c n (bbT c n 0 + 2))) := by
  unfold f_Model_faultOf lp_Model_faultOf_15
  rw [nm_s, nm_s, nm_s]
  generalize hE : wr (wr (wr D 176 16 0) 176 18 0) 176 20 0 = E
  have fE : RdFr D E := by rw [← hE]; exact (RdFr.sl (by omega) (by omega) _).trans ((RdFr.sl (by omega) (by omega) _).trans (RdFr.sl (by omega) (by omega) _))
  obtain ⟨M, hM⟩ := FU_eq (n := 122) (by omega)
  obtain ⟨G, g1, g2, g3⟩ := m_readLoop1 (c := c) ht hn 60 0 E M (by omega) (by omega) (fE.tx hc) (by rw [← hE, wr_at, upd_ne (by omega), wr_at, upd_ne (by omega), wr_at, upd_at]; rfl) (by rw [← hE, wr_at, upd_ne (by omega), wr_at, upd_at]) (by rw [← hE, wr_at, upd_at]) rfl
  rw [hM, show M + 122 = M + 61 + 60 + 1 by omega]
  exact ⟨G, g1, fE.trans g2, g3⟩
theorem RdFr.rep {D D1 : Dt} {S : SstT} (h : MRep D S) (f : RdFr D D1) : MRep D1 S := h.congr (fun j hj => f.1 j (by
  simp only [mSl, Bool.or_eq_true, beq_iff_eq] at hj
  omega)) (fun k hk => by
  simp only [mIds, Bool.or_eq_true, Bool.and_eq_true, decide_eq_true_eq, beq_iff_eq] at hk
  exact f.2 k (by omega) (by omega))
theorem tx_m {D : Dt} {S : SstT} (h : MRep D S) {t : Nat} (ht : t < 4) (hz : (S.2.1 t).1 ≠ -1) (ho : Ok1 S) : MTx D t (txN S t) (S.2.1 t).2 ∧ txN S t ≤ 60 ∧ ((txN S t : Nat) : Int) = (S.2.1 t).1 := by
  have hw := ho.2 t ht
  unfold rwOk at hw
  have e : ((txN S t : Nat) : Int) = (S.2.1 t).1 := by show (((S.2.1 t).1.toNat : Nat) : Int) = _; omega
  obtain ⟨g1, g2⟩ := h.2.1 t ht
  refine ⟨⟨by rw [e]; exact g1, fun i hi => g2 i (by omega)⟩, by omega, e⟩
theorem q_fault {D : Dt} {S : SstT} (h : MRep D S) (ho : Ok S) (v1 : Int32) : MDo (f_Model_fault v1 D) D (sp_fault v1 S).1 (sp_fault v1 S).2 := by
  unfold f_Model_fault sp_fault
  rw [m_isText, bnd_s, zo_if]
  by_cases c : wi v1 0 3 = true
  · obtain ⟨t, ht, -, rfl⟩ := wi_nat c (by omega)
    have hw := ho.1.2 t (by omega)
    unfold rwOk at hw
    rw [if_pos c, if_pos c, zI_toInt (show -2147483648 ≤ (t : Int) by omega) (show (t : Int) < 2147483648 by omega), Int.toNat_natCast, if_pos (inb_t (by omega) (by omega) (by omega)), zI_nat (by omega), (h.2.1 t (by omega)).1, if_cg (zI_ge0 (by omega) (by omega))]
    by_cases g : (S.2.1 t).1 = -1
    · rw [if_neg (by omega), if_pos g]
      exact (m_meets h 1 (by omega)).ret
    · obtain ⟨t1, t2, t3⟩ := tx_m h (show t < 4 by omega) g ho.1
      obtain ⟨E, e1, e2, -⟩ := m_faultOf (show t < 4 by omega) t2 t1
      rw [if_pos (by omega), if_neg g, e1, bnd_s]
      exact ⟨E, rfl, e2.rep h, fun k hk => e2.2 k (by omega) (by omega)⟩
  · rw [if_neg c, if_neg c]
    exact MDo.same h _
