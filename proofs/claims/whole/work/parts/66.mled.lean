/-! led, sure, look: the model -/
theorem m_fitsMarks {D : Dt} {S : SstT} (h : MRep D S) (ho : Ok S) {r p : Nat} (hr : r < 6) (hz : (S.1 r).1 = S.2.2.2.1.1.1) (hm : ∀ j, j < S.2.2.2.1.1.1 → D 202 j = zI (mkF S j p)) : f_Model_fitsMarks (zI r) D = some (if ftB S r p = true then 1 else 0, D) := by
  have h8 := ho.2.1.1.1
  obtain ⟨g1, g2⟩ := h.1 r hr
  unfold f_Model_fitsMarks lp_Model_fitsMarks_4
  obtain ⟨m, hm'⟩ := FU_eq (n := S.2.2.2.1.1.1 + 1) (by omega)
  rw [hm', show m + (S.2.2.2.1.1.1 + 1) = (m + 1) + S.2.2.2.1.1.1 by omega]
  obtain ⟨U, -, e⟩ := itr_go (fun _ _ _ _ => none) s_Model_fitsMarks_4 (fun i (U : Unit) k => k (zI r) (if anyB (badB S r p) i = true then 0 else 1) (zI i) D) S.2.2.2.1.1.1 (fun i U => True)
    (fun i hi U _ => ⟨(), trivial, fun k => by
      unfold s_Model_fitsMarks_4 b_Model_fitsMarks_46 b_Model_fitsMarks_42 b_Model_fitsMarks_47
      rw [h.2.2.2.1.1.1, if_neg (by rw [zI_le (by omega) (by omega) (by omega) (by omega)]; omega), m_rowAt hr (by omega), bnd_s, m_rowAt hr (by omega), bnd_s, if_pos (inb_t (by omega) (by omega) (by omega)), zI_nat (by omega), g2 i (by omega), hm i hi, zI_s, show anyB (badB S r p) (i + 1) = (anyB (badB S r p) i || badB S r p i) from rfl]
      rw [show badB S r p i = !(decide ((S.1 r).2 i = -9) || decide ((S.1 r).2 i = zI (mkF S i p))) from rfl]
      generalize anyB (badB S r p) i = A
      cases A with
      | true => simp
      | false =>
        by_cases b : (S.1 r).2 i = -9
        · simp [b]
        · by_cases b2 : (S.1 r).2 i = zI (mkF S i p)
          · simp [b, b2]
          · simp [b, b2]⟩) () trivial
  have e := e (m + 1)
  refine (show itr (fun _ _ _ _ => none) s_Model_fitsMarks_4 (m + 1 + S.2.2.2.1.1.1) (zI r) (if anyB (badB S r p) 0 = true then 0 else 1) (zI ((0 : Nat) : Int)) D = _ from e.trans ?_)
  rw [itr_s]
  unfold s_Model_fitsMarks_4 ftB
  rw [h.2.2.2.1.1.1, if_pos ((zI_le (by omega) (by omega) (by omega) (by omega)).mpr (by omega))]
  by_cases a : anyB (badB S r p) S.2.2.2.1.1.1 = true
  · simp [a]
  · simp [a]
theorem mSl_44 {j : Nat} (h : mSl j = true) : j < 44 := by
  simp only [mSl, Bool.or_eq_true, beq_iff_eq] at h
  omega
theorem m_slot {D D1 : Dt} {S : SstT} (h : MRep D S) (hs : ∀ j, j < 44 → D1 176 j = D 176 j) (hk : ∀ k, k ≠ 176 → k < 203 → D1 k = D k) : MRep D1 S := h.congr (fun j hj => hs j (mSl_44 hj)) (fun k hk2 => by
  simp only [mIds, Bool.or_eq_true, Bool.and_eq_true, decide_eq_true_eq, beq_iff_eq] at hk2
  exact hk k (by omega) (by omega))
/-- all plans gone through -/
def FitM (D : Dt) (P : Nat → Bool) (n : Nat) : Prop := D 176 44 = zI ((fitL P n).length : Nat) ∧ D 176 45 = zI (hdZ (fitL P n)) ∧ D 176 46 = anL (fitL P n) ∧ D 176 47 = noL (fitL P n) ∧ ∀ p, p < n → D 203 p = if P p = true then 1 else 0
theorem m_needFits {D : Dt} {S : SstT} (h : MRep D S) (ho : Ok S) (hn : 0 < S.2.2.2.1.1.1) {r : Nat} (hr : r < 6) (hz : (S.1 r).1 = S.2.2.2.1.1.1) (h0 : FitM D (ftB S r) 0) : ∃ D1, lp_Model_needMarks_145 FU (zI r) 0 D = some (0, D1) ∧ MRep D1 S ∧ FrM D D1 ∧ FitM D1 (ftB S r) PL := by
  unfold lp_Model_needMarks_145
  obtain ⟨m, hm⟩ := FU_eq (n := 257) (by omega)
  rw [hm, show m + 257 = (m + 1) + 256 by omega]
  obtain ⟨F, ⟨f1, f2, f3⟩, e⟩ := itr_go (fun _ _ _ => none) s_Model_needMarks_145 (fun i (F : Dt) k => k (zI r) (zI i) F) 256 (fun i (F : Dt) => MRep F S ∧ FrM D F ∧ FitM F (ftB S r) i)
    (fun i hi F z => by
      obtain ⟨z1, z2, z3⟩ := z
      obtain ⟨L, l1, l2, l3, l4, l5, l6⟩ := m_layTuesday z1 ho hn (show i < 256 by omega)
      have hlk := m_fitsMarks l3 ho hr hz (p := i) (fun j hj => (l2.1.2.2.2.1 j hj).1)
      obtain ⟨y1, y2, y3, y4, y5⟩ := z3
      have i256 : ¬ (256 : Int32) ≤ zI (i : Int) := by rw [show (256 : Int32) = zI 256 from rfl, zI_le (by omega) (by omega) (by omega) (by omega)]; omega
      have hin : inb (zI (i : Int)) 256 = true := inb_t (by omega) (by omega) (by omega)
      have hlen := fitL_len (ftB S r) i
      by_cases g : ftB S r i = true
      · refine ⟨wr (wr (wr (wr (wr L 203 i 1) 176 45 (zI (hdZ (fitL (ftB S r) (i + 1))))) 176 44 (zI ((fitL (ftB S r) (i + 1)).length : Nat))) 176 46 (anL (fitL (ftB S r) (i + 1)))) 176 47 (noL (fitL (ftB S r) (i + 1))), ⟨m_slot l3 (fun j hj => ?_) (fun k a b => by rw [wr_ne a, wr_ne a, wr_ne a, wr_ne a, wr_ne (by omega)]), fun k hk => by rw [wr_ne (by omega), wr_ne (by omega), wr_ne (by omega), wr_ne (by omega), wr_ne (by omega), l4 k hk, z2 k hk], ⟨?_, ?_, ?_, ?_, fun p hp => ?_⟩⟩, fun k => ?_⟩
        · rw [wr_at, upd_ne (by omega), wr_at, upd_ne (by omega), wr_at, upd_ne (by omega), wr_at, upd_ne (by omega), wr_ne (by omega)]
        · rw [wr_at, upd_ne (by omega), wr_at, upd_ne (by omega), wr_at, upd_at]
        · rw [wr_at, upd_ne (by omega), wr_at, upd_ne (by omega), wr_at, upd_ne (by omega), wr_at, upd_at]
        · rw [wr_at, upd_ne (by omega), wr_at, upd_at]
        · rw [wr_at, upd_at]
        · rw [wr_ne (by omega), wr_ne (by omega), wr_ne (by omega), wr_ne (by omega), wr_at]
          by_cases c : p = i
          · subst c; rw [upd_at, if_pos g]
          · rw [upd_ne c, l6 203 (by omega)]; exact y5 p (by omega)
        · have hfs : fitL (ftB S r) (i + 1) = fitL (ftB S r) i ++ [i] := by rw [fitL_s, if_pos g]
          unfold s_Model_needMarks_145
          rw [if_neg i256, l1, bnd_s, hlk, bnd_s, if_pos hin, nm_s, if_pos hin, zI_nat (by omega), if_pos g, show vp_nar .boolean 1 = (1 : Int32) from by decide, wr_at, upd_at, if_neg (show ¬ (1 : Int32) = 0 by decide), wr_ne (show 176 ≠ 203 by omega), l5 44 (by omega), l5 45 (by omega), y1, y2]
          have bl : ∀ s0 : Int32, s0 = zI (hdZ (fitL (ftB S r) (i + 1))) → b_Model_needMarks_193 k (zI r) (zI i) s0 (wr L 203 i 1) = k (zI r) (zI ((i + 1 : Nat) : Int)) (wr (wr (wr (wr (wr L 203 i 1) 176 45 (zI (hdZ (fitL (ftB S r) (i + 1))))) 176 44 (zI ((fitL (ftB S r) (i + 1)).length : Nat))) 176 46 (anL (fitL (ftB S r) (i + 1)))) 176 47 (noL (fitL (ftB S r) (i + 1)))) := by
            intro s0 hs0
            unfold b_Model_needMarks_193 b_Model_needMarks_228
            rw [hs0, nm_s, nm_s, nm_s, nm_s, zI_s, wr_at _ 176 45, upd_ne (show 44 ≠ 45 by omega), wr_at _ 176 44, upd_ne (show 46 ≠ 44 by omega), wr_at _ 176 45, upd_ne (show 46 ≠ 45 by omega), wr_at _ 176 46, upd_ne (show 47 ≠ 46 by omega), wr_at _ 176 44, upd_ne (show 47 ≠ 44 by omega), wr_at _ 176 45, upd_ne (show 47 ≠ 45 by omega), wr_ne (show 176 ≠ 203 by omega), l5 44 (by omega), l5 46 (by omega), l5 47 (by omega), y1, y3, y4, zI_s, ← anL_s, ← noL_s, ← hfs, show (fitL (ftB S r) (i + 1)).length = (fitL (ftB S r) i).length + 1 from by rw [hfs, List.length_append]; rfl]
          rw [show (0 : Int32) = zI ((0 : Nat) : Int) from rfl, if_cg (zI_eqn (by omega) (by omega))]
          by_cases c : (fitL (ftB S r) i).length = 0
          · rw [if_pos c, bl _ (by rw [hfs, hdZ_app, if_pos c])]
          · rw [if_neg c, bl _ (by rw [hfs, hdZ_app, if_neg c])]
      · have hfs : fitL (ftB S r) (i + 1) = fitL (ftB S r) i := by rw [fitL_s, if_neg g, List.append_nil]
        refine ⟨wr L 203 i 0, ⟨m_slot l3 (fun j hj => by rw [wr_ne (by omega)]) (fun k a b => by rw [wr_ne (by omega)]), fun k hk => by rw [wr_ne (by omega), l4 k hk, z2 k hk], ?_⟩, fun k => ?_⟩
        · unfold FitM
          rw [wr_ne (show 176 ≠ 203 by omega), hfs, l5 44 (by omega), l5 45 (by omega), l5 46 (by omega), l5 47 (by omega)]
          refine ⟨y1, y2, y3, y4, fun p hp => ?_⟩
          rw [wr_at]
          by_cases c : p = i
          · subst c; rw [upd_at, if_neg g]
          · rw [upd_ne c, l6 203 (by omega)]; exact y5 p (by omega)
        · unfold s_Model_needMarks_145 b_Model_needMarks_228
          rw [if_neg i256, l1, bnd_s, hlk, bnd_s, if_pos hin, nm_s, if_pos hin, zI_nat (by omega), if_neg g, show vp_nar .boolean 0 = (0 : Int32) from by decide, wr_at, upd_at, if_pos rfl, zI_s])
    D ⟨h, fun _ _ => rfl, h0⟩
  have e := e (m + 1)
  refine (show ∃ D1, itr (fun _ _ _ => none) s_Model_needMarks_145 (m + 1 + 256) (zI r) (zI ((0 : Nat) : Int)) D = some (0, D1) ∧ _ from ?_)
  refine ⟨F, ?_, f1, f2, f3⟩
  refine e.trans ?_
  rw [itr_s]
  unfold s_Model_needMarks_145
  rw [if_pos (by decide)]
theorem m_needMarks {D : Dt} {S : SstT} (h : MRep D S) (ho : Ok S) (v1 : Int32) : MDo (f_Model_needMarks v1 D) D (rfMk v1 S).1 (rfMk v1 S).2 ∧ ((rfMk v1 S).1 = 0 → ∃ D1, f_Model_needMarks v1 D = some (0, D1) ∧ MRep D1 S ∧ FrM D D1 ∧ FitM D1 (ftB S v1.toInt.toNat) PL) := by
  have h8 := ho.2.1.1.1
  unfold f_Model_needMarks rfMk
  rw [m_isRow, bnd_s, zo_if, if_cg (m_n0 h ho)]
  by_cases c : wi v1 0 5 = true
  · rw [if_pos c, if_pos c]
    by_cases d : 0 < S.2.2.2.1.1.1
    · rw [if_neg (fun q => q d), if_pos d]
      obtain ⟨r, hr, -, rfl⟩ := wi_nat c (by omega)
      have hz := ho.1.1 r (by omega)
      unfold rwOk at hz
      obtain ⟨g1, g2⟩ := h.1 r (by omega)
      have hin : inb (zI (r : Int)) 6 = true := inb_t (by omega) (by omega) (by omega)
      rw [zI_toInt (show -2147483648 ≤ (r : Int) by omega) (show (r : Int) < 2147483648 by omega), Int.toNat_natCast, if_pos hin, if_pos hin, zI_nat (by omega), g1, if_cg (zI_ge0 (by omega) (by omega)), h.2.2.2.1.1.1, if_cg (zI_eq (by omega) (by omega) (by omega) (by omega))]
      by_cases g : (S.1 r).1 = -1
      · rw [if_neg (by omega), if_pos g]
        exact ⟨(m_meets h 1 (by omega)).ret, fun q => absurd q ng3⟩
      · rw [if_pos (by omega), if_neg g]
        by_cases u : (S.1 r).1 = S.2.2.2.1.1.1
        · rw [if_pos u, if_pos u]
          unfold lp_Model_needMarks_57
          obtain ⟨m, hm⟩ := FU_eq (n := S.2.2.2.1.1.1 + 1) (by omega)
          rw [hm, show m + (S.2.2.2.1.1.1 + 1) = (m + 1) + S.2.2.2.1.1.1 by omega]
          obtain ⟨U, -, e⟩ := itr_go (fun _ _ _ _ => none) s_Model_needMarks_57 (fun i (U : Unit) k => k (zI r) (if anyB (umB (S.1 r)) i = true then 0 else 1) (zI i) D) S.2.2.2.1.1.1 (fun i U => True)
            (fun i hi U _ => ⟨(), trivial, fun k => by
              unfold s_Model_needMarks_57 b_Model_needMarks_100 b_Model_needMarks_96 b_Model_needMarks_101
              rw [h.2.2.2.1.1.1, if_neg (by rw [zI_le (by omega) (by omega) (by omega) (by omega)]; omega), m_rowAt (by omega) (by omega), bnd_s, m_rowAt (by omega) (by omega), bnd_s, m_in, bnd_s, zo_if, g2 i (by omega), zI_s, show anyB (umB (S.1 r)) (i + 1) = (anyB (umB (S.1 r)) i || umB (S.1 r) i) from rfl]
              simp only [tl]
              rw [show umB (S.1 r) i = !(decide ((S.1 r).2 i = -9) || wi ((S.1 r).2 i) 0 999) from rfl]
              generalize anyB (umB (S.1 r)) i = A
              cases A with
              | true => simp
              | false =>
                by_cases b : (S.1 r).2 i = -9
                · simp [b]
                · by_cases b2 : wi ((S.1 r).2 i) 0 999 = true
                  · simp [b, b2]
                  · simp [b, b2]⟩) () trivial
          have e := e (m + 1)
          have e : itr (fun _ _ _ _ => none) s_Model_needMarks_57 (m + 1 + S.2.2.2.1.1.1) (zI r) 1 0 D = _ := e
          rw [e, itr_s]
          unfold s_Model_needMarks_57
          rw [h.2.2.2.1.1.1, if_pos ((zI_le (by omega) (by omega) (by omega) (by omega)).mpr (by omega))]
          by_cases a : anyB (umB (S.1 r)) S.2.2.2.1.1.1 = true
          · rw [if_pos a, if_pos rfl, if_pos a]
            exact ⟨(m_meets h 3 (by omega)).ret, fun q => absurd q ng3⟩
          · rw [if_neg a, if_neg (by decide), if_neg a, nm_s, nm_s, nm_s, nm_s]
            generalize hE : wr (wr (wr (wr D 176 44 0) 176 45 (-9)) 176 46 255) 176 47 255 = E
            have hEr : MRep E S := m_slot h (fun j hj => by rw [← hE, wr_at, upd_ne (by omega), wr_at, upd_ne (by omega), wr_at, upd_ne (by omega), wr_at, upd_ne (by omega)]) (fun k a b => by rw [← hE, wr_ne a, wr_ne a, wr_ne a, wr_ne a])
            obtain ⟨F, f1, f2, f3, f4⟩ := m_needFits hEr ho d (show r < 6 by omega) u ⟨by rw [← hE, wr_at, upd_ne (by omega), wr_at, upd_ne (by omega), wr_at, upd_ne (by omega), wr_at, upd_at]; rfl, by rw [← hE, wr_at, upd_ne (by omega), wr_at, upd_ne (by omega), wr_at, upd_at]; rfl, by rw [← hE, wr_at, upd_ne (by omega), wr_at, upd_at]; rfl, by rw [← hE, wr_at, upd_at]; rfl, fun p hp => by omega⟩
            have fr : FrM D F := fun k hk => by rw [f3 k hk, ← hE, wr_ne (by omega), wr_ne (by omega), wr_ne (by omega), wr_ne (by omega)]
            exact ⟨⟨F, f1, f2, fr⟩, fun _ => ⟨F, f1, f2, fr, f4⟩⟩
        · rw [if_neg u, if_neg u]
          exact ⟨(m_meets h 5 (by omega)).ret, fun q => absurd q ng3⟩
    · rw [if_pos d, if_neg d]
      exact ⟨MDo.same h _, fun q => absurd q ng4⟩
  · rw [if_neg c, if_neg c]
    exact ⟨MDo.same h _, fun q => absurd q ng1⟩
theorem rfMk_n {v1 : Int32} {S : SstT} (h : ¬ (rfMk v1 S).1 = 0) : ¬ 0 ≤ (rfMk v1 S).1 := by
  unfold rfMk at h ⊢
  split
  · split
    · split
      · exact (show ¬ (0 : Int32) ≤ -3 by decide)
      · split
        · split
          · exact (show ¬ (0 : Int32) ≤ -3 by decide)
          · next a b c d e => exact absurd (by rw [if_pos a, if_pos b, if_neg c, if_pos d, if_neg e]) h
        · exact (show ¬ (0 : Int32) ≤ -3 by decide)
    · exact (show ¬ (0 : Int32) ≤ -4 by decide)
  · exact (show ¬ (0 : Int32) ≤ -1 by decide)
theorem q_led {D : Dt} {S : SstT} (h : MRep D S) (ho : Ok S) (v1 : Int32) : MDo (f_Model_led v1 D) D (sp_led v1 S).1 (sp_led v1 S).2 := by
  obtain ⟨⟨E, e1, e2, e3⟩, n2⟩ := m_needMarks h ho v1
  unfold f_Model_led sp_led
  by_cases c : (rfMk v1 S).1 = 0
  · obtain ⟨F, f1, f2, f3, f4⟩ := n2 c
    rw [f1, bnd_s, if_pos (by decide), if_pos c, f4.1, f4.2.1]
    exact (m_tells f2 _ _).bind f3
  · rw [e1, bnd_s, if_neg (rfMk_n c), if_neg c]
    exact ⟨E, rfl, e2, e3⟩
theorem q_sure {D : Dt} {S : SstT} (h : MRep D S) (ho : Ok S) (v1 : Int32) : MDo (f_Model_sure v1 D) D (sp_sure v1 S).1 (sp_sure v1 S).2 := by
  obtain ⟨⟨E, e1, e2, e3⟩, n2⟩ := m_needMarks h ho v1
  unfold f_Model_sure sp_sure
  by_cases c : (rfMk v1 S).1 = 0
  · obtain ⟨F, f1, f2, f3, f4⟩ := n2 c
    have hl : (ftL S v1).length ≤ 256 := fitL_len _ _
    rw [f1, bnd_s, if_pos (by decide), if_pos c, f4.1, f4.2.2.1, f4.2.2.2.1, show (0 : Int32) = zI ((0 : Nat) : Int) from rfl, if_cg (zI_eqn (show (ftL S v1).length < 2147483648 by omega) (by omega))]
    by_cases g : (ftL S v1).length = 0
    · rw [if_pos g, if_pos g]
      exact (m_meets f2 4 (by omega)).bind f3
    · rw [if_neg g, if_neg g]
      exact (m_tells f2 _ _).bind f3
  · rw [e1, bnd_s, if_neg (rfMk_n c), if_neg c]
    exact ⟨E, rfl, e2, e3⟩
theorem m_leftBy {D : Dt} {S : SstT} (h : MRep D S) (ho : Ok S) (hn : 0 < S.2.2.2.1.1.1) {i : Nat} (hi : i < S.2.2.2.1.1.1) {P : Nat → Bool} (hP : ∀ p, p < 256 → D 203 p = if P p = true then 1 else 0) : ∃ D1, f_Model_leftBy (zI i) D = some (zI (moR (mkF S i) (fitL P PL) : Nat), D1) ∧ MRep D1 S ∧ FrM D D1 ∧ D1 203 = D 203 := by
  have h8 := ho.2.1.1.1
  unfold f_Model_leftBy lp_Model_leftBy_2
  obtain ⟨m, hm⟩ := FU_eq (n := 1001) (by omega)
  rw [hm, show m + 1001 = (m + 1) + 1000 by omega]
  obtain ⟨E, ⟨e1, e2⟩, e⟩ := itr_go (fun _ _ _ => none) s_Model_leftBy_2 (fun n (F : Dt) k => k (zI i) (zI n) F) 1000 (fun n (F : Dt) => (∀ j, j < n → F 204 j = 0) ∧ ∀ k, k ≠ 204 → F k = D k)
    (fun n hn F z => by
      obtain ⟨z1, z2⟩ := z
      refine ⟨wr F 204 n 0, ⟨fun j hj => ?_, fun k hk => by rw [wr_ne hk, z2 k hk]⟩, fun k => ?_⟩
      · rw [wr_at]
        by_cases c : j = n
        · subst c; rw [upd_at]
        · rw [upd_ne c]; exact z1 j (by omega)
      · unfold s_Model_leftBy_2
        rw [if_neg (by rw [show (1000 : Int32) = zI 1000 from rfl, zI_le (by omega) (by omega) (by omega) (by omega)]; omega), if_pos (inb_t (by omega) (by omega) (by omega)), nm_s, zI_nat (by omega), zI_s])
    D ⟨fun j hj => by omega, fun _ _ => rfl⟩
  have e := e (m + 1)
  have e : itr (fun _ _ _ => none) s_Model_leftBy_2 (m + 1 + 1000) (zI i) 0 D = _ := e
  rw [e, itr_s]
  unfold s_Model_leftBy_2
  rw [if_pos (by decide)]
  unfold lp_Model_leftBy_26
  obtain ⟨m, hm⟩ := FU_eq (n := 257) (by omega)
  rw [hm, show m + 257 = (m + 1) + 256 by omega]
  obtain ⟨⟨F, v⟩, ⟨f1, f2, f3, f4, f5⟩, e⟩ := itr_go (fun _ _ _ _ => none) s_Model_leftBy_26 (fun n (F : Dt × Nat) k => k (zI i) (zI (F.2 : Nat)) (zI n) F.1) 256 (fun n (F : Dt × Nat) => MRep F.1 S ∧ FrM D F.1 ∧ F.1 203 = D 203 ∧ (∀ j : Nat, j < 1000 → F.1 204 j = zI (cnL (mkF S i) (fitL P n) (j : Int) : Nat)) ∧ MAl (mkF S i) (fitL P n) F.2)
    (fun n hn2 F z => by
      obtain ⟨z1, z2, z3, z4, z5⟩ := z
      have i256 : ¬ (256 : Int32) ≤ zI (n : Int) := by rw [show (256 : Int32) = zI 256 from rfl, zI_le (by omega) (by omega) (by omega) (by omega)]; omega
      have hin : inb (zI (n : Int)) 256 = true := inb_t (by omega) (by omega) (by omega)
      have hlen := fitL_len P n
      by_cases g : P n = true
      · have hfs : fitL P (n + 1) = fitL P n ++ [n] := by rw [fitL_s, if_pos g]
        obtain ⟨L, l1, l2, l3, l4, l5, l6⟩ := m_layTuesday z1 ho hn (show n < 256 by omega)
        have h202 : L 202 i = zI (mkF S i n) := (l2.1.2.2.2.1 i hi).1
        have hb := mk_b ho hn (show i < 8 by omega) n
        have hc := cnL_le (mkF S i) (fitL P n) (mkF S i n)
        have hcs := cnL_s (mkF S i) (fitL P n) n (mkF S i n)
        rw [if_pos rfl, ← hfs] at hcs
        have hv := z5.le
        have z4' : L 204 (mkF S i n).toNat = zI (cnL (mkF S i) (fitL P n) (mkF S i n) : Nat) := by
          rw [l6 204 (by omega), z4 _ (by omega), show (((mkF S i n).toNat : Nat) : Int) = mkF S i n by omega]
        have Gk : ∀ k, k ≠ 204 → (wr L 204 (mkF S i n).toNat (zI (cnL (mkF S i) (fitL P (n + 1)) (mkF S i n) : Nat))) k = L k := fun k hk => wr_ne hk
        refine ⟨(wr L 204 (mkF S i n).toNat (zI (cnL (mkF S i) (fitL P (n + 1)) (mkF S i n) : Nat)), max F.2 (cnL (mkF S i) (fitL P (n + 1)) (mkF S i n))), ⟨m_slot (D1 := wr L 204 (mkF S i n).toNat (zI (cnL (mkF S i) (fitL P (n + 1)) (mkF S i n) : Nat))) l3 (fun j hj => by rw [Gk 176 (by omega)]) (fun k a b => Gk k (by omega)), fun k hk => (Gk k (by omega)).trans ((l4 k hk).trans (z2 k hk)), (Gk 203 (by omega)).trans ((l6 203 (by omega)).trans z3), fun j hj => ?_, by rw [hfs]; exact z5.step n⟩, fun k => ?_⟩
        · refine (congrFun (wr_at L 204 (mkF S i n).toNat (zI (cnL (mkF S i) (fitL P (n + 1)) (mkF S i n) : Nat))) j).trans ?_
          by_cases c : j = (mkF S i n).toNat
          · subst c; rw [upd_at, show (((mkF S i n).toNat : Nat) : Int) = mkF S i n by omega]
          · rw [upd_ne c, l6 204 (by omega), z4 j hj, hfs, cnL_s, if_neg (by omega), Nat.add_zero]
        · show s_Model_leftBy_26 k (zI i) (zI (F.2 : Nat)) (zI n) F.1 = k (zI i) (zI ((max F.2 (cnL (mkF S i) (fitL P (n + 1)) (mkF S i n)) : Nat) : Int)) (zI ((n + 1 : Nat) : Int)) _
          have inm : inb (zI (mkF S i n)) 1000 = true := inb_t (by omega) (by omega) (by omega)
          have i8 : inb (zI (i : Int)) 8 = true := inb_t (by omega) (by omega) (by omega)
          unfold s_Model_leftBy_26 b_Model_leftBy_78
          rw [if_neg i256, if_pos hin, zI_nat (by omega), z3, hP n hn2, if_pos g, if_neg (show ¬ (1 : Int32) = 0 by decide), l1, bnd_s, if_pos i8, zI_nat (show i < 2147483648 by omega), h202, if_pos inm, if_pos inm, nm_s, if_pos i8, wr_ne (show 202 ≠ 204 by omega), h202, if_pos inm, zI_clamp (by omega) (by omega), wr_at, upd_at, z4', zI_s, ← hcs, m_greater (by omega) (by omega) (by omega) (by omega), bnd_s, zI_s, show (((max F.2 (cnL (mkF S i) (fitL P (n + 1)) (mkF S i n))) : Nat) : Int) = max (F.2 : Int) (cnL (mkF S i) (fitL P (n + 1)) (mkF S i n) : Nat) by omega]
      · have hfs : fitL P (n + 1) = fitL P n := by rw [fitL_s, if_neg g, List.append_nil]
        refine ⟨F, ⟨z1, z2, z3, by rw [hfs]; exact z4, by rw [hfs]; exact z5⟩, fun k => ?_⟩
        unfold s_Model_leftBy_26 b_Model_leftBy_78
        rw [if_neg i256, if_pos hin, zI_nat (by omega), z3, hP n hn2, if_neg g, if_pos rfl, zI_s])
    (E, 0) ⟨m_slot h (fun j hj => by show E 176 j = _; rw [e2 176 (by omega)]) (fun k a b => e2 k (by omega)), fun k hk => e2 k (by omega), e2 203 (by omega), fun j hj => e1 j hj, MAl.nil _⟩
  have e := e (m + 1)
  refine ⟨F, ?_, f1, f2, f3⟩
  refine (show itr (fun _ _ _ _ => none) s_Model_leftBy_26 (m + 1 + 256) (zI i) (zI ((0 : Nat) : Int)) (zI ((0 : Nat) : Int)) E = _ from e.trans ?_)
  rw [itr_s]
  unfold s_Model_leftBy_26
  rw [if_pos (by decide), show v = moR (mkF S i) (fitL P PL) from f5.uniq (moR_ok _ _)]
theorem q_look {D : Dt} {S : SstT} (h : MRep D S) (ho : Ok S) (v1 : Int32) : MDo (f_Model_look v1 D) D (sp_look v1 S).1 (sp_look v1 S).2 := by
  have h8 := ho.2.1.1.1
  obtain ⟨⟨E, e1, e2, e3⟩, n2⟩ := m_needMarks h ho v1
  unfold f_Model_look sp_look
  by_cases c : (rfMk v1 S).1 = 0
  · obtain ⟨F, f1, f2, f3, f4⟩ := n2 c
    obtain ⟨q1, q2, q3, q4⟩ := rfMk_0 c
    obtain ⟨r, hr, -, rfl⟩ := wi_nat q2 (by omega)
    have er : (zI (r : Int)).toInt.toNat = r := by rw [zI_toInt (by omega) (by omega), Int.toNat_natCast]
    have eL : ftL S (zI (r : Int)) = fitL (ftB S r) PL := by show fitL (ftB S (zI (r : Int)).toInt.toNat) PL = _; rw [er]
    rw [er] at q4 f4
    have hl2 : (fitL (ftB S r) PL).length ≤ 256 := fitL_len _ _
    rw [f1, bnd_s, if_pos (by decide), if_pos c, f4.1, eL, er, show (0 : Int32) = zI ((0 : Nat) : Int) from rfl, if_cg (zI_eqn (by omega) (by omega))]
    by_cases g : (fitL (ftB S r) PL).length = 0
    · rw [if_pos g, if_pos g]
      exact (m_meets f2 4 (by omega)).bind f3
    · rw [if_neg g, if_neg g]
      generalize hl' : (fun i => moR (mkF S i) (fitL (ftB S r) PL)) = l
      have hl3 : ∀ i, l i ≤ 256 := fun i => by
        rw [← hl']
        exact Nat.le_trans (moR_ok (mkF S i) (fitL (ftB S r) PL)).le hl2
      unfold lp_Model_look_34
      obtain ⟨m, hm⟩ := FU_eq (n := S.2.2.2.1.1.1 + 1) (by omega)
      rw [hm, show m + (S.2.2.2.1.1.1 + 1) = (m + 1) + S.2.2.2.1.1.1 by omega]
      obtain ⟨K, ⟨k1, k2, k3⟩, e⟩ := itr_go (fun _ _ _ _ _ => none) s_Model_look_34 (fun i (K : Dt) k => k (zI r) (zI (lkz (lkB (unB S r) l i))) (zI (lkw (lkB (unB S r) l i) 0 : Nat)) (zI i) K) S.2.2.2.1.1.1 (fun i (K : Dt) => MRep K S ∧ K 203 = F 203 ∧ FrM D K)
        (fun i hi K z => by
          obtain ⟨z1, z2, z3⟩ := z
          obtain ⟨g1, g2⟩ := z1.1 r (by omega)
          have ngt : ¬ zI (S.2.2.2.1.1.1 : Nat) ≤ zI (i : Int) := by rw [zI_le (by omega) (by omega) (by omega) (by omega)]; omega
          by_cases u : (S.1 r).2 i = -9
          · obtain ⟨L, l1, l2, l3, l4⟩ := m_leftBy z1 ho q3 hi (P := ftB S r) (fun p hp => by rw [z2]; exact f4.2.2.2.2 p hp)
            rw [show moR (mkF S i) (fitL (ftB S r) PL) = l i from by rw [← hl']] at l1
            have hli := hl3 i
            refine ⟨L, ⟨l2, by rw [l4, z2], fun k hk => by rw [l3 k hk, z3 k hk]⟩, fun k => ?_⟩
            unfold s_Model_look_34 b_Model_look_76 b_Model_look_83
            rw [z1.2.2.2.1.1.1, if_neg ngt, m_rowAt (by omega) (by omega), bnd_s, g2 i (by omega), if_pos u, l1, bnd_s, zI_s, lkB_s, if_pos (show unB S r i = true from decide_eq_true u)]
            cases hc : lkB (unB S r) l i with
            | none =>
              rw [if_pos (by rfl)]
              rfl
            | some x =>
              obtain ⟨b, w⟩ := x
              have hbw := lkB_ok hl3 _ b w hc
              rw [show lkw (some (b, w)) 0 = w from rfl, show lkz (some (b, w)) = (b : Int) from rfl, if_neg (by rw [show (-9 : Int32) = zI (-9) from rfl, zI_eq (by omega) (by omega) (by omega) (by omega)]; omega), if_cg (zI_le (by omega) (by omega) (by omega) (by omega))]
              refine (show _ = k (zI r) (zI (lkz (if l i < w then some (i, l i) else some (b, w)))) (zI (lkw (if l i < w then some (i, l i) else some (b, w)) 0 : Nat)) (zI ((i + 1 : Nat) : Int)) L from ?_)
              by_cases t : l i < w
              · rw [if_neg (by omega), if_pos t]; rfl
              · rw [if_pos (by omega), if_neg t]; rfl
          · refine ⟨K, ⟨z1, z2, z3⟩, fun k => ?_⟩
            unfold s_Model_look_34 b_Model_look_83
            rw [z1.2.2.2.1.1.1, if_neg ngt, m_rowAt (by omega) (by omega), bnd_s, g2 i (by omega), if_neg u, zI_s, lkB_s, if_neg (show ¬ unB S r i = true from fun q => u (of_decide_eq_true q))])
        F ⟨f2, rfl, f3⟩
      have e := e (m + 1)
      refine (show MDo (itr (fun _ _ _ _ _ => none) s_Model_look_34 (m + 1 + S.2.2.2.1.1.1) (zI r) (zI (lkz (lkB (unB S r) l 0))) (zI (lkw (lkB (unB S r) l 0) 0 : Nat)) (zI ((0 : Nat) : Int)) F) D _ _ from ?_)
      rw [e, itr_s]
      unfold s_Model_look_34
      rw [k1.2.2.2.1.1.1, if_pos ((zI_le (by omega) (by omega) (by omega) (by omega)).mpr (by omega))]
      cases hc : lkB (unB S r) l S.2.2.2.1.1.1 with
      | none =>
        rw [if_pos (by rfl)]
        exact ⟨K, rfl, k1, k3⟩
      | some x =>
        obtain ⟨b, w⟩ := x
        have hbw := lkB_ok hl3 _ b w hc
        rw [if_neg (by show ¬ zI (b : Int) = -9; rw [show (-9 : Int32) = zI (-9) from rfl, zI_eq (by omega) (by omega) (by omega) (by omega)]; omega)]
        exact (m_tells k1 _ _).bind k3
  · rw [e1, bnd_s, if_neg (rfMk_n c), if_neg c]
    exact ⟨E, rfl, e2, e3⟩
