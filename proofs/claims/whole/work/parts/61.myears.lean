/-! years: the model -/
theorem m_years206 {D : Dt} {S : SstT} (h : MRep D S) (ho : Ok S) {f : Nat → Int} (hf : ∀ i, i < 8 → D 210 i = zI (f i)) (hb : ∀ i, 0 ≤ f i ∧ f i ≤ 100) (v5 : Int32) : MDo (lp_Model_years_206 FU v5 (-9) 0 D) D v5 (sTell S (zI (moP f S.2.2.2.1.1.1).1)) := by
  have h8 := ho.2.1.1.1
  unfold lp_Model_years_206
  obtain ⟨m, hm⟩ := FU_eq (n := S.2.2.2.1.1.1 + 1) (by omega)
  rw [hm, show m + (S.2.2.2.1.1.1 + 1) = (m + 1) + S.2.2.2.1.1.1 by omega]
  obtain ⟨U, -, e⟩ := itr_go (fun _ _ _ _ => none) s_Model_years_206 (fun i (U : Unit) k => k v5 (zI (moP f i).1) (zI i) D) S.2.2.2.1.1.1 (fun i U => True)
    (fun i hi U _ => ⟨(), trivial, fun k => by
      have hin : inb (zI (i : Int)) 8 = true := inb_t (by omega) (by omega) (by omega)
      obtain ⟨b1, b3⟩ := moP_b (c := 100) (by omega) hb i
      have b2 := hb i
      have fin : ∀ s0 : Int, s0 = (moP f i).2 → b_Model_years_240 k v5 (zI (moP f i).1) (zI i) (zI s0) (zI (f i)) D = k v5 (zI (moP f (i + 1)).1) (zI ((i + 1 : Nat) : Int)) D := by
        intro s0 hs0
        unfold b_Model_years_240 b_Model_years_250
        rw [hs0, zI_s, if_cg (zI_le (by omega) (by omega) (by omega) (by omega))]
        by_cases c : (moP f i).2 < f i
        · rw [if_neg (by omega), show moP f (i + 1) = ((i : Int), f i) from if_pos c]
        · rw [if_pos (by omega), show moP f (i + 1) = moP f i from if_neg c]
      unfold s_Model_years_206
      rw [h.2.2.2.1.1.1, if_neg (by rw [zI_le (by omega) (by omega) (by omega) (by omega)]; omega), if_pos hin, zI_nat (by omega), hf i (by omega)]
      rcases b3 with ⟨q1, q2⟩ | ⟨q1, q2, q3⟩
      · rw [if_pos (by rw [q1]; rfl), show (0 : Int32) = zI 0 from rfl]
        exact fin 0 q2.symm
      · rw [if_neg (by rw [show (-9 : Int32) = zI (-9) from rfl, zI_eq (by omega) (by omega) (by omega) (by omega)]; omega), if_pos (inb_t (by omega) (by omega) (by omega)), zI_clamp (by omega) (by omega), hf _ (by omega)]
        exact fin _ q3.symm⟩)
    () trivial
  have e := e (m + 1)
  refine (show MDo (itr (fun _ _ _ _ => none) s_Model_years_206 (m + 1 + S.2.2.2.1.1.1) v5 (zI (moP f 0).1) (zI ((0 : Nat) : Int)) D) D _ _ from ?_)
  rw [e, itr_s]
  unfold s_Model_years_206
  rw [h.2.2.2.1.1.1, if_pos ((zI_le (by omega) (by omega) (by omega) (by omega)).mpr (by omega))]
  exact (m_tells h _ _).ret
theorem m_years151 {D : Dt} {n x : Nat} (h10 : D 176 10 = zI n) (hn : n ≤ 8) (hx : x < 256) (h37 : D 176 37 = zI x) {f : Nat → Int} (hf : ∀ i, i < 8 → D 210 i = zI (f i)) :
    ∃ D1, (∀ i, i < n → D1 210 i = zI (f i + (if x.testBit i = true then 1 else 0))) ∧ (∀ i, n ≤ i → D1 210 i = D 210 i) ∧ (∀ k, k ≠ 210 → D1 k = D k) ∧ ∀ k84 v1 v3 v5 v6, lp_Model_years_151 k84 FU v1 v3 v5 v6 0 D = k84 v1 v3 v5 (v6 + 1) D1 := by
  obtain ⟨m, hm⟩ := FU_eq (n := n + 1) (by omega)
  let G : Nat → Dt → Dt := fun i K => wr K 210 i (zI (f i + (if x.testBit i = true then 1 else 0)))
  let Ds : Nat → Dt := fun i => Nat.rec (motive := fun _ => Dt) D (fun i K => G i K) i
  have hD : ∀ i, i ≤ n → (∀ j, j < i → Ds i 210 j = zI (f j + (if x.testBit j = true then 1 else 0))) ∧ (∀ j, i ≤ j → Ds i 210 j = D 210 j) ∧ ∀ k, k ≠ 210 → Ds i k = D k := by
    intro i
    induction i with
    | zero => intro _; exact ⟨fun j hj => by omega, fun _ _ => rfl, fun _ _ => rfl⟩
    | succ i ih =>
      intro hi
      obtain ⟨i1, i2, i3⟩ := ih (by omega)
      show (∀ j, j < i + 1 → wr (Ds i) 210 i (zI (f i + (if x.testBit i = true then 1 else 0))) 210 j = _) ∧ (∀ j, i + 1 ≤ j → wr (Ds i) 210 i (zI (f i + (if x.testBit i = true then 1 else 0))) 210 j = _) ∧ ∀ k, k ≠ 210 → wr (Ds i) 210 i (zI (f i + (if x.testBit i = true then 1 else 0))) k = _
      refine ⟨fun j hj => ?_, fun j hj => by rw [wr_at, upd_ne (by omega)]; exact i2 j (by omega), fun k hk => by rw [wr_ne hk]; exact i3 k hk⟩
      rw [wr_at]
      by_cases c : j = i
      · subst c; rw [upd_at]
      · rw [upd_ne c]; exact i1 j (by omega)
  refine ⟨Ds n, (hD n (Nat.le_refl _)).1, (hD n (Nat.le_refl _)).2.1, (hD n (Nat.le_refl _)).2.2, fun k84 v1 v3 v5 v6 => ?_⟩
  unfold lp_Model_years_151
  rw [hm, show m + (n + 1) = (m + 1) + n by omega]
  obtain ⟨U, -, e⟩ := itr_go (fun _ _ _ _ _ _ => none) (s_Model_years_151 k84) (fun i (U : Unit) k => k v1 v3 v5 v6 (zI i) (Ds i)) n (fun i U => True)
    (fun i hi U _ => ⟨(), trivial, fun k => by
      obtain ⟨i1, i2, i3⟩ := hD i (by omega)
      have hin : inb (zI (i : Int)) 8 = true := inb_t (by omega) (by omega) (by omega)
      unfold s_Model_years_151 b_Model_years_185
      rw [i3 176 (by omega), h10, if_neg (by rw [zI_le (by omega) (by omega) (by omega) (by omega)]; omega), if_pos hin, h37, m_has hx (by omega), bnd_s, zo_if, if_pos hin, if_pos hin, nm_s, nm_s, zI_nat (by omega), i2 i (Nat.le_refl _), hf i (by omega), zI_s, show zI (f i) + 0 = zI (f i + 0) from by rw [show (0 : Int32) = zI 0 from rfl, zI_add], show zI (f i) + 1 = zI (f i + 1) from by rw [show (1 : Int32) = zI 1 from rfl, zI_add]]
      show _ = k v1 v3 v5 v6 (zI ((i + 1 : Nat) : Int)) (wr (Ds i) 210 i (zI (f i + (if x.testBit i = true then 1 else 0))))
      by_cases c : x.testBit i = true
      · rw [if_pos c, if_pos c]
      · rw [if_neg c, if_neg c]⟩)
    () trivial
  refine (e (m + 1)).trans ?_
  rw [itr_s]
  unfold s_Model_years_151
  rw [(hD n (Nat.le_refl _)).2.2 176 (by omega), h10, if_pos ((zI_le (by omega) (by omega) (by omega) (by omega)).mpr (by omega))]
theorem m_years103 {D : Dt} {n : Nat} {W : WatT} (h10 : D 176 10 = zI n) (hn : n ≤ 8) (hP : PRep (D 189) 26 W) (hz : ∀ i, n ≤ i → W.2.1 i = 0) :
    ∃ D1, PRep (D1 189) 26 (emW W) ∧ (∀ q, q < 26 → D1 189 q = D 189 q) ∧ (∀ k, k ≠ 189 → D1 k = D k) ∧ ∀ k84 v1 v3 v5 v6, lp_Model_years_103 k84 FU v1 v3 v5 v6 0 D = bnd (f_Model_runAside ((v3 % 256).toInt32) D1) (fun x7 D8 => lp_Model_years_151 k84 FU v1 v3 (v5 + (D8 176 35)) v6 0 D8) := by
  obtain ⟨m, hm⟩ := FU_eq (n := n + 1) (by omega)
  let Ds : Nat → Dt := fun i => Nat.rec (motive := fun _ => Dt) D (fun i K => wr K 189 (26 * 1 + (8 + i)) 0) i
  have hD : ∀ i, i ≤ n → (∀ j, j < i → Ds i 189 (26 + 8 + j) = 0) ∧ (∀ q, (q < 34 ∨ 34 + i ≤ q) → Ds i 189 q = D 189 q) ∧ ∀ k, k ≠ 189 → Ds i k = D k := by
    intro i
    induction i with
    | zero => intro _; exact ⟨fun j hj => by omega, fun _ _ => rfl, fun _ _ => rfl⟩
    | succ i ih =>
      intro hi
      obtain ⟨i1, i2, i3⟩ := ih (by omega)
      show (∀ j, j < i + 1 → wr (Ds i) 189 (26 * 1 + (8 + i)) 0 189 (26 + 8 + j) = _) ∧ (∀ q, (q < 34 ∨ 34 + (i + 1) ≤ q) → wr (Ds i) 189 (26 * 1 + (8 + i)) 0 189 q = _) ∧ ∀ k, k ≠ 189 → wr (Ds i) 189 (26 * 1 + (8 + i)) 0 k = _
      refine ⟨fun j hj => ?_, fun q hq => by rw [wr_at, upd_ne (by omega)]; exact i2 q (by omega), fun k hk => by rw [wr_ne hk]; exact i3 k hk⟩
      rw [wr_at]
      by_cases c : j = i
      · subst c; rw [show 26 * 1 + (8 + j) = 26 + 8 + j by omega, upd_at]
      · rw [upd_ne (by omega)]; exact i1 j (by omega)
  obtain ⟨d1, d2, d3⟩ := hD n (Nat.le_refl _)
  refine ⟨Ds n, ⟨by rw [d2 _ (by omega)]; exact hP.1, by rw [d2 _ (by omega)]; exact hP.2.1, fun j hj => ⟨by rw [d2 _ (by omega)]; exact (hP.2.2 j hj).1, ?_, by rw [d2 _ (by omega)]; exact (hP.2.2 j hj).2.2⟩⟩, fun q hq => d2 q (by omega), d3, fun k84 v1 v3 v5 v6 => ?_⟩
  · show _ = zI 0
    by_cases c : j < n
    · rw [d1 j c]; rfl
    · rw [d2 _ (by omega), (hP.2.2 j hj).2.1, hz j (by omega)]
  · unfold lp_Model_years_103
    rw [hm, show m + (n + 1) = (m + 1) + n by omega]
    obtain ⟨U, -, e⟩ := itr_go (fun _ _ _ _ _ _ => none) (s_Model_years_103 k84) (fun i (U : Unit) k => k v1 v3 v5 v6 (zI i) (Ds i)) n (fun i U => True)
      (fun i hi U _ => ⟨(), trivial, fun k => by
        obtain ⟨i1, i2, i3⟩ := hD i (by omega)
        have e8 : (8 : Int32) + zI (i : Int) = zI ((8 + i : Nat) : Int) := by rw [show (8 : Int32) = zI 8 from rfl, zI_add]; rfl
        unfold s_Model_years_103
        rw [i3 176 (by omega), h10, if_neg (by rw [zI_le (by omega) (by omega) (by omega) (by omega)]; omega), e8, zI_s, zI_z1, m_place (f := 1) (by omega) (by omega), bnd_s]⟩)
      () trivial
    refine (e (m + 1)).trans ?_
    rw [itr_s]
    unfold s_Model_years_103
    rw [d3 176 (by omega), h10, if_pos ((zI_le (by omega) (by omega) (by omega) (by omega)).mpr (by omega)), if_neg (by decide), show m + 1 + n = FU by omega]
theorem q_years {D : Dt} {S : SstT} (h : MRep D S) (ho : Ok S) (v1 v2 : Int32) : MDo (f_Model_years v1 v2 D) D (sp_years v1 v2 S).1 (sp_years v1 v2 S).2 := by
  have h8 := ho.2.1.1.1
  have hB := ho.2.1.1
  unfold f_Model_years sp_years
  rw [m_in, bnd_s, zo_if, m_in, bnd_s, zo_if, if_cg (m_n0 h ho)]
  simp only [tl]
  by_cases c1 : wi v1 1 40 = true
  · by_cases c2 : wi v2 1 2147483646 = true
    · rw [if_pos c1, if_pos c2, if_pos (And.intro c1 c2)]
      by_cases d : 0 < S.2.2.2.1.1.1
      · rw [if_neg (fun q => q d), if_pos d]
        have hv2 := of_decide_eq_true c2
        have hs : 0 ≤ v2.toInt ∧ v2.toInt < 2147483647 := by omega
        obtain ⟨n, hn, hn1, rfl⟩ := wi_nat c1 (by omega)
        rw [zI_toInt (show -2147483648 ≤ (n : Int) by omega) (show (n : Int) < 2147483648 by omega), Int.toNat_natCast]
        unfold lp_Model_years_35
        obtain ⟨m, hm⟩ := FU_eq (n := 27) (by omega)
        rw [hm, show m + 27 = (m + 1) + 26 by omega]
        obtain ⟨E, ⟨g1, g2, g3⟩, e⟩ := itr_go (fun _ _ _ _ => none) s_Model_years_35 (fun i (E : Dt) k => k (zI n) v2 (zI i) E) 26 (fun i (E : Dt) => (∀ j, j < i → E 189 (26 + j) = 0) ∧ (∀ q, q < 26 → E 189 q = D 189 q) ∧ ∀ k, k ≠ 189 → E k = D k)
          (fun i hi E z => by
            obtain ⟨z1, z2, z3⟩ := z
            refine ⟨wr E 189 (26 * 1 + i) 0, ⟨fun j hj => ?_, fun q hq => by rw [wr_at, upd_ne (by omega)]; exact z2 q hq, fun k hk => by rw [wr_ne hk]; exact z3 k hk⟩, fun k => ?_⟩
            · rw [wr_at]
              by_cases c : j = i
              · subst c; rw [show 26 * 1 + j = 26 + j by omega, upd_at]
              · rw [upd_ne (by omega)]; exact z1 j (by omega)
            · unfold s_Model_years_35
              rw [if_neg (by rw [show (26 : Int32) = zI 26 from rfl, zI_le (by omega) (by omega) (by omega) (by omega)]; omega), zI_s, zI_z1, m_place (f := 1) (by omega) (by omega), bnd_s])
          D ⟨fun j hj => by omega, fun _ _ => rfl, fun _ _ => rfl⟩
        have e := e (m + 1)
        refine (show MDo (itr (fun _ _ _ _ => none) s_Model_years_35 (m + 1 + 26) (zI n) v2 (zI ((0 : Nat) : Int)) D) D _ _ from ?_)
        rw [e, itr_s]
        unfold s_Model_years_35
        rw [if_pos (by decide)]
        have hE : MRep E S := mIds_scr h (fun j hj => g2 j hj) (fun j _ => by rw [g3 176 (by omega)]) (fun k _ hk => g3 k hk)
        have frE : FrM D E := fun k hk => g3 k (by omega)
        have hPE : PRep (E 189) 26 W0 := ⟨by rw [show (26 : Nat) + 24 = 26 + 24 from rfl, g1 24 (by omega)]; rfl, by rw [g1 25 (by omega)]; rfl, fun j hj => ⟨by rw [g1 j (by omega)]; rfl, by rw [show 26 + 8 + j = 26 + (8 + j) by omega, g1 (8 + j) (by omega)]; rfl, by rw [show 26 + 16 + j = 26 + (16 + j) by omega, g1 (16 + j) (by omega)]; rfl⟩⟩
        clear e g1 g2 g3 m hm
        unfold lp_Model_years_56
        obtain ⟨m, hm⟩ := FU_eq (n := 9) (by omega)
        rw [hm, show m + 9 = (m + 1) + 8 by omega]
        obtain ⟨F, ⟨g1, g3⟩, e⟩ := itr_go (fun _ _ _ _ => none) s_Model_years_56 (fun i (F : Dt) k => k (zI n) v2 (zI i) F) 8 (fun i (F : Dt) => (∀ j, j < i → F 210 j = 0) ∧ ∀ k, k ≠ 210 → F k = E k)
          (fun i hi F z => by
            obtain ⟨z1, z3⟩ := z
            refine ⟨wr F 210 i 0, ⟨fun j hj => ?_, fun k hk => by rw [wr_ne hk]; exact z3 k hk⟩, fun k => ?_⟩
            · rw [wr_at]
              by_cases c : j = i
              · subst c; rw [upd_at]
              · rw [upd_ne (by omega)]; exact z1 j (by omega)
            · unfold s_Model_years_56
              rw [if_neg (by rw [show (8 : Int32) = zI 8 from rfl, zI_le (by omega) (by omega) (by omega) (by omega)]; omega), if_pos (inb_t (by omega) (by omega) (by omega)), nm_s, zI_nat (by omega), zI_s])
          E ⟨fun j hj => by omega, fun _ _ => rfl⟩
        have e := e (m + 1)
        refine (show MDo (itr (fun _ _ _ _ => none) s_Model_years_56 (m + 1 + 8) (zI n) v2 (zI ((0 : Nat) : Int)) E) D _ _ from ?_)
        rw [e, itr_s]
        unfold s_Model_years_56
        rw [if_pos (by decide), show v2.toInt64 = zL (lotN v2.toInt 0) from by
          apply Int64.toInt_inj.mp
          rw [i64_i, zL_toInt (by show _ ≤ v2.toInt; omega) (by show v2.toInt < _; omega)]; rfl]
        have hF : MRep F S := hE.congr (fun j _ => by rw [g3 176 (by omega)]) (fun k hk => g3 k (fun q => by subst q; revert hk; decide))
        have frF : FrM D F := fun k hk => by rw [g3 k (by omega), frE k hk]
        have hPF : PRep (F 189) 26 W0 := by rw [g3 189 (by omega)]; exact hPE
        clear e g3 hm m
        unfold lp_Model_years_84
        obtain ⟨m, hm⟩ := FU_eq (n := n + 1) (by omega)
        rw [hm, show m + (n + 1) = (m + 1) + n by omega]
        obtain ⟨K, ⟨k1, k2, k3, k4⟩, e⟩ := itr_go (fun _ _ _ _ _ => none) s_Model_years_84 (fun i (K : Dt) k => k (zI n) (zL (lotN v2.toInt i)) (zI (yrH S.2.2.2.1.1 v2.toInt i)) (zI i) K) n (fun i (K : Dt) => MRep K S ∧ PRep (K 189) 26 (yrW S.2.2.2.1.1 v2.toInt i) ∧ (∀ j, j < 8 → K 210 j = zI (yrC S.2.2.2.1.1 v2.toInt i j)) ∧ FrM D K)
          (fun i hi K z => by
            obtain ⟨z1, z2, z3, z4⟩ := z
            obtain ⟨y1, y2, y3, y4⟩ := yP_z hs i
            have hwy := yrW_ok hB d v2.toInt i
            have hw := emW_ok hB hwy
            obtain ⟨A, a1, a2, a3, a4⟩ := m_years103 z1.2.2.2.1.1.1 h8 z2 (fun j hj => (hwy.2.1 j hj).2.1)
            have hbA : MBed A S.2.2.2.1.1 := z1.2.2.2.1.1.congr (by rw [a3 176 (by omega)]) (by rw [a3 176 (by omega)]) (by rw [a3 176 (by omega)]) (fun k a b => a3 k (by omega))
            obtain ⟨L, l1, l2, l3, l4, l5, l6⟩ := m_runAside hbA hB d hw (by omega) (by omega) y1 a1
            have hL : MRep L S := mIds_scr z1 (fun j hj => by rw [l4 j hj, a2 j hj]) (fun j hj => by rw [l5 j (by have := mSl_ne hj; omega), a3 176 (by omega)]) (fun k hk h189 => by
              simp only [mIds, Bool.or_eq_true, Bool.and_eq_true, decide_eq_true_eq, beq_iff_eq] at hk
              rw [l6 k (by omega) (by omega) (by omega) (by omega) (by omega) (by omega) (by omega), a3 k (by omega)])
            obtain ⟨M, m1, m2, m3, m4⟩ := m_years151 (D := L) (x := tdB S.2.2.2.1.1 (yP v2.toInt i) (emW (yrW S.2.2.2.1.1 v2.toInt i)) 8) (f := yrC S.2.2.2.1.1 v2.toInt i) hL.2.2.2.1.1.1 h8 (tdB_lt h8 _ _ _) l2.2.2.1 (fun j hj => by rw [l6 210 (by omega) (by omega) (by omega) (by omega) (by omega) (by omega) (by omega), a3 210 (by omega)]; exact z3 j hj)
            refine ⟨M, ⟨hL.congr (fun j _ => by rw [m3 176 (by omega)]) (fun k hk => m3 k (fun q => by subst q; revert hk; decide)), by rw [m3 189 (by omega)]; exact l2.1, fun j hj => ?_, fun k hk => by rw [m3 k (by omega), l6 k (by omega) (by omega) (by omega) (by omega) (by omega) (by omega) (by omega), a3 k (by omega), z4 k hk]⟩, fun k => ?_⟩
            · by_cases c : j < S.2.2.2.1.1.1
              · exact m1 j c
              · rw [m2 j (by omega), l6 210 (by omega) (by omega) (by omega) (by omega) (by omega) (by omega) (by omega), a3 210 (by omega), z3 j hj, yrC_out (by omega), yrC_out (by omega)]
            · unfold s_Model_years_84
              rw [if_neg (by rw [zI_le (by omega) (by omega) (by omega) (by omega)]; omega), if_neg (by decide), y3, a4, y4, l1, bnd_s, m4, l2.2.1, zI_add, zI_s]
              rfl)
          F ⟨hF, hPF, fun j hj => by rw [g1 j hj]; rfl, frF⟩
        have e := e (m + 1)
        refine (show MDo (itr (fun _ _ _ _ _ => none) s_Model_years_84 (m + 1 + n) (zI n) (zL (lotN v2.toInt 0)) (zI (yrH S.2.2.2.1.1 v2.toInt 0)) (zI ((0 : Nat) : Int)) F) D _ _ from ?_)
        rw [e, itr_s]
        unfold s_Model_years_84
        rw [if_pos ((zI_le (by omega) (by omega) (by omega) (by omega)).mpr (by omega))]
        obtain ⟨Z, w1, w2, w3⟩ := m_years206 k1 ho k3 (fun i => by have := yrC_b (B := S.2.2.2.1.1) v2.toInt i n; omega) (zI (yrH S.2.2.2.1.1 v2.toInt n))
        exact ⟨Z, w1, w2, fun k hk => by rw [w3 k hk, k4 k hk]⟩
      · rw [if_pos d, if_neg d]
        exact MDo.same h _
    · rw [if_pos c1, if_neg c2, if_neg (fun q => c2 q.2)]
      exact MDo.same h _
  · rw [if_neg c1, if_neg (fun q => c1 q.1)]
    exact MDo.same h _
