/-! the model's Tuesday -/
theorem m_noTuesday {D : Dt} : ∃ D1, f_Model_noTuesday D = some ((), D1) ∧ D1 176 35 = 0 ∧ D1 176 37 = 0 ∧ (∀ i, i < 8 → D1 200 i = -9 ∧ D1 202 i = 0) ∧ (∀ j, j ≠ 35 → j ≠ 37 → D1 176 j = D 176 j) ∧ ∀ k, k ≠ 176 → k ≠ 200 → k ≠ 202 → D1 k = D k := by
  unfold f_Model_noTuesday lp_Model_noTuesday_12
  rw [nm_s, nm_s]
  obtain ⟨m, hm⟩ := FU_eq (n := 9) (by omega)
  rw [hm, show m + 9 = (m + 1) + 8 by omega]
  generalize hE : wr (wr D 176 35 0) 176 37 0 = E
  obtain ⟨F, ⟨f1, f2⟩, e⟩ := itr_go (fun _ _ => none) s_Model_noTuesday_12 (fun i (F : Dt) k => k (zI i) F) 8 (fun i (F : Dt) => (∀ j, j < i → F 200 j = -9 ∧ F 202 j = 0) ∧ ∀ k, k ≠ 200 → k ≠ 202 → F k = E k)
    (fun i hi F g => by
      obtain ⟨g1, g2⟩ := g
      refine ⟨wr (wr F 200 i (-9)) 202 i 0, ⟨fun j hj => ?_, fun k a b => by rw [wr_ne b, wr_ne a, g2 k a b]⟩, fun k => ?_⟩
      · rw [wr_ne (by omega), wr_at, wr_at, wr_ne (by omega)]
        by_cases c : j = i
        · subst c; rw [upd_at, upd_at]; exact ⟨rfl, rfl⟩
        · rw [upd_ne c, upd_ne c]; exact g1 j (by omega)
      · unfold s_Model_noTuesday_12
        rw [if_neg (by rw [show (8 : Int32) = zI 8 from rfl, zI_le (by omega) (by omega) (by omega) (by omega)]; omega), if_pos (inb_t (by omega) (by omega) (by omega)), nm_s, if_pos (inb_t (by omega) (by omega) (by omega)), nm_s, zI_nat (by omega), zI_s])
    E ⟨fun j hj => by omega, fun _ _ _ => rfl⟩
  refine ⟨F, ?_, ?_, ?_, f1, fun j a b => ?_, fun k a b c => by rw [f2 k b c, ← hE, wr_ne a, wr_ne a]⟩
  · refine (e (m + 1)).trans ?_
    rw [itr_s]
    unfold s_Model_noTuesday_12
    rw [if_pos (by decide)]
  · rw [f2 176 (by omega) (by omega), ← hE, wr_at, upd_ne (by omega), wr_at, upd_at]
  · rw [f2 176 (by omega) (by omega), ← hE, wr_at, upd_at]
  · rw [f2 176 (by omega) (by omega), ← hE, wr_at, upd_ne b, wr_at, upd_ne a]
theorem m_groundAll {D : Dt} {f : Nat} {B : BedT} {a : Nat → Int} (hf : f < 2) (hb : D 176 10 = zI B.1) (h8 : B.1 ≤ 8) (ha : ∀ j, j < 8 → D 189 (26 * f + 16 + j) = zI (a j)) (hz : ∀ i, B.1 ≤ i → a i = 0) : f_Model_groundAll (zI f) D = some (zI (sum8 a), D) := by
  unfold f_Model_groundAll lp_Model_groundAll_4
  have e := cnt3 (F := s_Model_groundAll_4) (bot := fun _ _ _ _ => none) (D := D) (a := zI f) a B.1 (by omega) (fun z => some (zI z, D)) 0
    (fun i hi v k => by
      have e16 : (16 : Int32) + zI (i : Int) = zI ((16 + i : Nat) : Int) := by rw [show (16 : Int32) = zI 16 from rfl, zI_add]; rfl
      unfold s_Model_groundAll_4
      rw [hb, if_neg (by rw [zI_le (by omega) (by omega) (by omega) (by omega)]; omega), e16, m_v hf (by omega), bnd_s, show 26 * f + (16 + i) = 26 * f + 16 + i by omega, ha i (by omega), zI_add, zI_s])
    (fun v k => by unfold s_Model_groundAll_4; rw [hb, if_pos ((zI_le (by omega) (by omega) (by omega) (by omega)).mpr (by omega))])
  rw [Int.zero_add, sumN_n hz h8] at e
  exact e
/-- what an hour brought, up to house i -/
def MhR (D E : Dt) (B : BedT) (op h : Nat) (W X : WatT) (hm : Int) (wt : Nat) (mk wn : Nat → Int) (i : Nat) : Prop :=
  E 176 35 = zI (hm + sumN (hmS B op W) i) ∧ E 176 37 = zI (wt ||| snkN B op W i : Nat) ∧ (∀ j, j < B.1 → E 202 j = zI (if j < i then max (mk j) (X.1 j) else mk j) ∧ E 200 j = zI (if j < i ∧ 0 < gotZ B op W j ∧ ¬ wt.testBit j = true then (h : Int) else wn j)) ∧ E 201 h = zI (cutN X i : Nat) ∧
  (∀ j, j ≠ h → E 201 j = D 201 j) ∧ (∀ j, j ≠ 35 → j ≠ 37 → E 176 j = D 176 j) ∧ ∀ k, k ≠ 176 → k ≠ 200 → k ≠ 201 → k ≠ 202 → E k = D k
theorem m_meetsHour {D : Dt} {f op h : Nat} {B : BedT} {W X : WatT} {hm : Int} {wt : Nat} {mk wn : Nat → Int} (hf : f < 2) (hh : h < 8) (hb : MBed D B) (hB : BOk B) (hg9 : ∀ j, 0 ≤ gotZ B op W j ∧ gotZ B op W j ≤ 9) (hX : PRep (D 189) (26 * f) X) (hXb : ∀ i, i < 8 → 0 ≤ X.1 i ∧ X.1 i < 1000000) (hmk : ∀ i, i < 8 → 0 ≤ mk i ∧ mk i < 1000000) (hwt : wt < 256)
    (g1 : ∀ j, j < B.1 → D 191 j = zI (gotZ B op W j)) (g2 : D 176 35 = zI hm) (g3 : D 176 37 = zI wt) (g4 : ∀ j, j < B.1 → D 202 j = zI (mk j) ∧ D 200 j = zI (wn j)) :
    ∃ D1, f_Model_meetsHour (zI f) (zI h) D = some ((), D1) ∧ MhR D D1 B op h W X hm wt mk wn B.1 := by
  have h8 := hB.1
  unfold f_Model_meetsHour lp_Model_meetsHour_9
  rw [if_pos (inb_t (by omega) (by omega) (by omega)), nm_s, zI_nat (by omega)]
  obtain ⟨m, hm'⟩ := FU_eq (n := B.1 + 1) (by omega)
  rw [hm', show m + (B.1 + 1) = (m + 1) + B.1 by omega]
  obtain ⟨F, f1, e⟩ := itr_go (fun _ _ _ _ => none) s_Model_meetsHour_9 (fun i (F : Dt) k => k (zI f) (zI h) (zI i) F) B.1 (fun i (F : Dt) => MhR D F B op h W X hm wt mk wn i)
    (fun i hi F z => by
      obtain ⟨z1, z2, z3, z4, z5, z6, z7⟩ := z
      have hkk := (hB.2.2.2 i hi).1
      have hg := hg9 i
      have hx := hXb i (by omega)
      have hm2 := hmk i (by omega)
      have hsn : snkN B op W i < 256 := orN_lt8 _ (by omega)
      have hor : wt ||| snkN B op W i < 256 := Nat.or_lt_two_pow (n := 8) hwt hsn
      have hct : cutN X i < 256 := orN_lt8 _ (by omega)
      have hp : 2 ^ i < 256 := Nat.pow_lt_pow_right (n := 8) (by omega) (by omega)
      have hin : inb (zI (i : Int)) 8 = true := inb_t (by omega) (by omega) (by omega)
      have hin2 : inb (zI (h : Int)) 8 = true := inb_t (by omega) (by omega) (by omega)
      have tbn : (wt ||| snkN B op W i).testBit i = wt.testBit i := by
        rw [Nat.testBit_or]; unfold snkN; rw [orN_tb]; simp
      -- the part behind the harm
      have tail : ∀ (G : Dt), G 176 35 = zI (hm + sumN (hmS B op W) (i + 1)) → G 176 37 = zI (wt ||| snkN B op W (i + 1) : Nat) → G 202 = F 202 → (∀ j, j < B.1 → G 200 j = zI (if j < i + 1 ∧ 0 < gotZ B op W j ∧ ¬ wt.testBit j = true then (h : Int) else wn j)) → G 201 = F 201 → (∀ j, j ≠ 35 → j ≠ 37 → G 176 j = D 176 j) → (∀ k, k ≠ 176 → k ≠ 200 → k ≠ 201 → k ≠ 202 → G k = D k) →
          ∃ H, MhR D H B op h W X hm wt mk wn (i + 1) ∧ ∀ k, b_Model_meetsHour_96 k (zI f) (zI h) (zI i) G = k (zI f) (zI h) (zI ((i + 1 : Nat) : Int)) H := by
        intro G y1 y2 y3 y4 y5 y6 y7
        refine ⟨wr (wr G 202 i (zI (max (mk i) (X.1 i)))) 201 h (zI (cutN X (i + 1) : Nat)), ⟨by rw [wr_ne (by omega), wr_ne (by omega)]; exact y1, by rw [wr_ne (by omega), wr_ne (by omega)]; exact y2, fun j hj => ⟨?_, by rw [wr_ne (by omega), wr_ne (by omega)]; exact y4 j hj⟩, by rw [wr_at, upd_at], fun j hj => by rw [wr_at, upd_ne hj, wr_ne (by omega), y5]; exact z5 j hj, fun j a b => by rw [wr_ne (by omega), wr_ne (by omega)]; exact y6 j a b, fun k a b c d => by rw [wr_ne c, wr_ne d]; exact y7 k a b c d⟩, fun k => ?_⟩
        · rw [wr_ne (by omega), wr_at]
          by_cases c : j = i
          · subst c; rw [upd_at, if_pos (by omega)]
          · rw [upd_ne c, y3, (z3 j hj).1]
            by_cases c2 : j < i
            · rw [if_pos c2, if_pos (by omega)]
            · rw [if_neg c2, if_neg (by omega)]
        · unfold b_Model_meetsHour_96 b_Model_meetsHour_145
          have hv : ∀ K : Dt, K 189 = D 189 → f_Model_v (zI f) (zI i) K = some (zI (X.1 i), K) := fun K hK => by
            rw [m_v hf (by omega), hK, (hX.2.2 i (by omega)).1]
          rw [if_pos hin, zI_0p, hv G (y7 189 (by omega) (by omega) (by omega) (by omega)), bnd_s, zI_nat (by omega), y3, (z3 i hi).1, if_neg (by omega), m_greater (by omega) (by omega) (by omega) (by omega), bnd_s, if_pos hin, nm_s, if_pos hin2, hv _ (by rw [wr_ne (by omega)]; exact y7 189 (by omega) (by omega) (by omega) (by omega)), bnd_s, zI_nat (by omega), if_pos hin2, if_pos hin2, nm_s, nm_s, wr_ne (show 201 ≠ 202 by omega), y5, z4, shl_d i (by omega), zI_or (by omega) (by omega), show (0 : Int32) = zI ((0 : Nat) : Int) from rfl, zI_or (by omega) (by omega), zI_s]
          by_cases c : 2 ≤ X.1 i
          · rw [if_neg (by rw [show (2 : Int32) = zI 2 from rfl, zI_lt (by omega) (by omega) (by omega) (by omega)]; omega), show cutN X (i + 1) = cutN X i ||| 2 ^ i from by
              show cutN X i ||| (if decide (2 ≤ X.1 i) = true then 2 ^ i else 0) = _
              rw [if_pos (decide_eq_true c)]]
          · rw [if_pos (by rw [show (2 : Int32) = zI 2 from rfl, zI_lt (by omega) (by omega) (by omega) (by omega)]; omega), show cutN X (i + 1) = cutN X i ||| 0 from by
              show cutN X i ||| (if decide (2 ≤ X.1 i) = true then 2 ^ i else 0) = _
              rw [if_neg (by simp only [decide_eq_true_eq]; exact c)]]
      -- with the harm
      have hE35 : ∀ (Q : Int32), wr F 176 35 Q 176 35 = Q := fun Q => by rw [wr_at, upd_at]
      have hsum : hm + sumN (hmS B op W) i + hmS B op W i = hm + sumN (hmS B op W) (i + 1) := by show _ = hm + (sumN (hmS B op W) i + hmS B op W i); omega
      have pre : ∀ (k : Int32 → Int32 → Int32 → Dt → Option (Unit × Dt)) (s0 : Int), s0 * gotZ B op W i = hmS B op W i → b_Model_meetsHour_43 k (zI f) (zI h) (zI i) (zI s0) (F 191 i) (F 176 35) F = if 0 < gotZ B op W i then b_Model_meetsHour_96 k (zI f) (zI h) (zI i) (wr (wr (wr F 176 35 (zI (hm + sumN (hmS B op W) (i + 1)))) 200 i (zI (if i < i + 1 ∧ 0 < gotZ B op W i ∧ ¬ wt.testBit i = true then (h : Int) else wn i))) 176 37 (zI ((wt ||| snkN B op W i : Nat) : Int) ||| zI ((2 ^ i : Nat) : Int))) else b_Model_meetsHour_96 k (zI f) (zI h) (zI i) (wr F 176 35 (zI (hm + sumN (hmS B op W) (i + 1)))) := by
        intro k s0 hs0
        unfold b_Model_meetsHour_43
        rw [nm_s, z7 191 (by omega) (by omega) (by omega) (by omega), g1 i hi, z1, zI_mul, zI_add, Int.mul_comm, hs0]
        rw [hsum, if_pos hin, wr_ne (show 191 ≠ 176 by omega), zI_nat (by omega), z7 191 (by omega) (by omega) (by omega) (by omega), g1 i hi, wr_at, upd_ne (show 37 ≠ 35 by omega), z2, m_has hor (by omega), bnd_s, zo_if, tbn]
        by_cases c : 0 < gotZ B op W i
        · rw [if_neg (by rw [show (0 : Int32) = zI 0 from rfl, zI_le (by omega) (by omega) (by omega) (by omega)]; omega), if_pos c]
          unfold b_Model_meetsHour_83
          rw [if_pos hin, if_pos hin, if_pos hin, nm_s, nm_s, nm_s, nm_s, zI_nat (by omega), shl_d i (by omega)]
          by_cases t : wt.testBit i = true
          · rw [if_pos t, if_neg (fun q => q.2.2 t), wr_ne (show 200 ≠ 176 by omega), (z3 i hi).2, if_neg (by omega), wr_ne (show 176 ≠ 200 by omega), wr_at, upd_ne (show 37 ≠ 35 by omega), z2]
          · rw [if_neg t, if_pos ⟨by omega, c, t⟩, wr_ne (show 176 ≠ 200 by omega), wr_at, upd_ne (show 37 ≠ 35 by omega), z2]
        · rw [if_pos (by rw [show (0 : Int32) = zI 0 from rfl, zI_le (by omega) (by omega) (by omega) (by omega)]; omega), if_neg c]
      have mid : ∃ H, MhR D H B op h W X hm wt mk wn (i + 1) ∧ ∀ (k : Int32 → Int32 → Int32 → Dt → Option (Unit × Dt)) (s0 : Int), s0 * gotZ B op W i = hmS B op W i → b_Model_meetsHour_43 k (zI f) (zI h) (zI i) (zI s0) (F 191 i) (F 176 35) F = k (zI f) (zI h) (zI ((i + 1 : Nat) : Int)) H := by
        by_cases c : 0 < gotZ B op W i
        · have hsn2 : wt ||| snkN B op W (i + 1) = (wt ||| snkN B op W i) ||| 2 ^ i := by
            rw [Nat.or_assoc]
            congr 1
            show snkN B op W i ||| (if decide (0 < gotZ B op W i) = true then 2 ^ i else 0) = _
            rw [if_pos (decide_eq_true c)]
          have key := tail (wr (wr (wr F 176 35 (zI (hm + sumN (hmS B op W) (i + 1)))) 200 i (zI (if i < i + 1 ∧ 0 < gotZ B op W i ∧ ¬ wt.testBit i = true then (h : Int) else wn i))) 176 37 (zI ((wt ||| snkN B op W i : Nat) : Int) ||| zI ((2 ^ i : Nat) : Int)))
            (by rw [wr_at, upd_ne (by omega), wr_ne (by omega), wr_at, upd_at])
            (by rw [wr_at, upd_at, zI_or (by omega) (by omega), hsn2])
            (by rw [wr_ne (by omega), wr_ne (by omega), wr_ne (by omega)])
            (fun j hj => by
              rw [wr_ne (by omega), wr_at, wr_ne (by omega)]
              by_cases cj : j = i
              · subst cj; rw [upd_at]
              · rw [upd_ne cj, (z3 j hj).2]
                by_cases c2 : j < i
                · simp only [c2, show j < i + 1 by omega, true_and]
                · simp only [c2, show ¬ j < i + 1 by omega, false_and])
            (by rw [wr_ne (by omega), wr_ne (by omega), wr_ne (by omega)])
            (fun j a b => by rw [wr_at, upd_ne b, wr_ne (by omega), wr_at, upd_ne a]; exact z6 j a b)
            (fun q a b c2 d => by rw [wr_ne a, wr_ne b, wr_ne a]; exact z7 q a b c2 d)
          obtain ⟨H, r, e⟩ := key
          exact ⟨H, r, fun k s0 hs0 => by rw [pre k s0 hs0, if_pos c]; exact e k⟩
        · have hsn2 : snkN B op W (i + 1) = snkN B op W i := by
            show snkN B op W i ||| (if decide (0 < gotZ B op W i) = true then 2 ^ i else 0) = _
            rw [if_neg (by simp only [decide_eq_true_eq]; exact c), Nat.or_zero]
          have key := tail (wr F 176 35 (zI (hm + sumN (hmS B op W) (i + 1)))) (hE35 _)
            (by rw [wr_at, upd_ne (by omega), hsn2]; exact z2)
            (by rw [wr_ne (by omega)])
            (fun j hj => by
              rw [wr_ne (by omega), (z3 j hj).2]
              by_cases c2 : j < i
              · simp only [c2, show j < i + 1 by omega, true_and]
              · by_cases cj : j = i
                · subst cj; rw [if_neg (fun q => c2 q.1), if_neg (fun q => c q.2.1)]
                · simp only [c2, show ¬ j < i + 1 by omega, false_and])
            (by rw [wr_ne (by omega)])
            (fun j a b => by rw [wr_at, upd_ne a]; exact z6 j a b)
            (fun q a b c2 d => by rw [wr_ne a]; exact z7 q a b c2 d)
          obtain ⟨H, r, e⟩ := key
          exact ⟨H, r, fun k s0 hs0 => by rw [pre k s0 hs0, if_neg c]; exact e k⟩
      obtain ⟨H, r, e⟩ := mid
      refine ⟨H, r, fun k => ?_⟩
      show s_Model_meetsHour_9 k (zI f) (zI h) (zI i) F = k (zI f) (zI h) (zI ((i + 1 : Nat) : Int)) H
      unfold s_Model_meetsHour_9
      rw [z6 10 (by omega) (by omega), hb.1, if_neg (by rw [zI_le (by omega) (by omega) (by omega) (by omega)]; omega), if_pos hin, if_pos hin, zI_nat (by omega), z7 183 (by omega) (by omega) (by omega) (by omega), (hb.2.2.2 i (by omega) hi).1]
      by_cases c : kK B i = 2
      · rw [if_pos (by show zI (kK B i) = 2; rw [c]; rfl)]
        exact e k 2 (by unfold hmS; rw [if_pos c])
      · rw [if_neg (by show ¬ zI (kK B i) = 2; rw [show (2 : Int32) = zI 2 from rfl, zI_eq (by omega) (by omega) (by omega) (by omega)]; exact c)]
        exact e k 1 (by unfold hmS; rw [if_neg c, Int.one_mul]))
    (wr D 201 h 0) ⟨by rw [wr_ne (by omega), g2]; show zI hm = zI (hm + 0); rw [Int.add_zero], by rw [wr_ne (by omega), g3]; show zI (wt : Nat) = zI ((wt ||| 0 : Nat) : Int); rw [Nat.or_zero], fun j hj => ⟨by rw [wr_ne (by omega), if_neg (by omega)]; exact (g4 j hj).1, by rw [wr_ne (by omega), if_neg (by omega)]; exact (g4 j hj).2⟩, by rw [wr_at, upd_at]; rfl, fun j hj => by rw [wr_at, upd_ne hj], fun j _ _ => by rw [wr_ne (by omega)], fun k a b c d => by rw [wr_ne c]⟩
  refine ⟨F, ?_, f1⟩
  refine (e (m + 1)).trans ?_
  rw [itr_s]
  unfold s_Model_meetsHour_9
  rw [f1.2.2.2.2.2.1 10 (by omega) (by omega), hb.1, if_pos ((zI_le (by omega) (by omega) (by omega) (by omega)).mpr (by omega))]
