theorem lg_eq0 (x y : Int64) : (lg_cmp x y = 0) ↔ x = y := by
  constructor
  · intro h
    have h1 : ¬ 0 < lg_cmp x y := by rw [h]; decide
    have h2 : lg_cmp x y ≤ 0 := by rw [h]; decide
    rw [lg_gt] at h1
    by_cases c : x.toInt = y.toInt
    · exact Int64.toInt_inj.mp c
    · exfalso
      unfold lg_cmp at h
      have c1 : ¬ y < x := fun q => h1 (Int64.lt_iff_toInt_lt.mp q)
      have c2 : ¬ x = y := fun q => c (by rw [q])
      simp [c1, c2] at h
  · intro h
    subst h
    unfold lg_cmp
    have : ¬ x < x := fun q => by have := Int64.lt_iff_toInt_lt.mp q; omega
    simp [this]
theorem rk_no {K : Nat → Int} {b : Nat} {r : Int} (hb : b < 256) (hK : ∀ p, p < 256 → -100000000000 ≤ K p ∧ K p ≤ 100000000000) (e : r = K b * 256 + b) (h3 : -1000000000000000 ≤ r ∧ r ≤ 1000000000000000) : ¬ lg_cmp (zL r) 1000000000000000 = 0 := by
  have := hK b hb
  rw [lg_eq0, show (1000000000000000 : Int64) = zL 1000000000000000 from rfl]
  intro q
  have := congrArg Int64.toInt q
  rw [zL_toInt (by omega) (by omega), zL_toInt (by omega) (by omega)] at this
  omega
theorem k_least {D : Dt} {S : SstT} (h : CRep D S) (ho : Ok S) (v1 : Int32) : CDo (f_Root_least v1 D) D (sp_least v1 S).1 (sp_least v1 S).2 := by
  unfold f_Root_least sp_least
  rw [c_isWithin, bnd_s, zo_if, c_hasHouses h ho, bnd_s, zo_if]
  simp only [tl]
  by_cases c : wi v1 0 99 = true
  · rw [if_pos c, if_pos c]
    by_cases d : 0 < S.2.2.2.1.1.1
    · rw [if_pos d, if_pos d]
      obtain ⟨E, e1, e2, e3⟩ := c_tdBegin h
      rw [e1, bnd_s]
      unfold lp_Root_least_43
      obtain ⟨m, hm⟩ := FU_eq (n := 257) (by omega)
      rw [hm, show m + 257 = (m + 1) + 256 by omega]
      obtain ⟨F, ⟨f1, f2, f3⟩, e⟩ := itr_go (fun _ _ _ _ => none) s_Root_least_43 (fun i (F : Dt × Int) k => k v1 (zL F.2) (zI i) F.1) 256 (fun i (F : Dt × Int) => TdS F.1 S.2.2.2.1.1 S.2.2.2.1.2.1 ∧ (∀ k, (k < 32 ∨ 99 < k) → F.1 k = D k) ∧ RkI (pLeast S v1) (kLeast S) i F.2)
        (fun i hi F z => by
          obtain ⟨z1, z2, z3⟩ := z
          have hmi := (mir_d i hi).1
          have hs := z3.step hi (kLeast_b ho d)
          obtain ⟨L, l1, l2, l3, l4⟩ := c_leadOn h ho d hmi z1 z2
          have b1 := grd_b ho d (mirH i 8)
          have b2 : 0 ≤ hrm S (mirH i 8) ∧ hrm S (mirH i 8) ≤ 1152 := hrm_b ho d (mirH i 8)
          have b3 := kLeast_b ho d _ hmi
          have b4 := z3.2.2
          have b5 := popc8 hmi
          have hpp : (zI (grdV S (mirH i 8)) < v1) ↔ ¬ pLeast S v1 (mirH i 8) = true := by
            unfold pLeast
            rw [Int32.lt_iff_toInt_lt, zI_toInt (by omega) (by omega), decide_eq_true_eq]; omega
          by_cases g : pLeast S v1 (mirH i 8) = true
          · rw [if_pos g] at hs
            refine ⟨(L, min F.2 (kLeast S (mirH i 8) * 256 + (mirH i 8 : Nat))), ⟨l3, l4, hs⟩, fun k => ?_⟩
            unfold s_Root_least_43 b_Root_least_107
            rw [if_neg (by rw [show (256 : Int32) = zI 256 from rfl, zI_le (by omega) (by omega) (by omega) (by omega)]; omega), c_mirrored hi, bnd_s, l1, bnd_s, c_grindings l2, bnd_s, show sum8 (tdW S.2.2.2.1.1 (mirH i 8) S.2.2.2.1.2.1 8).2.2.1 - sum8 S.2.2.2.1.2.1.2.2.1 = grdV S (mirH i 8) from rfl, if_neg (fun q => hpp.mp q g), c_harmDone l2, bnd_s, c_bitCount hmi, bnd_s, show tdH S.2.2.2.1.1 (mirH i 8) S.2.2.2.1.2.1 8 = hrm S (mirH i 8) from rfl, c_rank (by omega) (by omega) hmi, bnd_s, show (hrm S (mirH i 8) * 100000 + (popc (mirH i 8) : Nat)) = kLeast S (mirH i 8) from rfl, zL_min b4 (by omega), zI_s]
          · rw [if_neg g] at hs
            refine ⟨(L, F.2), ⟨l3, l4, hs⟩, fun k => ?_⟩
            unfold s_Root_least_43 b_Root_least_107
            rw [if_neg (by rw [show (256 : Int32) = zI 256 from rfl, zI_le (by omega) (by omega) (by omega) (by omega)]; omega), c_mirrored hi, bnd_s, l1, bnd_s, c_grindings l2, bnd_s, show sum8 (tdW S.2.2.2.1.1 (mirH i 8) S.2.2.2.1.2.1 8).2.2.1 - sum8 S.2.2.2.1.2.1.2.2.1 = grdV S (mirH i 8) from rfl, if_pos (hpp.mpr g), zI_s])
        (E, 1000000000000000) ⟨e2, e3, rk0 _ _⟩
      have e := e (m + 1)
      refine (show CDo (itr (fun _ _ _ _ => none) s_Root_least_43 (m + 1 + 256) v1 (zL 1000000000000000) (zI ((0 : Nat) : Int)) E) D _ _ from ?_)
      simp only at e
      rw [e, itr_s]
      obtain ⟨g1, g2⟩ := RkI.fin PL_e f3 (kLeast_b ho d)
      unfold s_Root_least_43
      cases hb : bsN (pLeast S v1) (kLeast S) PL with
      | none =>
        rw [if_pos (by decide), if_pos (by rw [lg_eq0, g1 hb]; rfl)]
        exact ⟨F.1, rfl, f1.rep h f2, fun k hk => f2 k (by omega)⟩
      | some b =>
        obtain ⟨b1, b2, b3⟩ := g2 b hb
        obtain ⟨L, l1, l2, l3, l4⟩ := c_leadOn h ho d b1 f1 f2
        rw [if_pos (by decide), if_neg (rk_no b1 (kLeast_b ho d) b3 f3.2.2), c_planOf f3.2.2 b1 _ b3, bnd_s, l1, bnd_s, c_harmDone l2, bnd_s]
        exact (c_tell (l3.rep h l4) _ _).bind (fun k hk => l4 k (by omega))
    · rw [if_neg d, if_neg d]
      exact CDo.same h _
  · rw [if_neg c, if_neg c]
    exact CDo.same h _
theorem k_dry {D : Dt} {S : SstT} (h : CRep D S) (ho : Ok S) : CDo (f_Root_dry D) D (sp_dry S).1 (sp_dry S).2 := by
  unfold f_Root_dry sp_dry
  rw [c_hasHouses h ho, bnd_s, zo_if]
  by_cases d : 0 < S.2.2.2.1.1.1
  · rw [if_pos d, if_pos d]
    obtain ⟨E, e1, e2, e3⟩ := c_tdBegin h
    rw [e1, bnd_s]
    unfold lp_Root_dry_30
    obtain ⟨m, hm⟩ := FU_eq (n := 257) (by omega)
    rw [hm, show m + 257 = (m + 1) + 256 by omega]
    obtain ⟨F, ⟨f1, f2, f3⟩, e⟩ := itr_go (fun _ _ _ => none) s_Root_dry_30 (fun i (F : Dt × Int) k => k (zL F.2) (zI i) F.1) 256 (fun i (F : Dt × Int) => TdS F.1 S.2.2.2.1.1 S.2.2.2.1.2.1 ∧ (∀ k, (k < 32 ∨ 99 < k) → F.1 k = D k) ∧ RkI (pDry S) kDry i F.2)
      (fun i hi F z => by
        obtain ⟨z1, z2, z3⟩ := z
        have hmi := (mir_d i hi).1
        have hs := z3.step hi kDry_b
        obtain ⟨L, l1, l2, l3, l4⟩ := c_leadOn h ho d hmi z1 z2
        have b2 : 0 ≤ hrm S (mirH i 8) ∧ hrm S (mirH i 8) ≤ 1152 := hrm_b ho d (mirH i 8)
        have b3 := kDry_b _ hmi
        have b4 := z3.2.2
        have b5 := popc8 hmi
        have hpp : (zI (hrm S (mirH i 8)) = 0) ↔ pDry S (mirH i 8) = true := by
          unfold pDry
          rw [show (0 : Int32) = zI 0 from rfl, zI_eq (by omega) (by omega) (by omega) (by omega), decide_eq_true_eq]
        by_cases g : pDry S (mirH i 8) = true
        · rw [if_pos g] at hs
          refine ⟨(L, min F.2 (kDry (mirH i 8) * 256 + (mirH i 8 : Nat))), ⟨l3, l4, hs⟩, fun k => ?_⟩
          unfold s_Root_dry_30 b_Root_dry_86
          rw [if_neg (by rw [show (256 : Int32) = zI 256 from rfl, zI_le (by omega) (by omega) (by omega) (by omega)]; omega), c_mirrored hi, bnd_s, l1, bnd_s, c_harmDone l2, bnd_s, show tdH S.2.2.2.1.1 (mirH i 8) S.2.2.2.1.2.1 8 = hrm S (mirH i 8) from rfl, if_pos (hpp.mpr g), c_bitCount hmi, bnd_s, zI_neg, show (0 : Int32) = zI 0 from rfl, c_rank (by omega) (by omega) hmi, bnd_s, show (-(popc (mirH i 8) : Int) * 100000 + 0) = kDry (mirH i 8) from rfl, zL_min b4 (by omega), zI_s]
        · rw [if_neg g] at hs
          refine ⟨(L, F.2), ⟨l3, l4, hs⟩, fun k => ?_⟩
          unfold s_Root_dry_30 b_Root_dry_86
          rw [if_neg (by rw [show (256 : Int32) = zI 256 from rfl, zI_le (by omega) (by omega) (by omega) (by omega)]; omega), c_mirrored hi, bnd_s, l1, bnd_s, c_harmDone l2, bnd_s, show tdH S.2.2.2.1.1 (mirH i 8) S.2.2.2.1.2.1 8 = hrm S (mirH i 8) from rfl, if_neg (fun q => g (hpp.mp q)), zI_s])
      (E, 1000000000000000) ⟨e2, e3, rk0 _ _⟩
    have e := e (m + 1)
    refine (show CDo (itr (fun _ _ _ => none) s_Root_dry_30 (m + 1 + 256) (zL 1000000000000000) (zI ((0 : Nat) : Int)) E) D _ _ from ?_)
    simp only at e
    rw [e, itr_s]
    obtain ⟨g1, g2⟩ := RkI.fin PL_e f3 kDry_b
    unfold s_Root_dry_30
    cases hb : bsN (pDry S) kDry PL with
    | none =>
      rw [if_pos (by decide), if_pos (by rw [lg_eq0, g1 hb]; rfl)]
      exact ⟨F.1, rfl, f1.rep h f2, fun k hk => f2 k (by omega)⟩
    | some b =>
      obtain ⟨b1, b2, b3⟩ := g2 b hb
      rw [if_pos (by decide), if_neg (rk_no b1 kDry_b b3 f3.2.2), c_planOf f3.2.2 b1 _ b3, bnd_s, c_bitCount b1, bnd_s]
      exact (c_tell (f1.rep h f2) _ _).bind (fun k hk => f2 k (by omega))
  · rw [if_neg d, if_neg d]
    exact CDo.same h _
/-! most, least, dry: the model -/
def oZ (o : Option Nat) : Int := match o with
  | none => -9
  | some b => b
theorem bsN_s (P : Nat → Bool) (K : Nat → Int) (i : Nat) : bsN P K (i + 1) = if P i = true ∧ (bsN P K i = none ∨ ∃ b, bsN P K i = some b ∧ K i < K b) then some i else bsN P K i := by
  show (match bsN P K i with
    | none => if P i then some i else none
    | some b => if P i && decide (K i < K b) then some i else some b) = _
  cases hc : bsN P K i with
  | none =>
    by_cases c : P i = true
    · simp [c]
    · simp [c]
  | some b =>
    by_cases c : P i = true
    · by_cases d : K i < K b
      · simp [c, d]
      · simp [c, d]
    · simp [c]
theorem oZ_9 {P : Nat → Bool} {K : Nat → Int} {i : Nat} (hi : i ≤ 256) : (zI (oZ (bsN P K i)) = -9) ↔ bsN P K i = none := by
  cases hc : bsN P K i with
  | none => exact ⟨fun _ => rfl, fun _ => rfl⟩
  | some b =>
    have := ((bsN_spec P K i).2 b hc).1
    show (zI (b : Int) = -9) ↔ _
    rw [show (-9 : Int32) = zI (-9) from rfl, zI_eq (by omega) (by omega) (by omega) (by omega)]
    exact ⟨fun q => by omega, fun q => by cases q⟩
theorem q_dry {D : Dt} {S : SstT} (h : MRep D S) (ho : Ok S) : MDo (f_Model_dry D) D (sp_dry S).1 (sp_dry S).2 := by
  unfold f_Model_dry sp_dry
  rw [if_cg (m_n0 h ho)]
  by_cases d : 0 < S.2.2.2.1.1.1
  · rw [if_neg (fun q => q d), if_pos d]
    unfold lp_Model_dry_15
    obtain ⟨m, hm⟩ := FU_eq (n := 257) (by omega)
    rw [hm, show m + 257 = (m + 1) + 256 by omega]
    obtain ⟨F, ⟨f1, f2⟩, e⟩ := itr_go (fun _ _ _ => none) s_Model_dry_15 (fun i (F : Dt) k => k (zI (oZ (bsN (pDry S) kDry i))) (zI i) F) 256 (fun i (F : Dt) => MRep F S ∧ FrM D F)
      (fun i hi F z => by
        obtain ⟨z1, z2⟩ := z
        obtain ⟨L, l1, l2, l3, l4, -, -⟩ := m_layTuesday z1 ho d (show i < 256 by omega)
        have b2 : 0 ≤ hrm S i ∧ hrm S i ≤ 1152 := hrm_b ho d i
        have h35 : L 176 35 = zI (hrm S i) := l2.1.2.1
        have hpp : (zI (hrm S i) = 0) ↔ pDry S i = true := by
          unfold pDry
          rw [show (0 : Int32) = zI 0 from rfl, zI_eq (by omega) (by omega) (by omega) (by omega), decide_eq_true_eq]
        have lay : ∀ (k : Int32 → Int32 → Dt → Option (Int32 × Dt)) (v : Int32), b_Model_dry_39 k v (zI i) F = if pDry S i = true then k (zI i) (zI ((i + 1 : Nat) : Int)) L else k v (zI ((i + 1 : Nat) : Int)) L := by
          intro k v
          unfold b_Model_dry_39 b_Model_dry_56 b_Model_dry_57
          rw [l1, bnd_s, h35, if_cg hpp, zI_s]
        have frL : FrM D L := fun k hk => by rw [l4 k hk, z2 k hk]
        have i256 : ¬ (256 : Int32) ≤ zI (i : Int) := by rw [show (256 : Int32) = zI 256 from rfl, zI_le (by omega) (by omega) (by omega) (by omega)]; omega
        by_cases c : bsN (pDry S) kDry i = none
        · refine ⟨L, ⟨l3, frL⟩, fun k => ?_⟩
          unfold s_Model_dry_15
          rw [if_neg i256, if_pos ((oZ_9 (by omega)).mpr c), lay, bsN_s, c]
          by_cases g : pDry S i = true
          · rw [if_pos g, if_pos ⟨g, Or.inl rfl⟩]; rfl
          · rw [if_neg g, if_neg (fun q => g q.1)]
        · cases hb : bsN (pDry S) kDry i with
          | none => exact absurd hb c
          | some b =>
            have hbi := ((bsN_spec (pDry S) kDry i).2 b hb).1
            have p1 := popc8 (show i < 256 by omega)
            have p2 := popc8 (show b < 256 by omega)
            by_cases g : popc b < popc i
            · refine ⟨L, ⟨l3, frL⟩, fun k => ?_⟩
              unfold s_Model_dry_15
              rw [if_neg i256, if_neg (by rw [← hb]; exact fun q => c ((oZ_9 (by omega)).mp q)), m_bits (by omega), bnd_s, show oZ (some b) = ((b : Nat) : Int) from rfl, m_bits (by omega), bnd_s, if_neg (by rw [zI_le (by omega) (by omega) (by omega) (by omega)]; omega), lay, bsN_s, hb]
              by_cases g2 : pDry S i = true
              · rw [if_pos g2, if_pos ⟨g2, Or.inr ⟨b, rfl, by unfold kDry; omega⟩⟩]; rfl
              · rw [if_neg g2, if_neg (fun q => g2 q.1)]; rfl
            · refine ⟨F, ⟨z1, z2⟩, fun k => ?_⟩
              unfold s_Model_dry_15 b_Model_dry_57
              rw [if_neg i256, if_neg (by rw [← hb]; exact fun q => c ((oZ_9 (by omega)).mp q)), m_bits (by omega), bnd_s, show oZ (some b) = ((b : Nat) : Int) from rfl, m_bits (by omega), bnd_s, if_pos (by rw [zI_le (by omega) (by omega) (by omega) (by omega)]; omega), zI_s, bsN_s, hb, if_neg (fun q => by
                rcases q.2 with q2 | ⟨b', q2, q3⟩
                · cases q2
                · injection q2 with q2
                  subst q2
                  unfold kDry at q3
                  omega)]
              rfl)
      D ⟨h, fun _ _ => rfl⟩
    have e := e (m + 1)
    refine (show MDo (itr (fun _ _ _ => none) s_Model_dry_15 (m + 1 + 256) (zI (oZ (bsN (pDry S) kDry 0))) (zI ((0 : Nat) : Int)) D) D _ _ from ?_)
    rw [e, itr_s]
    unfold s_Model_dry_15
    rw [if_pos (by decide), if_cg (oZ_9 (Nat.le_refl _)), show bsN (pDry S) kDry 256 = bsN (pDry S) kDry PL from rfl]
    cases hb : bsN (pDry S) kDry PL with
    | none =>
      rw [if_pos rfl]
      exact ⟨F, rfl, f1, f2⟩
    | some b =>
      have hbi := ((bsN_spec (pDry S) kDry PL).2 b hb).1
      rw [PL_e] at hbi
      rw [if_neg (fun q => by cases q), show oZ (some b) = ((b : Nat) : Int) from rfl, m_bits hbi, bnd_s]
      exact (m_tells f1 _ _).bind f2
  · rw [if_pos d, if_neg d]
    exact MDo.same h _
