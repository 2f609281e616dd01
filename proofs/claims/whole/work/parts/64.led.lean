/-! led, sure, look: the class -/
theorem c_refusedMarks {D : Dt} {S : SstT} (h : CRep D S) (ho : Ok S) (v1 : Int32) : CDo (f_Root_refusedMarks v1 D) D (rfMk v1 S).1 (rfMk v1 S).2 := by
  have h8 := ho.2.1.1.1
  unfold f_Root_refusedMarks rfMk
  rw [c_isRow, bnd_s, zo_if, c_hasHouses h ho, bnd_s, zo_if]
  by_cases c : wi v1 0 5 = true
  · rw [if_pos c, if_pos c]
    by_cases d : 0 < S.2.2.2.1.1.1
    · rw [if_pos d, if_pos d]
      obtain ⟨r, hr, -, rfl⟩ := wi_nat c (by omega)
      have hz := ho.1.1 r (by omega)
      unfold rwOk at hz
      obtain ⟨g1, g2⟩ := h.1 r (by omega)
      have hin : inb (zI (r : Int)) 6 = true := inb_t (by omega) (by omega) (by omega)
      rw [zI_toInt (show -2147483648 ≤ (r : Int) by omega) (show (r : Int) < 2147483648 by omega), Int.toNat_natCast, if_pos hin, zI_nat (by omega), c_isThere h ho.1 (by omega), bnd_s, if_pos hin]
      by_cases g : (S.1 r).1 = -1
      · simp only [g, if_true]
        exact (c_find h 1 (by omega)).ret
      · simp only [g, if_false]
        rw [if_neg (by decide), g1, h.2.2.2.1.1.1, if_cg (zI_eq (by omega) (by omega) (by omega) (by omega))]
        by_cases u : (S.1 r).1 = S.2.2.2.1.1.1
        · rw [if_pos u, if_pos u]
          unfold lp_Root_refusedMarks_67
          obtain ⟨m, hm⟩ := FU_eq (n := S.2.2.2.1.1.1 + 1) (by omega)
          rw [hm, show m + (S.2.2.2.1.1.1 + 1) = m + 1 + S.2.2.2.1.1.1 by omega]
          have e := itr_any (fun _ _ _ => none) s_Root_refusedMarks_67 (fun i k => k (zI r) (zI i) D) S.2.2.2.1.1.1 (umB (S.1 r)) (bnd (f_Root_find 3 D) (fun x10 D11 => some (x10, D11))) (some (0, D))
            (fun i hi k => by
              show s_Root_refusedMarks_67 k (zI r) (zI i) D = _
              unfold s_Root_refusedMarks_67 b_Root_refusedMarks_115 umB
              rw [if_pos hin, if_pos hin, zI_nat (by omega), g1, if_neg (by rw [zI_le (by omega) (by omega) (by omega) (by omega)]; omega), if_pos (inb_t (by omega) (by omega) (by omega)), zI_nat (by omega), g2 i (by omega), nm_s, c_isWithin, bnd_s, zo_if, zI_s]
              simp only [tl]
              by_cases a : (S.1 r).2 i = -9
              · simp [a]
              · by_cases b : wi ((S.1 r).2 i) 0 999 = true
                · simp [a, b]
                · simp [a, b])
            (fun k => by
              show s_Root_refusedMarks_67 k (zI r) (zI (S.2.2.2.1.1.1 : Nat)) D = _
              unfold s_Root_refusedMarks_67
              rw [if_pos hin, zI_nat (by omega), g1, if_pos (by rw [zI_le (by omega) (by omega) (by omega) (by omega)]; omega)]) m
          refine (show CDo (itr (fun _ _ _ => none) s_Root_refusedMarks_67 (m + 1 + S.2.2.2.1.1.1) (zI r) (zI ((0 : Nat) : Int)) D) D _ _ from ?_)
          rw [e]
          by_cases a : anyB (umB (S.1 r)) S.2.2.2.1.1.1 = true
          · rw [if_pos a, if_pos a]
            exact (c_find h 3 (by omega)).ret
          · rw [if_neg a, if_neg a]
            exact CDo.same h _
        · rw [if_neg u, if_neg u]
          exact (c_find h 5 (by omega)).ret
    · rw [if_neg d, if_neg d]
      exact CDo.same h _
  · rw [if_neg c, if_neg c]
    exact CDo.same h _
theorem c_isLike {D : Dt} {S : SstT} (h : CRep D S) (ho : Ok S) {r p : Nat} (hr : r < 6) (hz : (S.1 r).1 = S.2.2.2.1.1.1) (ht : TdC D S.2.2.2.1.1 p S.2.2.2.1.2.1 8) : f_Root_isLike (111 + 2 * r) D = some (if ftB S r p = true then 1 else 0, D) := by
  have h8 := ho.2.1.1.1
  obtain ⟨g1, g2⟩ := h.1 r hr
  have t4 := (ht 8 (by omega)).2.2.2
  unfold f_Root_isLike lp_Root_isLike_2
  obtain ⟨m, hm⟩ := FU_eq (n := S.2.2.2.1.1.1 + 1) (by omega)
  rw [hm, show m + (S.2.2.2.1.1.1 + 1) = m + 1 + S.2.2.2.1.1.1 by omega]
  have e := itr_any (fun _ _ => none) (s_Root_isLike_2 (111 + 2 * r)) (fun i k => k (zI i) D) S.2.2.2.1.1.1 (badB S r p) (some (0, D)) (some (1, D))
    (fun i hi k => by
      show s_Root_isLike_2 (111 + 2 * r) k (zI i) D = _
      unfold s_Root_isLike_2 b_Root_isLike_50 badB
      have i60 : inb (zI (i : Int)) 60 = true := inb_t (by omega) (by omega) (by omega)
      have i8 : inb (zI (i : Int)) 8 = true := inb_t (by omega) (by omega) (by omega)
      rw [h.2.2.2.1.1.1, if_neg (by rw [zI_le (by omega) (by omega) (by omega) (by omega)]; omega), if_pos i60, if_pos i60, if_pos (show inb 8 9 = true by decide), if_pos i8, zI_nat (by omega), g2 i (by omega), tc8, Nat.one_mul, t4 i hi, zI_s]
      by_cases a : (S.1 r).2 i = -9
      · simp [a]
      · by_cases b : (S.1 r).2 i = zI (tdM S.2.2.2.1.1 p S.2.2.2.1.2.1 8 i)
        · simp [a, b]
        · simp [a, b])
    (fun k => by
      show s_Root_isLike_2 (111 + 2 * r) k (zI (S.2.2.2.1.1.1 : Nat)) D = _
      unfold s_Root_isLike_2
      rw [h.2.2.2.1.1.1, if_pos (by rw [zI_le (by omega) (by omega) (by omega) (by omega)]; omega)]) m
  refine (show itr (fun _ _ => none) (s_Root_isLike_2 (111 + 2 * r)) (m + 1 + S.2.2.2.1.1.1) (zI ((0 : Nat) : Int)) D = _ from e.trans ?_)
  unfold ftB
  by_cases a : anyB (badB S r p) S.2.2.2.1.1.1 = true
  · simp [a]
  · simp [a]
/-- the plans gathered -/
def FitR (D : Dt) (S : SstT) (L : List Nat) : Prop := D 100 3 = zI (L.length : Nat) ∧ ∀ j, j < L.length → D 101 j = zI (lat L j : Nat) ∧ ∀ i, i < S.2.2.2.1.1.1 → D 102 (8 * j + i) = zI (mkF S i (lat L j))
theorem FitR.congr {D D1 : Dt} {S : SstT} {L : List Nat} (h : FitR D S L) (h1 : D1 100 = D 100) (h2 : D1 101 = D 101) (h3 : D1 102 = D 102) : FitR D1 S L := by
  unfold FitR; rw [h1, h2, h3]; exact h
theorem c_add {D : Dt} {S : SstT} {L : List Nat} {p : Nat} (h8 : S.2.2.2.1.1.1 ≤ 8) (hL : L.length < 256) (hf : FitR D S L) (ht : TdC D S.2.2.2.1.1 p S.2.2.2.1.2.1 8) : ∃ D1, f_Fits_add (zI p) (37 + 8) D = some ((), D1) ∧ FitR D1 S (L ++ [p]) ∧ ∀ k, (k < 100 ∨ 102 < k) → D1 k = D k := by
  obtain ⟨f1, f2⟩ := hf
  have t4 := (ht 8 (by omega)).2.2.2
  unfold f_Fits_add
  have e8 : ∀ x : Nat, zI (x : Int) * 8 = zI ((8 * x : Nat) : Int) := fun x => by rw [show (8 : Int32) = zI 8 from rfl, zI_mul]; congr 1; omega
  have hl45 : ln (37 + 8) = 8 := by decide +kernel
  rw [f1, if_neg (by rw [show (256 : Int32) = zI 256 from rfl, zI_le (by omega) (by omega) (by omega) (by omega)]; omega), if_pos (inb_t (by omega) (by omega) (by omega)), nm_s, wr_ne (show 100 ≠ 101 by omega), f1, e8, zI_nat (by omega), zI_nat (by omega), tc0, tc8, hl45, if_pos ⟨by decide, by rw [zI_ltl (by omega) (by omega)]; omega, by decide, by omega, by omega⟩, nm_s, nm_s, st_ne (show 100 ≠ 102 by omega), wr_ne (show 100 ≠ 101 by omega), f1, zI_s]
  refine ⟨_, rfl, ⟨?_, fun j hj => ⟨?_, fun i hi => ?_⟩⟩, fun k hk => by rw [wr_ne (by omega), st_ne (by omega), wr_ne (by omega)]⟩
  · rw [wr_at, upd_at, List.length_append]; rfl
  · rw [wr_ne (by omega), st_ne (by omega), wr_at]
    rw [List.length_append] at hj
    have hj : j < L.length + 1 := hj
    by_cases c : j = L.length
    · subst c; rw [upd_at, lat_e]
    · rw [upd_ne c, lat_l (by omega)]; exact (f2 j (by omega)).1
  · rw [wr_ne (by omega), st_at, wr_ne (show 102 ≠ 101 by omega), wr_ne (show 37 + 8 ≠ 101 by omega)]
    rw [List.length_append] at hj
    have hj : j < L.length + 1 := hj
    by_cases c : j = L.length
    · subst c; rw [cpy_in _ _ (by omega) (by omega), lat_e, show 0 + (8 * L.length + i - 8 * L.length) = i by omega]; exact t4 i hi
    · rw [cpy_out _ _ (by omega), lat_l (by omega)]; exact (f2 j (by omega)).2 i hi
theorem c_gather {D : Dt} {S : SstT} (h : CRep D S) (ho : Ok S) (hn : 0 < S.2.2.2.1.1.1) {r : Nat} (hr : r < 6) (hz : (S.1 r).1 = S.2.2.2.1.1.1) : ∃ D1, f_Root_gatherFits (111 + 2 * r) D = some ((), D1) ∧ CRep D1 S ∧ FrC D D1 ∧ FitR D1 S (fitC (ftB S r) PL) := by
  have h8 := ho.2.1.1.1
  unfold f_Root_gatherFits
  have h0 : CRep (wr D 100 3 0) S := h.congr (fun k hk => by
    rw [wr_ne]
    simp only [cIds, Bool.or_eq_true, Bool.and_eq_true, decide_eq_true_eq, beq_iff_eq] at hk
    omega)
  obtain ⟨E, e1, e2, e3⟩ := c_tdBegin h0
  rw [nm_s, e1, bnd_s]
  unfold lp_Root_gatherFits_24
  obtain ⟨m, hm⟩ := FU_eq (n := 257) (by omega)
  rw [hm, show m + 257 = (m + 1) + 256 by omega]
  obtain ⟨F, ⟨f1, f2, f3⟩, e⟩ := itr_go (fun _ _ => none) (s_Root_gatherFits_24 (111 + 2 * r)) (fun i (F : Dt) k => k (zI i) F) 256 (fun i (F : Dt) => TdS F S.2.2.2.1.1 S.2.2.2.1.2.1 ∧ (∀ k, (k < 32 ∨ 102 < k) → F k = D k) ∧ FitR F S (fitC (ftB S r) i))
    (fun i hi F z => by
      obtain ⟨z1, z2, z3⟩ := z
      have hmi := (mir_d i hi).1
      have hF : CRep F S := z1.crep h (fun k hk a b c => z2 k (by
        simp only [cIds, Bool.or_eq_true, Bool.and_eq_true, decide_eq_true_eq, beq_iff_eq] at hk
        omega))
      obtain ⟨L, l1, l2, l3, l4⟩ := c_leadOn hF ho hn hmi z1 (fun _ _ => rfl)
      have hL : CRep L S := l3.rep hF l4
      have hlk := c_isLike hL ho hr hz l2
      have hfl : FitR L S (fitC (ftB S r) i) := z3.congr (l4 100 (by omega)) (l4 101 (by omega)) (l4 102 (by omega))
      have hlen := fitC_len (ftB S r) i
      by_cases g : ftB S r (mirH i 8) = true
      · obtain ⟨K, k1, k2, k3⟩ := c_add h8 (show (fitC (ftB S r) i).length < 256 by omega) hfl l2
        refine ⟨K, ⟨⟨l3.1.congr (fun k a b => k3 k (by omega)), by rw [k3 34 (by omega)]; exact l3.2.1, by rw [k3 35 (by omega)]; exact l3.2.2.1, fun i hi => by rw [k3 37 (by omega)]; exact l3.2.2.2.1 i hi, ?_⟩, fun k hk => by rw [k3 k (by omega), l4 k (by omega), z2 k hk], by rw [fitC_s, if_pos g]; exact k2⟩, fun k => ?_⟩
        · rw [k3 32 (by omega)]
          rcases l3.2.2.2.2 with q | ⟨q1, q, q2, q3, q4⟩
          · exact Or.inl q
          · refine Or.inr ⟨q1, q, q2, q3, fun j hj => ?_⟩
            obtain ⟨u1, u2, u3, u4⟩ := q4 j hj
            rw [k3 34 (by omega), k3 35 (by omega), k3 (37 + j) (by omega)]
            exact ⟨u1.congr (fun k a b => k3 k (by omega)), u2, u3, u4⟩
        · unfold s_Root_gatherFits_24 b_Root_gatherFits_77
          rw [if_neg (by rw [show (256 : Int32) = zI 256 from rfl, zI_le (by omega) (by omega) (by omega) (by omega)]; omega), c_mirrored hi, bnd_s, l1, bnd_s, hlk, bnd_s, zo_if, if_pos g, if_pos (by decide), tc8, Nat.one_mul, k1, bnd_s, zI_s]
      · refine ⟨L, ⟨l3, fun k hk => by rw [l4 k (by omega), z2 k hk], by rw [fitC_s, if_neg g, List.append_nil]; exact hfl⟩, fun k => ?_⟩
        unfold s_Root_gatherFits_24 b_Root_gatherFits_77
        rw [if_neg (by rw [show (256 : Int32) = zI 256 from rfl, zI_le (by omega) (by omega) (by omega) (by omega)]; omega), c_mirrored hi, bnd_s, l1, bnd_s, hlk, bnd_s, zo_if, if_neg g, zI_s])
    E ⟨e2, fun k hk => by rw [e3 k (by omega), wr_ne (by omega)], ⟨by rw [e3 100 (by omega), wr_at, upd_at]; rfl, fun j hj => absurd hj (Nat.not_lt_zero j)⟩⟩
  have e := e (m + 1)
  refine (show ∃ D1, itr (fun _ _ => none) (s_Root_gatherFits_24 (111 + 2 * r)) (m + 1 + 256) (zI ((0 : Nat) : Int)) E = some ((), D1) ∧ _ from ?_)
  rw [e, itr_s]
  unfold s_Root_gatherFits_24
  rw [if_pos (by decide)]
  refine ⟨F, rfl, f1.crep h (fun k hk a b c => f2 k ?_), fun k hk => f2 k (by omega), f3⟩
  simp only [cIds, Bool.or_eq_true, Bool.and_eq_true, decide_eq_true_eq, beq_iff_eq] at hk
  omega
theorem c_fold {D : Dt} {S : SstT} {L : List Nat} (hL : L.length ≤ 256) (hf : FitR D S L) : f_Fits_openInAll D = some (anL L, D) ∧ f_Fits_shutInAll D = some (noL L, D) := by
  obtain ⟨f1, f2⟩ := hf
  obtain ⟨m, hm⟩ := FU_eq (n := L.length + 1) (by omega)
  refine ⟨?_, ?_⟩
  · unfold f_Fits_openInAll lp_Fits_openInAll_6
    rw [hm, show m + (L.length + 1) = (m + 1) + L.length by omega]
    obtain ⟨U, -, e⟩ := itr_go (fun _ _ _ => none) s_Fits_openInAll_6 (fun i (U : Unit) k => k (anL (L.take i)) (zI i) D) L.length (fun i U => True)
      (fun i hi U _ => ⟨(), trivial, fun k => by
        unfold s_Fits_openInAll_6
        rw [f1, if_neg (by rw [zI_le (by omega) (by omega) (by omega) (by omega)]; omega), if_pos (inb_t (by omega) (by omega) (by omega)), zI_nat (by omega), (f2 i hi).1, nm_s, take_s hi, anL_s, zI_s]⟩) () trivial
    have e := e (m + 1)
    refine (show itr (fun _ _ _ => none) s_Fits_openInAll_6 (m + 1 + L.length) (anL (L.take 0)) (zI ((0 : Nat) : Int)) D = _ from e.trans ?_)
    rw [itr_s, List.take_length]
    unfold s_Fits_openInAll_6
    rw [f1, if_pos ((zI_le (by omega) (by omega) (by omega) (by omega)).mpr (by omega))]
  · unfold f_Fits_shutInAll lp_Fits_shutInAll_6
    rw [hm, show m + (L.length + 1) = (m + 1) + L.length by omega]
    obtain ⟨U, -, e⟩ := itr_go (fun _ _ _ => none) s_Fits_shutInAll_6 (fun i (U : Unit) k => k (noL (L.take i)) (zI i) D) L.length (fun i U => True)
      (fun i hi U _ => ⟨(), trivial, fun k => by
        unfold s_Fits_shutInAll_6
        rw [f1, if_neg (by rw [zI_le (by omega) (by omega) (by omega) (by omega)]; omega), if_pos (inb_t (by omega) (by omega) (by omega)), zI_nat (by omega), (f2 i hi).1, nm_s, take_s hi, noL_s, zI_s]⟩) () trivial
    have e := e (m + 1)
    refine (show itr (fun _ _ _ => none) s_Fits_shutInAll_6 (m + 1 + L.length) (noL (L.take 0)) (zI ((0 : Nat) : Int)) D = _ from e.trans ?_)
    rw [itr_s, List.take_length]
    unfold s_Fits_shutInAll_6
    rw [f1, if_pos ((zI_le (by omega) (by omega) (by omega) (by omega)).mpr (by omega))]
theorem c_least {D : Dt} {S : SstT} {L : List Nat} (hL : L.length ≤ 256) (hm : ∀ p, p ∈ L → p < 256) (hf : FitR D S L) : ∃ z : Int, f_Fits_leastPlan D = some (zI z, D) ∧ (L = [] → z = -9) ∧ (L ≠ [] → ∃ b : Nat, z = b ∧ b ∈ L ∧ ∀ p, p ∈ L → b ≤ p) := by
  obtain ⟨f1, f2⟩ := hf
  unfold f_Fits_leastPlan
  rw [f1, show (0 : Int32) = zI ((0 : Nat) : Int) from rfl, if_cg (zI_eqn (by omega) (by omega))]
  by_cases c : L.length = 0
  · rw [if_pos c]
    refine ⟨-9, rfl, fun _ => rfl, fun q => absurd (List.length_eq_zero_iff.mp c) q⟩
  · rw [if_neg c, if_pos (by decide), nm_s]
    unfold lp_Fits_leastPlan_19
    obtain ⟨m, hm'⟩ := FU_eq (n := L.length) (by omega)
    rw [hm', show m + L.length = (m + 1) + (L.length - 1) by omega]
    obtain ⟨b, ⟨b1, b2⟩, e⟩ := itr_go (fun _ _ _ => none) s_Fits_leastPlan_19 (fun i (b : Nat) k => k (zI (b : Nat)) (zI ((i + 1 : Nat) : Int)) D) (L.length - 1) (fun i b => b ∈ L ∧ ∀ j, j < i + 1 → b ≤ lat L j)
      (fun i hi b z => by
        obtain ⟨z1, z2⟩ := z
        have hb := hm b z1
        have hq := hm _ (lat_mem (show i + 1 < L.length by omega))
        refine ⟨min b (lat L (i + 1)), ⟨?_, fun j hj => ?_⟩, fun k => ?_⟩
        · by_cases g : b ≤ lat L (i + 1)
          · rw [Nat.min_eq_left g]; exact z1
          · rw [Nat.min_eq_right (by omega)]; exact lat_mem (by omega)
        · by_cases g : j = i + 1
          · subst g; omega
          · have := z2 j (by omega); omega
        · unfold s_Fits_leastPlan_19
          rw [f1, if_neg (by rw [zI_le (by omega) (by omega) (by omega) (by omega)]; omega), if_pos (inb_t (by omega) (by omega) (by omega)), zI_nat (by omega), (f2 (i + 1) (by omega)).1, nm_s, imin_z (by omega) (by omega) (by omega) (by omega), zI_s, show (((min b (lat L (i + 1))) : Nat) : Int) = min (b : Int) (lat L (i + 1) : Nat) by omega])
      (lat L 0) ⟨lat_mem (by omega), fun j hj => by rw [show j = 0 by omega]; exact Nat.le_refl _⟩
    have e := e (m + 1)
    refine ⟨(b : Int), ?_, fun q => absurd (by rw [q]; rfl) c, fun _ => ⟨b, rfl, b1, fun p hp => ?_⟩⟩
    · refine (show itr (fun _ _ _ => none) s_Fits_leastPlan_19 (m + 1 + (L.length - 1)) (D 101 (zI ((0 : Nat) : Int)).toNatClampNeg) (zI ((0 + 1 : Nat) : Int)) D = _ from ?_)
      rw [zI_nat (by omega), (f2 0 (by omega)).1, e, itr_s]
      unfold s_Fits_leastPlan_19
      rw [f1, if_pos ((zI_le (by omega) (by omega) (by omega) (by omega)).mpr (by omega))]
    · obtain ⟨j, hj, rfl⟩ := mem_lat hp
      exact b2 j (by omega)
theorem k_led {D : Dt} {S : SstT} (h : CRep D S) (ho : Ok S) (v1 : Int32) : CDo (f_Root_led v1 D) D (sp_led v1 S).1 (sp_led v1 S).2 := by
  obtain ⟨E, e1, e2, e3⟩ := c_refusedMarks h ho v1
  unfold f_Root_led sp_led
  rw [e1, bnd_s]
  by_cases c : (rfMk v1 S).1 = 0
  · obtain ⟨q1, q2, q3, q4⟩ := rfMk_0 c
    rw [if_pos c, if_pos c]
    have e2x : CRep E S := by rw [q1] at e2; exact e2
    obtain ⟨r, hr, -, rfl⟩ := wi_nat q2 (by omega)
    have er : (zI (r : Int)).toInt.toNat = r := by rw [zI_toInt (by omega) (by omega), Int.toNat_natCast]
    have eL : ftL S (zI (r : Int)) = fitL (ftB S r) PL := by show fitL (ftB S (zI (r : Int)).toInt.toNat) PL = _; rw [er]
    rw [er] at q4
    obtain ⟨F, f1, f2, f3, f4⟩ := c_gather e2x ho q3 (show r < 6 by omega) q4
    have hp := fit_perm (ftB S r) PL_e
    have hl : (fitC (ftB S r) PL).length ≤ 256 := fitC_len _ _
    obtain ⟨z, z1, z2, z3⟩ := c_least hl (fun p hp => (fitC_mem (by rw [PL_e]; omega) hp).1) f4
    rw [if_pos (inb_t (by omega) (by omega) (by omega)), zI_nat (by omega), f1, bnd_s, z1, bnd_s, f4.1, eL]
    have hz : z = hdZ (fitL (ftB S r) PL) := by
      by_cases c0 : fitC (ftB S r) PL = []
      · rw [z2 c0]
        rw [c0] at hp
        rw [hp.symm.eq_nil]; rfl
      · obtain ⟨b, rfl, b1, b2⟩ := z3 c0
        exact (hdZ_least _ _ b (hp.mem_iff.mp b1) (fun p hq => b2 p (hp.mem_iff.mpr hq))).symm
    rw [hp.length_eq, hz]
    exact (c_tell f2 _ _).bind (fun k hk => by rw [f3 k hk, e3 k hk])
  · rw [if_neg c, if_neg c]
    exact ⟨E, rfl, e2, e3⟩
theorem k_sure {D : Dt} {S : SstT} (h : CRep D S) (ho : Ok S) (v1 : Int32) : CDo (f_Root_sure v1 D) D (sp_sure v1 S).1 (sp_sure v1 S).2 := by
  obtain ⟨E, e1, e2, e3⟩ := c_refusedMarks h ho v1
  unfold f_Root_sure sp_sure
  rw [e1, bnd_s]
  by_cases c : (rfMk v1 S).1 = 0
  · obtain ⟨q1, q2, q3, q4⟩ := rfMk_0 c
    rw [if_pos c, if_pos c]
    have e2x : CRep E S := by rw [q1] at e2; exact e2
    obtain ⟨r, hr, -, rfl⟩ := wi_nat q2 (by omega)
    have er : (zI (r : Int)).toInt.toNat = r := by rw [zI_toInt (by omega) (by omega), Int.toNat_natCast]
    have eL : ftL S (zI (r : Int)) = fitL (ftB S r) PL := by show fitL (ftB S (zI (r : Int)).toInt.toNat) PL = _; rw [er]
    rw [er] at q4
    obtain ⟨F, f1, f2, f3, f4⟩ := c_gather e2x ho q3 (show r < 6 by omega) q4
    have hp := fit_perm (ftB S r) PL_e
    have hl : (fitC (ftB S r) PL).length ≤ 256 := fitC_len _ _
    obtain ⟨o1, o2⟩ := c_fold hl f4
    rw [if_pos (inb_t (by omega) (by omega) (by omega)), zI_nat (by omega), f1, bnd_s, f4.1, eL, show (0 : Int32) = zI ((0 : Nat) : Int) from rfl, if_cg (zI_eqn (by omega) (by omega)), o2, bnd_s, o1, bnd_s, anL_perm hp, noL_perm hp, hp.length_eq]
    by_cases g : (fitL (ftB S r) PL).length = 0
    · rw [if_pos g, if_pos g]
      exact (c_find f2 4 (by omega)).bind (fun k hk => by rw [f3 k hk, e3 k hk])
    · rw [if_neg g, if_neg g]
      exact (c_tell f2 _ _).bind (fun k hk => by rw [f3 k hk, e3 k hk])
  · rw [if_neg c, if_neg c]
    exact ⟨E, rfl, e2, e3⟩
