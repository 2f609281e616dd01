def oK (o : Option Nat) (f : Nat → Int) : Int := match o with
  | none => 0
  | some b => f b
theorem q_most {D : Dt} {S : SstT} (h : MRep D S) (ho : Ok S) (v1 : Int32) : MDo (f_Model_most v1 D) D (sp_most v1 S).1 (sp_most v1 S).2 := by
  unfold f_Model_most sp_most
  rw [m_in, bnd_s, zo_if, if_cg (m_n0 h ho)]
  simp only [tl]
  by_cases c0 : wi v1 0 8 = true
  · rw [if_pos c0, if_pos c0]
    by_cases d : 0 < S.2.2.2.1.1.1
    · rw [if_neg (fun q => q d), if_pos d]
      unfold lp_Model_most_33
      obtain ⟨m, hm⟩ := FU_eq (n := 257) (by omega)
      rw [hm, show m + 257 = (m + 1) + 256 by omega]
      obtain ⟨F, ⟨f1, f2⟩, e⟩ := itr_go (fun _ _ _ _ _ _ => none) s_Model_most_33 (fun i (F : Dt) k => k v1 (zI (oZ (bsN (pMost v1) (kMost S) i))) (zI (oK (bsN (pMost v1) (kMost S) i) (grdV S))) (zI (oK (bsN (pMost v1) (kMost S) i) (hrm S))) (zI i) F) 256 (fun i (F : Dt) => MRep F S ∧ FrM D F)
        (fun i hi F z => by
          obtain ⟨z1, z2⟩ := z
          obtain ⟨L, l1, l2, l3, l4, -, -⟩ := m_layTuesday z1 ho d (show i < 256 by omega)
          have b1 := grd_b ho d i
          have b2 : 0 ≤ hrm S i ∧ hrm S i ≤ 1152 := hrm_b ho d i
          have h35 : L 176 35 = zI (hrm S i) := l2.1.2.1
          have h36 : L 176 36 = zI (grdV S i) := l2.2.1
          have hpp : (zI (popc i : Nat) = v1) ↔ pMost v1 i = true := by
            have := popc8 hi
            unfold pMost
            rw [← Int32.toInt_inj, zI_toInt (by omega) (by omega), decide_eq_true_eq]
          have frL : FrM D L := fun k hk => by rw [l4 k hk, z2 k hk]
          have i256 : ¬ (256 : Int32) ≤ zI (i : Int) := by rw [show (256 : Int32) = zI 256 from rfl, zI_le (by omega) (by omega) (by omega) (by omega)]; omega
          by_cases g : pMost v1 i = true
          · refine ⟨L, ⟨l3, frL⟩, fun k => ?_⟩
            unfold s_Model_most_33 b_Model_most_87 b_Model_most_101
            rw [if_neg i256, m_bits hi, bnd_s, if_pos (hpp.mpr g), l1, bnd_s, h35, h36, zI_s, bsN_s]
            cases hb : bsN (pMost v1) (kMost S) i with
            | none =>
              rw [if_pos (by rfl), if_pos ⟨g, Or.inl rfl⟩]; rfl
            | some b =>
              have hbi := ((bsN_spec (pMost v1) (kMost S) i).2 b hb).1
              have c1 := grd_b ho d b
              have c2 : 0 ≤ hrm S b ∧ hrm S b ≤ 1152 := hrm_b ho d b
              have n9 : ¬ zI (oZ (some b)) = -9 := by
                show ¬ zI (b : Int) = -9
                rw [show (-9 : Int32) = zI (-9) from rfl, zI_eq (by omega) (by omega) (by omega) (by omega)]; omega
              have ek : (kMost S i < kMost S b) ↔ (grdV S b < grdV S i ∨ (grdV S i = grdV S b ∧ hrm S i < hrm S b)) := by
                unfold kMost
                generalize grdV S i = a1 at *
                generalize grdV S b = a2 at *
                generalize hrm S i = a3 at *
                generalize hrm S b = a4 at *
                omega
              rw [if_neg n9, show oK (some b) (grdV S) = grdV S b from rfl, show oK (some b) (hrm S) = hrm S b from rfl, if_cg (zI_lt (a := grdV S b) (b := grdV S i) (by omega) (by omega) (by omega) (by omega)), if_cg (zI_eq (a := grdV S i) (b := grdV S b) (by omega) (by omega) (by omega) (by omega)), if_cg (zI_le (a := hrm S b) (b := hrm S i) (by omega) (by omega) (by omega) (by omega))]
              by_cases t : kMost S i < kMost S b
              · have hy : pMost v1 i = true ∧ (some b = none ∨ ∃ b', some b = some b' ∧ kMost S i < kMost S b') := ⟨g, Or.inr ⟨b, rfl, t⟩⟩
                rw [if_pos hy]
                rcases ek.mp t with t | ⟨t1, t2⟩
                · rw [if_pos t]; rfl
                · rw [if_neg (by omega), if_pos t1, if_neg (show ¬ hrm S b ≤ hrm S i from Int.not_le.mpr t2)]; rfl
              · have t' := fun q => t (ek.mpr q)
                have hy : ¬ (pMost v1 i = true ∧ (some b = none ∨ ∃ b', some b = some b' ∧ kMost S i < kMost S b')) := fun q => by
                  rcases q.2 with q2 | ⟨b', q2, q3⟩
                  · cases q2
                  · injection q2 with q2
                    subst q2
                    exact t q3
                rw [if_neg hy, if_neg (fun q => t' (Or.inl q))]
                by_cases u : grdV S i = grdV S b
                · rw [if_pos u, if_pos (show hrm S b ≤ hrm S i from Int.not_lt.mp (fun q => t' (Or.inr ⟨u, q⟩)))]; rfl
                · rw [if_neg u]; rfl
          · refine ⟨F, ⟨z1, z2⟩, fun k => ?_⟩
            unfold s_Model_most_33 b_Model_most_101
            rw [if_neg i256, m_bits hi, bnd_s, if_neg (fun q => g (hpp.mp q)), zI_s, bsN_s, if_neg (fun q => g q.1)])
        D ⟨h, fun _ _ => rfl⟩
      have e := e (m + 1)
      refine (show MDo (itr (fun _ _ _ _ _ _ => none) s_Model_most_33 (m + 1 + 256) v1 (zI (oZ (bsN (pMost v1) (kMost S) 0))) (zI (oK (bsN (pMost v1) (kMost S) 0) (grdV S))) (zI (oK (bsN (pMost v1) (kMost S) 0) (hrm S))) (zI ((0 : Nat) : Int)) D) D _ _ from ?_)
      rw [e, itr_s]
      unfold s_Model_most_33
      obtain ⟨b, hb⟩ := most_some v1 c0 (kMost S)
      rw [if_pos (by decide), show bsN (pMost v1) (kMost S) 256 = bsN (pMost v1) (kMost S) PL from rfl, hb]
      exact (m_tells f1 _ _).bind f2
    · rw [if_pos d, if_neg d]
      exact MDo.same h _
  · rw [if_neg c0, if_neg c0]
    exact MDo.same h _
theorem q_least {D : Dt} {S : SstT} (h : MRep D S) (ho : Ok S) (v1 : Int32) : MDo (f_Model_least v1 D) D (sp_least v1 S).1 (sp_least v1 S).2 := by
  unfold f_Model_least sp_least
  rw [m_in, bnd_s, zo_if, if_cg (m_n0 h ho)]
  simp only [tl]
  by_cases c0 : wi v1 0 99 = true
  · rw [if_pos c0, if_pos c0]
    by_cases d : 0 < S.2.2.2.1.1.1
    · rw [if_neg (fun q => q d), if_pos d]
      unfold lp_Model_least_30
      obtain ⟨m, hm⟩ := FU_eq (n := 257) (by omega)
      rw [hm, show m + 257 = (m + 1) + 256 by omega]
      obtain ⟨F, ⟨f1, f2⟩, e⟩ := itr_go (fun _ _ _ _ _ => none) s_Model_least_30 (fun i (F : Dt) k => k v1 (zI (oZ (bsN (pLeast S v1) (kLeast S) i))) (zI (oK (bsN (pLeast S v1) (kLeast S) i) (hrm S))) (zI i) F) 256 (fun i (F : Dt) => MRep F S ∧ FrM D F)
        (fun i hi F z => by
          obtain ⟨z1, z2⟩ := z
          obtain ⟨L, l1, l2, l3, l4, -, -⟩ := m_layTuesday z1 ho d (show i < 256 by omega)
          have b1 := grd_b ho d i
          have b2 : 0 ≤ hrm S i ∧ hrm S i ≤ 1152 := hrm_b ho d i
          have b3 := popc8 hi
          have h35 : L 176 35 = zI (hrm S i) := l2.1.2.1
          have h36 : L 176 36 = zI (grdV S i) := l2.2.1
          have hpp : (zI (grdV S i) < v1) ↔ ¬ pLeast S v1 i = true := by
            unfold pLeast
            rw [Int32.lt_iff_toInt_lt, zI_toInt (by omega) (by omega), decide_eq_true_eq]; omega
          have frL : FrM D L := fun k hk => by rw [l4 k hk, z2 k hk]
          have i256 : ¬ (256 : Int32) ≤ zI (i : Int) := by rw [show (256 : Int32) = zI 256 from rfl, zI_le (by omega) (by omega) (by omega) (by omega)]; omega
          refine ⟨L, ⟨l3, frL⟩, fun k => ?_⟩
          have yes : ∀ v2 v3 : Int32, b_Model_least_78 k v1 v2 v3 (zI i) L = if pLeast S v1 i = true then k v1 (zI i) (zI (hrm S i)) (zI ((i + 1 : Nat) : Int)) L else k v1 v2 v3 (zI ((i + 1 : Nat) : Int)) L := by
            intro v2 v3
            unfold b_Model_least_78 b_Model_least_83 b_Model_least_106
            rw [h35, h36, zI_s, if_neg (show ¬ (1 : Int32) = 0 by decide)]
            by_cases g : pLeast S v1 i = true
            · rw [if_pos g, if_neg (fun q => hpp.mp q g)]
            · rw [if_neg g, if_pos (hpp.mpr g)]
          have no : ∀ v2 v3 : Int32, b_Model_least_82 k v1 v2 v3 (zI i) L = k v1 v2 v3 (zI ((i + 1 : Nat) : Int)) L := by
            intro v2 v3
            unfold b_Model_least_82 b_Model_least_83 b_Model_least_106
            rw [zI_s, if_pos (show (0 : Int32) = 0 from rfl)]
            by_cases g : L 176 36 < v1
            · rw [if_pos g]
            · rw [if_neg g]
          unfold s_Model_least_30
          rw [if_neg i256, l1, bnd_s, h35, bsN_s]
          cases hb : bsN (pLeast S v1) (kLeast S) i with
          | none =>
            rw [if_pos (by rfl), yes]
            by_cases g : pLeast S v1 i = true
            · rw [if_pos g, if_pos ⟨g, Or.inl rfl⟩]; rfl
            · rw [if_neg g, if_neg (fun q => g q.1)]
          | some b =>
            have hbi := ((bsN_spec (pLeast S v1) (kLeast S) i).2 b hb).1
            have c2 : 0 ≤ hrm S b ∧ hrm S b ≤ 1152 := hrm_b ho d b
            have c3 := popc8 (show b < 256 by omega)
            have n9 : ¬ zI (oZ (some b)) = -9 := by
              show ¬ zI (b : Int) = -9
              rw [show (-9 : Int32) = zI (-9) from rfl, zI_eq (by omega) (by omega) (by omega) (by omega)]; omega
            have ek : (kLeast S i < kLeast S b) ↔ (hrm S i < hrm S b ∨ (hrm S i = hrm S b ∧ popc i < popc b)) := by
              unfold kLeast
              generalize hrm S i = a3 at *
              generalize hrm S b = a4 at *
              omega
            have rhs : ∀ (A : Prop) [Decidable A], (A ↔ kLeast S i < kLeast S b) → (if A then (if pLeast S v1 i = true then k v1 (zI i) (zI (hrm S i)) (zI ((i + 1 : Nat) : Int)) L else k v1 (zI (oZ (some b))) (zI (hrm S b)) (zI ((i + 1 : Nat) : Int)) L) else k v1 (zI (oZ (some b))) (zI (hrm S b)) (zI ((i + 1 : Nat) : Int)) L) = k v1 (zI (oZ (if pLeast S v1 i = true ∧ (some b = none ∨ ∃ b', some b = some b' ∧ kLeast S i < kLeast S b') then some i else some b))) (zI (oK (if pLeast S v1 i = true ∧ (some b = none ∨ ∃ b', some b = some b' ∧ kLeast S i < kLeast S b') then some i else some b) (hrm S))) (zI ((i + 1 : Nat) : Int)) L := by
              intro A _ hA
              by_cases t : kLeast S i < kLeast S b
              · rw [if_pos (hA.mpr t)]
                by_cases g : pLeast S v1 i = true
                · rw [if_pos g, if_pos ⟨g, Or.inr ⟨b, rfl, t⟩⟩]; rfl
                · rw [if_neg g, if_neg (fun q => g q.1)]; rfl
              · rw [if_neg (fun q => t (hA.mp q)), if_neg (fun q => by
                  rcases q.2 with q2 | ⟨b', q2, q3⟩
                  · cases q2
                  · injection q2 with q2
                    subst q2
                    exact t q3)]
                rfl
            rw [← rhs (hrm S i < hrm S b ∨ (hrm S i = hrm S b ∧ popc i < popc b)) ek.symm, if_neg n9, show oK (some b) (hrm S) = hrm S b from rfl, yes, if_cg (zI_lt (a := hrm S i) (b := hrm S b) (by omega) (by omega) (by omega) (by omega)), if_cg (zI_eq (a := hrm S i) (b := hrm S b) (by omega) (by omega) (by omega) (by omega)), m_bits hi, bnd_s, show oZ (some b) = ((b : Nat) : Int) from rfl, m_bits (by omega), bnd_s, no, if_cg (zI_le (a := ((popc b : Nat) : Int)) (b := ((popc i : Nat) : Int)) (by omega) (by omega) (by omega) (by omega))]
            by_cases t1 : hrm S i < hrm S b
            · rw [if_pos t1, if_pos (Or.inl t1)]
            · rw [if_neg t1]
              by_cases t2 : hrm S i = hrm S b
              · rw [if_pos t2]
                by_cases t3 : popc i < popc b
                · rw [if_neg (by omega), if_pos (Or.inr ⟨t2, t3⟩), yes]
                · rw [if_pos (by omega), if_neg (fun q => by rcases q with q | q; exact t1 q; exact t3 q.2)]
              · rw [if_neg t2, if_neg (fun q => by rcases q with q | q; exact t1 q; exact t2 q.1)])
        D ⟨h, fun _ _ => rfl⟩
      have e := e (m + 1)
      refine (show MDo (itr (fun _ _ _ _ _ => none) s_Model_least_30 (m + 1 + 256) v1 (zI (oZ (bsN (pLeast S v1) (kLeast S) 0))) (zI (oK (bsN (pLeast S v1) (kLeast S) 0) (hrm S))) (zI ((0 : Nat) : Int)) D) D _ _ from ?_)
      rw [e, itr_s]
      unfold s_Model_least_30
      rw [if_pos (by decide), if_cg (oZ_9 (Nat.le_refl _)), show bsN (pLeast S v1) (kLeast S) 256 = bsN (pLeast S v1) (kLeast S) PL from rfl]
      cases hb : bsN (pLeast S v1) (kLeast S) PL with
      | none =>
        rw [if_pos rfl]
        exact ⟨F, rfl, f1, f2⟩
      | some b =>
        rw [if_neg (fun q => by cases q)]
        exact (m_tells f1 _ _).bind f2
    · rw [if_pos d, if_neg d]
      exact MDo.same h _
  · rw [if_neg c0, if_neg c0]
    exact MDo.same h _
