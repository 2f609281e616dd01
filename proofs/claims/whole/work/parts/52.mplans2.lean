/-! marks, tuesday: the model -/
theorem q_marks {D : Dt} {S : SstT} (h : MRep D S) (ho : Ok S) (v1 v2 : Int32) : MDo (f_Model_marks v1 v2 D) D (sp_marks v1 v2 S).1 (sp_marks v1 v2 S).2 := by
  have h8 := ho.2.1.1.1
  unfold f_Model_marks sp_marks
  rw [m_isRow, bnd_s]
  by_cases d0 : wi v2 0 5 = true
  · obtain ⟨n1, n2, n3⟩ := m_needTuesday h ho 1 v1
    rw [if_pos d0]
    by_cases c : wi v1 0 255 = true
    · by_cases d : 0 < S.2.2.2.1.1.1
      · obtain ⟨r, hr, -, rfl⟩ := wi_nat d0 (by omega)
        obtain ⟨E, e1, ⟨e2, e3⟩, e4, e5⟩ := n3 (by decide) c d
        rw [e1, bnd_s, if_pos ge0_0, if_pos (And.intro d0 c), if_pos d, if_pos (inb_t (by omega) (by omega) (by omega)), nm_s, zI_nat (by omega), e4.2.2.2.1.1.1, zI_toInt (show -2147483648 ≤ (r : Int) by omega) (show (r : Int) < 2147483648 by omega), Int.toNat_natCast]
        generalize v1.toInt.toNat = p at *
        have htm : ∀ i, i < S.2.2.2.1.1.1 → 0 ≤ tM S p i ∧ tM S p i ≤ 612 := fun i hi => tM_b ho d p (by omega)
        unfold lp_Model_marks_32
        obtain ⟨m, hm⟩ := FU_eq (n := 61) (by omega)
        rw [hm, show m + 61 = (m + 1) + 60 by omega]
        generalize hF : wr E 178 r (zI (S.2.2.2.1.1.1 : Nat)) = F
        have Fk : ∀ k, k ≠ 178 → F k = E k := fun k a => by rw [← hF, wr_ne a]
        obtain ⟨K, ⟨k1, k2, k3⟩, e⟩ := itr_go (fun _ _ _ _ => none) s_Model_marks_32 (fun i (K : Dt) k => k (zI r) (zI (mxN (tM S p) (min i S.2.2.2.1.1.1))) (zI i) K) 60 (fun i (K : Dt) => (∀ j, j < i → K 179 (60 * r + j) = if j < S.2.2.2.1.1.1 then zI (tM S p j) else 0) ∧ (∀ q, (q < 60 * r ∨ 60 * r + 60 ≤ q) → K 179 q = F 179 q) ∧ ∀ k, k ≠ 179 → K k = F k)
          (fun i hi K z => by
            obtain ⟨z1, z2, z3⟩ := z
            have e60 : (60 : Int32) * zI (r : Int) + zI (i : Int) = zI ((60 * r + i : Nat) : Int) := by rw [show (60 : Int32) = zI 60 from rfl, zI_mul, zI_add]; rfl
            refine ⟨wr K 179 (60 * r + i) (if i < S.2.2.2.1.1.1 then zI (tM S p i) else 0), ⟨fun j hj => ?_, fun q hq => by rw [wr_at, upd_ne (by omega)]; exact z2 q hq, fun k hk => by rw [wr_ne hk]; exact z3 k hk⟩, fun k => ?_⟩
            · rw [wr_at]
              by_cases cj : j = i
              · subst cj; rw [upd_at]
              · rw [upd_ne (by omega)]; exact z1 j (by omega)
            · have h10 : K 176 10 = zI (S.2.2.2.1.1.1 : Nat) := by rw [z3 176 (by omega), Fk 176 (by omega)]; exact e4.2.2.2.1.1.1
              unfold s_Model_marks_32 b_Model_marks_70 b_Model_marks_97
              rw [if_neg (by rw [show (60 : Int32) = zI 60 from rfl, zI_le (by omega) (by omega) (by omega) (by omega)]; omega), h10, e60, if_pos (inb_t (n := 360) (by omega) (by omega) (by omega)), if_pos (inb_t (n := 360) (by omega) (by omega) (by omega)), nm_s, nm_s, zI_nat (by omega), wr_ne (show 176 ≠ 179 by omega), wr_ne (show 176 ≠ 179 by omega), h10, zI_s, if_cg (zI_le (by omega) (by omega) (by omega) (by omega))]
              by_cases c2 : i < S.2.2.2.1.1.1
              · have b1 := mxN_ok (c := 612) (by omega) htm i (by omega)
                have b2 := htm i c2
                have hmk : K 202 i = zI (tM S p i) := by rw [z3 202 (by omega), Fk 202 (by omega)]; exact (e2.2.2.2.1 i c2).1
                rw [if_neg (by omega), if_pos c2, if_pos (inb_t (by omega) (by omega) (by omega)), zI_nat (by omega), hmk, if_neg (by rw [zI_le (by omega) (by omega) (by omega) (by omega)]; omega), if_pos (inb_t (by omega) (by omega) (by omega)), wr_ne (show 202 ≠ 179 by omega), hmk, show min i S.2.2.2.1.1.1 = i by omega, show min (i + 1) S.2.2.2.1.1.1 = i + 1 by omega, m_greater (by omega) (by omega) (by omega) (by omega), bnd_s]
                rfl
              · rw [if_pos (by omega), if_neg c2, if_pos (by rw [zI_le (by omega) (by omega) (by omega) (by omega)]; omega), show min i S.2.2.2.1.1.1 = min (i + 1) S.2.2.2.1.1.1 by omega])
          F ⟨fun j hj => by omega, fun _ _ => rfl, fun _ _ => rfl⟩
        have e := e (m + 1)
        refine (show MDo (itr (fun _ _ _ _ => none) s_Model_marks_32 (m + 1 + 60) (zI r) (zI (mxN (tM S p) (min 0 S.2.2.2.1.1.1))) (zI ((0 : Nat) : Int)) F) D _ _ from ?_)
        · rw [e, itr_s]
          unfold s_Model_marks_32
          rw [if_pos (by decide), show min 60 S.2.2.2.1.1.1 = S.2.2.2.1.1.1 by omega]
          refine ⟨K, rfl, ?_, fun k hk => by rw [k3 k (by omega), Fk k (by omega)]; exact e5 k hk⟩
          refine e4.setRow ho.1 (r := r) ⟨by rw [k3 178 (by omega), ← hF, wr_at, upd_at], fun i hi => ?_⟩ (fun q _ hq => by rw [k3 178 (by omega), ← hF, wr_at, upd_ne hq]) (fun q i _ hq hi => by rw [k2 _ (by omega), Fk 179 (by omega)]) (fun k a b _ => by rw [k3 k b, Fk k a]) (fun j _ => by rw [k3 176 (by omega), Fk 176 (by omega)])
          have hi : (i : Int) < ((S.2.2.2.1.1.1 : Nat) : Int) := hi
          rw [k1 i (by omega), if_pos (by omega)]
      · rw [n2 (by decide) c d, bnd_s, if_neg (by decide), if_pos (And.intro d0 c), if_neg d]
        exact MDo.same h _
    · rw [n1 (Or.inr c), bnd_s, if_neg (by decide), if_neg (fun q => c q.2)]
      exact MDo.same h _
  · rw [if_neg d0, (m_needTuesday h ho 0 v1).1 (Or.inl rfl), bnd_s, if_neg (by decide), if_neg (fun q => d0 q.1)]
    exact MDo.same h _
theorem q_tuesday {D : Dt} {S : SstT} (h : MRep D S) (ho : Ok S) (v1 : Int32) : MDo (f_Model_tuesday v1 D) D (sp_tuesday v1 S).1 (sp_tuesday v1 S).2 := by
  obtain ⟨o1, o2, o3, ⟨o4, o5, o6⟩, o7, o8⟩ := ho.2.1
  have h8 := o1.1
  unfold f_Model_tuesday sp_tuesday
  rw [m_isPlan, bnd_s, zo_if, if_cg (m_n0 h ho), h.2.2.2.1.2.2.1, show (8 : Int32) = zI 8 from rfl, show (60 : Int32) = zI 60 from rfl, zI_add, if_cg (zI_le (by omega) (by omega) (by omega) (by omega))]
  by_cases c : wi v1 0 255 = true
  · rw [if_pos c, if_pos c]
    by_cases d : 0 < S.2.2.2.1.1.1
    · rw [if_neg (fun q => q d), if_pos d]
      by_cases g : S.2.2.2.1.2.2.1 + 8 ≤ 60
      · rw [if_pos (by omega), if_pos g]
        obtain ⟨p, hp, -, rfl⟩ := wi_nat c (by omega)
        rw [zI_toInt (show -2147483648 ≤ (p : Int) by omega) (show (p : Int) < 2147483648 by omega), Int.toNat_natCast]
        obtain ⟨E, e1, e2, e3, e4, e5, e6⟩ := m_noTuesday (D := D)
        rw [e1, bnd_s]
        unfold lp_Model_tuesday_40
        obtain ⟨m, hm⟩ := FU_eq (n := 9) (by omega)
        rw [hm, show m + 9 = (m + 1) + 8 by omega]
        obtain ⟨F, ⟨f1, f2, f3, f4⟩, e⟩ := itr_go (fun _ _ _ => none) s_Model_tuesday_40 (fun i (F : Dt) k => k (zI p) (zI i) F) 8 (fun i (F : Dt) => MStr F (strN S.2.2.2.1 p i) ∧ MdT F S.2.2.2.1.1 p S.2.2.2.1.2.1 0 i ∧ (∀ j, (j = 0 ∨ j = 2) → F 176 j = D 176 j) ∧ ∀ k, k ≠ 176 → k ≠ 189 → k ≠ 190 → k ≠ 191 → k ≠ 192 → k ≠ 200 → k ≠ 201 → k ≠ 202 → F k = D k)
          (fun i hi F z => by
            obtain ⟨z1, z2, z3, z4⟩ := z
            obtain ⟨i1, i2, i3⟩ := strN_e S.2.2.2.1 p i
            have ok := strN_ok ho.2.1 d p i (by omega)
            obtain ⟨K, k1, k2, k3, k4, k5, k6⟩ := m_goesBy z1 ok (by rw [i1]; exact d) (by rw [i3]; omega) (bt_01 p i)
            have hbK : MBed K S.2.2.2.1.1 := by
              have := k2.1
              rw [show (hourStr (strN S.2.2.2.1 p i) (bt p i)).1 = S.2.2.2.1.1 from i1] at this
              exact this
            have hpK : PRep (K 189) (26 * 0) (tdW S.2.2.2.1.1 p S.2.2.2.1.2.1 (i + 1)) := by
              have := k2.2.1
              rw [show (hourStr (strN S.2.2.2.1 p i) (bt p i)).2.1 = tdW S.2.2.2.1.1 p S.2.2.2.1.2.1 (i + 1) from (strN_e S.2.2.2.1 p (i + 1)).2.1] at this
              exact this
            rw [i1, i2] at k3
            obtain ⟨L, l1, l2, l3, l4⟩ := m_met (D := F) (E := K) (f := 0) (T := 540) (by omega) hi hbK o1 d (o4.mono (by omega)) (by omega) (by omega) z2 hpK k3 (fun j a b => k5 j a b) (fun k hk => k6 k (by omega) (by omega) (by omega) (by omega) (by omega))
            refine ⟨L, ⟨⟨k2.1.congr (l3 8 (by omega) (by omega)) (l3 9 (by omega) (by omega)) (l3 10 (by omega) (by omega)) (fun k a b => l4 k (by omega) (by omega) (by omega) (by omega)), by rw [l4 189 (by omega) (by omega) (by omega) (by omega)]; exact k2.2.1, by rw [l3 26 (by omega) (by omega)]; exact k2.2.2.1, by rw [l4 192 (by omega) (by omega) (by omega) (by omega)]; exact k2.2.2.2⟩, l2, fun j hj => by rw [l3 j (by omega) (by omega), k5 j (by omega) (by omega), z3 j hj], fun k a b c d e u v w => by rw [l4 k a u v w, k6 k a b c d e, z4 k a b c d e u v w]⟩, fun k => ?_⟩
            unfold s_Model_tuesday_40
            have hbt : (if p.testBit i = true then (1 : Int32) else 0) = zI (bt p i : Nat) := by
              unfold bt
              by_cases c : p.testBit i = true
              · rw [if_pos c, if_pos c]; rfl
              · rw [if_neg c, if_neg c]; rfl
            rw [if_neg (by rw [show (8 : Int32) = zI 8 from rfl, zI_le (by omega) (by omega) (by omega) (by omega)]; omega), m_has (by omega) hi, bnd_s, hbt, k1, bnd_s, show (0 : Int32) = zI ((0 : Nat) : Int) from rfl, l1, bnd_s, zI_s])
          E ⟨⟨h.2.2.2.1.1.congr (e5 8 (by omega) (by omega)) (e5 9 (by omega) (by omega)) (e5 10 (by omega) (by omega)) (fun k a b => e6 k (by omega) (by omega) (by omega)), by rw [e6 189 (by omega) (by omega) (by omega)]; exact h.2.2.2.1.2.1, by rw [e5 26 (by omega) (by omega)]; exact h.2.2.2.1.2.2.1, by rw [e6 192 (by omega) (by omega) (by omega)]; exact h.2.2.2.1.2.2.2⟩, ⟨by rw [e6 189 (by omega) (by omega) (by omega)]; exact h.2.2.2.1.2.1, by rw [e2]; rfl, by rw [e3]; rfl, fun j hj => ⟨by rw [(e4 j (by omega)).2]; rfl, by rw [(e4 j (by omega)).1]; rfl⟩, fun t ht => by omega⟩, fun j hj => e5 j (by omega) (by omega), fun k a b c d e u v w => e6 k a u w⟩
        have e := e (m + 1)
        refine (show MDo (itr (fun _ _ _ => none) s_Model_tuesday_40 (m + 1 + 8) (zI p) (zI ((0 : Nat) : Int)) E) D _ _ from ?_)
        rw [e, itr_s]
        unfold s_Model_tuesday_40
        rw [if_pos (by decide), f2.2.1]
        refine ⟨F, rfl, h.setStr f1 (f3 0 (by omega)) (f3 2 (by omega)) (fun k hk h192 hr => ?_), fun k hk => f4 k (by omega) (by omega) (by omega) (by omega) (by omega) (by omega) (by omega) (by omega)⟩
        simp only [mIds, Bool.or_eq_true, Bool.and_eq_true, decide_eq_true_eq, beq_iff_eq] at hk
        exact f4 k (by omega) (by omega) (by omega) (by omega) (by omega) (by omega) (by omega) (by omega)
      · rw [if_neg (by omega), if_neg g]
        exact MDo.same h _
    · rw [if_pos d, if_neg d]
      exact MDo.same h _
  · rw [if_neg c, if_neg c]
    exact MDo.same h _
