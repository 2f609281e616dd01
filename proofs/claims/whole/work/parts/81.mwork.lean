/-! work: the model -/
theorem m_workRow {D : Dt} {S : SstT} (h : MRep D S) (ho : Ok S) {r n : Nat} {x : Int32} {f : Nat → Int32} (hr : r < 6) (hn : n ≤ 6) (h50 : D 176 50 = zI (n : Nat)) (h55 : D 176 55 = x) (h209 : ∀ j, j < n → D 209 j = f j) : ∃ D1, lp_Model_work_67 FU (zI r) 0 (wr D 178 r (zI (n : Nat))) = some (x, D1) ∧ MRep D1 (sRow S r (((n : Nat) : Int), f)) ∧ FrM D D1 := by
  unfold lp_Model_work_67
  obtain ⟨m, hm⟩ := FU_eq (n := 61) (by omega)
  rw [hm, show m + 61 = (m + 1) + 60 by omega]
  generalize hF : wr D 178 r (zI (n : Nat)) = F
  have Fk : ∀ k, k ≠ 178 → F k = D k := fun k a => by rw [← hF, wr_ne a]
  obtain ⟨K, ⟨k1, k2, k3⟩, e⟩ := itr_go (fun _ _ _ => none) s_Model_work_67 (fun i (K : Dt) k => k (zI r) (zI i) K) 60 (fun i (K : Dt) => (∀ j, j < i → K 179 (60 * r + j) = if j < n then f j else 0) ∧ (∀ q, (q < 60 * r ∨ 60 * r + 60 ≤ q) → K 179 q = F 179 q) ∧ ∀ k, k ≠ 179 → K k = F k)
    (fun i hi K z => by
      obtain ⟨z1, z2, z3⟩ := z
      refine ⟨wr K 179 (60 * r + i) (if i < n then f i else 0), ⟨fun j hj => ?_, fun q hq => by rw [wr_at, upd_ne (by omega)]; exact z2 q hq, fun k hk => by rw [wr_ne hk]; exact z3 k hk⟩, fun k => ?_⟩
      · rw [wr_at]
        by_cases cj : j = i
        · subst cj; rw [upd_at]
        · rw [upd_ne (by omega)]; exact z1 j (by omega)
      · have hK : K 176 50 = zI (n : Nat) := by rw [z3 176 (by omega), Fk 176 (by omega)]; exact h50
        unfold s_Model_work_67 b_Model_work_105
        rw [if_neg (by rw [show (60 : Int32) = zI 60 from rfl, zI_le (by omega) (by omega) (by omega) (by omega)]; omega), hK, zI_p60, if_pos (inb_t (n := 360) (by omega) (by omega) (by omega)), if_pos (inb_t (n := 360) (by omega) (by omega) (by omega)), nm_s, nm_s, zI_nat (show 60 * r + i < 2147483648 by omega), zI_s, if_cg (zI_le (by omega) (by omega) (by omega) (by omega))]
        by_cases c2 : i < n
        · rw [if_neg (by omega), if_pos c2, if_pos (inb_t (by omega) (by omega) (by omega)), zI_nat (by omega), z3 209 (by omega), Fk 209 (by omega), h209 i c2]
        · rw [if_pos (by omega), if_neg c2])
    F ⟨fun j hj => by omega, fun _ _ => rfl, fun _ _ => rfl⟩
  have e := e (m + 1)
  refine ⟨K, ?_, ?_, fun k hk => by rw [k3 k (by omega), Fk k (by omega)]⟩
  · refine (show itr (fun _ _ _ => none) s_Model_work_67 (m + 1 + 60) (zI r) (zI ((0 : Nat) : Int)) F = _ from e.trans ?_)
    rw [itr_s]
    unfold s_Model_work_67
    rw [if_pos (by decide), k3 176 (by omega), Fk 176 (by omega), h55]
  · refine h.setRow ho.1 (r := r) ⟨by rw [k3 178 (by omega), ← hF, wr_at, upd_at], fun i hi => ?_⟩ (fun q _ hq => by rw [k3 178 (by omega), ← hF, wr_at, upd_ne hq]) (fun q i _ hq hi => by rw [k2 _ (by omega), Fk 179 (by omega)]) (fun k a b _ => by rw [k3 k b, Fk k a]) (fun j _ => by rw [k3 176 (by omega), Fk 176 (by omega)])
    have hi : (i : Int) < ((n : Nat) : Int) := hi
    rw [k1 i (by omega), if_pos (by omega)]
theorem bsF_ne {n : Nat} {tk du : Nat → Int} (hj : JbOk n tk du) : (bsF tk du (99999, []) (dfsL n n [])).1 ≠ 99999 := by
  have go : ∀ (Ls : List (List Nat)) (a : Int × List Nat), a.1 ≤ 864 → Ls.all (lenB n) = true → (bsF tk du a Ls).1 ≤ 864 := by
    intro Ls
    induction Ls with
    | nil => intro a h _; exact h
    | cons L r ih =>
      intro a h ha
      rw [List.all_cons, Bool.and_eq_true] at ha
      have lb := lt_b hj ha.1
      show (bsF tk du (bsS tk du a L) r).1 ≤ 864
      refine ih _ ?_ ha.2
      unfold bsS
      by_cases c : (ltL tk du L).2 < a.1
      · rw [if_pos c]; exact lb.2
      · rw [if_neg c]; exact h
  obtain ⟨r, e⟩ := ords_c hj.1
  have hl := (ords_d n (by have := hj.1; omega)).2.2.2
  rw [e, List.all_cons, Bool.and_eq_true] at hl
  have lb := lt_b hj hl.1
  rw [e]
  have := go r (bsS tk du (99999, []) (List.range n)) (by
    unfold bsS
    rw [if_pos (show (ltL tk du (List.range n)).2 < 99999 by omega)]; exact lb.2) hl.2
  show (bsF tk du (bsS tk du (99999, []) (List.range n)) r).1 ≠ 99999
  omega
theorem q_work {D : Dt} {S : SstT} (h : MRep D S) (ho : Ok S) (v1 v2 v3 : Int32) : MDo (f_Model_work v1 v2 v3 D) D (sp_work v1 v2 v3 S).1 (sp_work v1 v2 v3 S).2 := by
  unfold f_Model_work sp_work
  rw [m_isRow, bnd_s, zo_if, m_isRow, bnd_s, zo_if, m_isRow, bnd_s, zo_if]
  by_cases c1 : wi v1 0 5 = true
  · by_cases c2 : wi v2 0 5 = true
    · by_cases c3 : wi v3 0 5 = true
      · rw [if_pos c1, if_pos c2, if_pos c3, if_pos c3]
        obtain ⟨a, ha, -, rfl⟩ := wi_nat c1 (by omega)
        obtain ⟨b, hb, -, rfl⟩ := wi_nat c2 (by omega)
        obtain ⟨r, hr, -, rfl⟩ := wi_nat c3 (by omega)
        have ea : (zI (a : Int)).toInt.toNat = a := by rw [zI_toInt (by omega) (by omega), Int.toNat_natCast]
        have eb : (zI (b : Int)).toInt.toNat = b := by rw [zI_toInt (by omega) (by omega), Int.toNat_natCast]
        have er : (zI (r : Int)).toInt.toNat = r := by rw [zI_toInt (by omega) (by omega), Int.toNat_natCast]
        obtain ⟨⟨E, e1, e2, e3⟩, n2⟩ := m_needJobs h ho (show a < 6 by omega) (show b < 6 by omega)
        by_cases c : (rfJb (zI (a : Int)) (zI (b : Int)) S).1 = 0
        · obtain ⟨q1, q2, q3, q4, q5, q6, q7, q8⟩ := rfJb_0 c
          rw [ea] at q4 q5 q6 q7
          rw [eb] at q6 q8
          have hj := jb_ok q5 q6 q7 q8
          have hn6 : jN S a ≤ 6 := hj.1
          obtain ⟨F, f1, f2, f3, f4⟩ := n2 c
          rw [f1, bnd_s, if_pos (by decide), if_pos c, nm_s, ea, eb, er]
          generalize hG : wr F 176 55 99999 = G
          have G6 : ∀ j, j ≠ 55 → G 176 j = F 176 j := fun j hj2 => by rw [← hG, wr_at, upd_ne hj2]
          have Gk : ∀ k, k ≠ 176 → G k = F k := fun k hk => by rw [← hG, wr_ne hk]
          have hJG : JbM G (jN S a) (jT S a) (jT S b) := by unfold JbM; rw [G6 50 (by omega), Gk 206 (by omega), Gk 207 (by omega)]; exact f4
          obtain ⟨H, h1, h2, h3⟩ := m_layOrders hj (jN S a) [] 0 (99999, []) G (7 - jN S a) (by show 0 + jN S a = jN S a; omega) (PrM.nil _) hJG ⟨by rw [← hG, wr_at, upd_at]; rfl, by show (0 : Int) ≤ 99999 ∧ (99999 : Int) ≤ 99999; omega, Or.inl rfl⟩ (fun j hj2 => absurd hj2 (Nat.not_lt_zero j))
          rw [show 7 - jN S a + (jN S a + 1) = 8 by omega] at h1
          have h1 : f_Model_layOrders 8 0 0 0 0 G = some ((), H) := h1
          have h2 : BsM H (jN S a) (wkR S a b) := h2
          have hne : (wkR S a b).1 ≠ 99999 := bsF_ne hj
          have hH : MRep H S := m_slot50 f2 (fun j hj2 => by rw [h3.1 j (by omega), G6 j (by omega)]) (fun k p q => by rw [h3.2.1 k p (by omega) (by omega), Gk k p])
          have H50 : H 176 50 = zI (jN S a : Nat) := by rw [h3.1 50 (by omega)]; exact hJG.1
          rcases h2.2.2 with q | ⟨-, w⟩
          · exact absurd q hne
          · obtain ⟨K, k1, k2, k3⟩ := m_workRow hH ho (r := r) (n := jN S a) (by omega) hn6 H50 h2.1 w
            rw [h1, bnd_s, if_pos (inb_t (by omega) (by omega) (by omega)), nm_s, zI_nat (by omega), H50, k1]
            exact ⟨K, rfl, k2, fun k hk => by rw [k3 k hk, h3.2.1 k (by omega) (by omega) (by omega), Gk k (by omega), f3 k hk]⟩
        · rw [e1, bnd_s, if_neg (rfJb_n c), if_neg c]
          exact ⟨E, rfl, e2, e3⟩
      · rw [if_pos c1, if_pos c2, if_neg c3, if_neg c3]
        exact MDo.same h _
    · rw [if_pos c1, if_neg c2]
      have e : rfJb v1 v2 S = (-1, S) := by unfold rfJb; rw [if_neg (fun q => c2 q.2)]
      rw [e, if_neg ng1]
      by_cases c3 : wi v3 0 5 = true
      · rw [if_pos c3]; exact MDo.same h _
      · rw [if_neg c3]; exact MDo.same h _
  · rw [if_neg c1]
    have e : rfJb v1 v2 S = (-1, S) := by unfold rfJb; rw [if_neg (fun q => c1 q.1)]
    rw [e, if_neg ng1]
    by_cases c3 : wi v3 0 5 = true
    · rw [if_pos c3]; exact MDo.same h _
    · rw [if_neg c3]; exact MDo.same h _
