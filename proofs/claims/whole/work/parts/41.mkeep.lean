/-! the model's keep, on -/
theorem zI_pm (c r i : Nat) : zI (c : Int) * zI r + zI i = zI ((c * r + i : Nat) : Int) := by
  rw [zI_mul, zI_add]; congr 1
theorem MKep.mv {D D1 : Dt} {k : Nat} {x : StrT} (h : MKep D k x) (hh : x.2.2.1 ≤ 60) (h4 : ∀ j, j < 26 → D1 194 (26 * k + j) = D 194 (26 * k + j)) (h3 : D1 193 k = D 193 k) (h7 : D1 197 k = D 197 k) (h5 : ∀ j, j < 8 → D1 195 (8 * k + j) = D 195 (8 * k + j)) (h6 : ∀ j, j < 8 → D1 196 (8 * k + j) = D 196 (8 * k + j)) (h8 : ∀ j, j < 1620 → D1 198 (1620 * k + j) = D 198 (1620 * k + j)) : MKep D1 k x := by
  obtain ⟨g1, g2, g3, g4, g5⟩ := h
  refine ⟨g1.mv h4, by rw [h3]; exact g2, by rw [h7]; exact g3, fun j a b => by rw [h5 j a, h6 j a]; exact g4 j a b, fun t ht => ⟨(g5 t ht).1.mv (fun j hj => ?_), ?_⟩⟩
  · rw [Nat.add_assoc, h8 _ (by omega)]
  · rw [h8 _ (by omega)]; exact (g5 t ht).2
theorem q_keep {D : Dt} {S : SstT} (h : MRep D S) (ho : Ok S) (v1 : Int32) : MDo (f_Model_keep v1 D) D (sp_keep v1 S).1 (sp_keep v1 S).2 := by
  have h6 := ho.2.1.2.2.1
  have hb8 := ho.2.1.1.1
  obtain ⟨hb, hw, hc, hp⟩ := h.2.2.2.1
  unfold f_Model_keep sp_keep
  simp only [m_in, bnd_s, zo_if, tl, m_n0 h ho]
  by_cases c1 : wi v1 0 2 = true
  · by_cases c2 : 0 < S.2.2.2.1.1.1
    · obtain ⟨r, hr, -, rfl⟩ := wi_nat c1 (by omega)
      have hr : r < 3 := by omega
      simp only [c1, c2, if_true, not_true_eq_false, if_false, zI_toInt (show -2147483648 ≤ (r : Int) by omega) (show (r : Int) < 2147483648 by omega), Int.toNat_natCast]
      -- the water
      unfold lp_Model_keep_23
      obtain ⟨m, hm⟩ := FU_eq (n := 27) (by omega)
      obtain ⟨E, ⟨e1, e2, e3⟩, e⟩ := itr_go (fun _ _ _ => none) s_Model_keep_23 (fun i E k => k (zI r) (zI i) E) 26 (fun i (E : Dt) => CpR D E 194 (26 * r) 189 0 26 i)
        (fun i hi E g => by
          refine ⟨wr E 194 (26 * r + i) (D 189 (0 + i)), g.step hi rfl, fun k => ?_⟩
          unfold s_Model_keep_23
          rw [if_neg (by rw [show (26 : Int32) = zI 26 from rfl, zI_le (by omega) (by omega) (by omega) (by omega)]; omega), m_v0 (by omega), bnd_s, zI_p26, if_pos (inb_t (by omega) (by omega) (by omega)), nm_s, zI_nat (by omega), zI_s, g.2.2 189 (by omega), Nat.zero_add])
        D CpR.init
      have e := e (m + 1)
      rw [hm, show m + 27 = (m + 1) + 26 by omega]
      refine (show MDo (itr (fun _ _ _ => none) s_Model_keep_23 (m + 1 + 26) (zI r) (zI ((0 : Nat) : Int)) D) D _ _ from ?_)
      rw [e, itr_s]
      unfold s_Model_keep_23
      rw [if_pos (by decide)]
      -- sills, locks
      unfold lp_Model_keep_54
      obtain ⟨m2, hm2⟩ := FU_eq (n := 9) (by omega)
      obtain ⟨F, ⟨f1, f2, f3, f4⟩, fe⟩ := itr_go (fun _ _ _ => none) s_Model_keep_54 (fun i E k => k (zI r) (zI i) E) 8 (fun i (F : Dt) => (∀ j, j < i → F 195 (8 * r + j) = D 185 j ∧ F 196 (8 * r + j) = D 187 j) ∧ (∀ j, (j < 8 * r ∨ 8 * r + 8 ≤ j) → F 195 j = D 195 j ∧ F 196 j = D 196 j) ∧ F 194 = E 194 ∧ ∀ k, k ≠ 194 → k ≠ 195 → k ≠ 196 → F k = D k)
        (fun i hi F ⟨g1, g2, g3, g4⟩ => by
          refine ⟨wr (wr F 195 (8 * r + i) (D 185 i)) 196 (8 * r + i) (D 187 i), ⟨fun j hj => ?_, fun j hj => ?_, by rw [wr_ne (by omega), wr_ne (by omega)]; exact g3, fun k a b c => by rw [wr_ne c, wr_ne b]; exact g4 k a b c⟩, fun k => ?_⟩
          · simp (disch := omega) only [wr_ne, wr_at]
            by_cases z : j = i
            · subst z; rw [upd_at, upd_at]; exact ⟨rfl, rfl⟩
            · rw [upd_ne (by omega), upd_ne (by omega)]; exact g1 j (by omega)
          · simp (disch := omega) only [wr_ne, wr_at, upd_ne]; exact g2 j hj
          · unfold s_Model_keep_54
            rw [if_neg (by rw [show (8 : Int32) = zI 8 from rfl, zI_le (by omega) (by omega) (by omega) (by omega)]; omega), show (8 : Int32) = zI ((8 : Nat) : Int) from rfl, zI_pm, if_pos (inb_t (by omega) (by omega) (by omega)), if_pos (inb_t (by omega) (by omega) (by omega)), nm_s, if_pos (inb_t (by omega) (by omega) (by omega)), if_pos (inb_t (by omega) (by omega) (by omega)), nm_s, zI_nat (by omega), zI_nat (by omega), zI_s, g4 185 (by omega) (by omega) (by omega), wr_ne (show (187 : Nat) ≠ 195 by omega), g4 187 (by omega) (by omega) (by omega)])
        E ⟨fun j hj => by omega, fun j hj => by rw [e3 195 (by omega), e3 196 (by omega)]; exact ⟨rfl, rfl⟩, rfl, fun k a _ _ => e3 k a⟩
      have fe := fe (m2 + 1)
      rw [hm2, show m2 + 9 = (m2 + 1) + 8 by omega]
      refine (show MDo (itr (fun _ _ _ => none) s_Model_keep_54 (m2 + 1 + 8) (zI r) (zI ((0 : Nat) : Int)) E) D _ _ from ?_)
      rw [fe, itr_s]
      unfold s_Model_keep_54
      rw [if_pos (by decide)]
      -- hours
      have F176 : F 176 = D 176 := f4 176 (by omega) (by omega) (by omega)
      unfold lp_Model_keep_102
      obtain ⟨m3, hm3⟩ := FU_eq (n := 27 * S.2.2.2.1.2.2.1 + 1) (by omega)
      have e27 : (27 : Int32) * zI (S.2.2.2.1.2.2.1 : Int) = zI ((27 * S.2.2.2.1.2.2.1 : Nat) : Int) := by
        rw [show (27 : Int32) = zI 27 from rfl, zI_mul]; congr 1
      obtain ⟨K, ⟨k1, k2, k3⟩, ke⟩ := itr_go (fun _ _ _ => none) s_Model_keep_102 (fun i E k => k (zI r) (zI i) E) (27 * S.2.2.2.1.2.2.1) (fun i (K : Dt) => CpR F K 198 (1620 * r) 192 0 1620 i)
        (fun i hi K g => by
          refine ⟨wr K 198 (1620 * r + i) (F 192 (0 + i)), g.step (by omega) rfl, fun k => ?_⟩
          unfold s_Model_keep_102
          rw [g.2.2 176 (by omega), F176, hc, e27, if_neg (by rw [zI_le (by omega) (by omega) (by omega) (by omega)]; omega), show (1620 : Int32) = zI ((1620 : Nat) : Int) from rfl, zI_pm, if_pos (inb_t (by omega) (by omega) (by omega)), if_pos (inb_t (by omega) (by omega) (by omega)), nm_s, zI_nat (by omega), zI_nat (by omega), zI_s, g.2.2 192 (by omega), Nat.zero_add])
        F CpR.init
      have ke := ke (m3 + 1)
      rw [hm3, show m3 + (27 * S.2.2.2.1.2.2.1 + 1) = (m3 + 1) + 27 * S.2.2.2.1.2.2.1 by omega]
      refine (show MDo (itr (fun _ _ _ => none) s_Model_keep_102 (m3 + 1 + 27 * S.2.2.2.1.2.2.1) (zI r) (zI ((0 : Nat) : Int)) F) D _ _ from ?_)
      rw [ke, itr_s]
      have K176 : K 176 = D 176 := (k3 176 (by omega)).trans F176
      unfold s_Model_keep_102
      rw [K176, hc, e27, if_pos ((zI_le (by omega) (by omega) (by omega) (by omega)).mpr (by omega)), if_pos (inb_t (by omega) (by omega) (by omega)), nm_s, if_pos (inb_t (by omega) (by omega) (by omega)), nm_s, if_pos (inb_t (by omega) (by omega) (by omega)), nm_s, zI_nat (by omega)]
      simp (disch := omega) only [wr_ne, K176, hc]
      have Kk : ∀ k, k ≠ 194 → k ≠ 195 → k ≠ 196 → k ≠ 198 → K k = D k := fun k a b c d => (k3 k d).trans (f4 k a b c)
      have hfl := (hb.fl c2).1
      rw [hfl]
      obtain ⟨g1, g2, g3, g4, g5⟩ := h
      refine ⟨_, rfl, ⟨?_, ?_, ?_, ⟨hb.congr ?_ ?_ ?_ (fun k a b => ?_), ?_, ?_, ?_⟩, fun q hq => ?_⟩, fun k hk => ?_⟩
      · simp (disch := omega) only [wr_ne, Kk]; exact g1
      · simp (disch := omega) only [wr_ne, Kk]; exact g2
      · simp (disch := omega) only [wr_ne, Kk]; exact g3
      · simp (disch := omega) only [wr_ne, Kk]
      · simp (disch := omega) only [wr_ne, Kk]
      · simp (disch := omega) only [wr_ne, Kk]
      · rw [wr_ne (by omega), wr_ne (by omega), wr_ne (by omega), Kk k (by omega) (by omega) (by omega) (by omega)]
      · simp (disch := omega) only [wr_ne, Kk]; exact hw
      · simp (disch := omega) only [wr_ne, Kk]; exact hc
      · simp (disch := omega) only [wr_ne, Kk]; exact hp
      · rw [show (sKep S (fu S.2.2.2.2 r (true, S.2.2.2.1))).2.2.2.2 q = fu S.2.2.2.2 r (true, S.2.2.2.1) q from rfl]
        by_cases z : q = r
        · subst z
          rw [fu_at]
          refine ⟨fun _ => ⟨?_, ?_, ?_, ?_, fun j a b => ⟨?_, ?_⟩, fun t ht => ⟨?_, ?_⟩⟩, (fun y => by cases y), ?_⟩
          · rw [wr_at, upd_at]; rfl
          · rw [wr_ne (by omega), wr_ne (by omega), wr_ne (by omega), k3 194 (by omega), f3]
            exact hw.mv (fun j hj => e1 j hj)
          · rw [wr_ne (by omega), wr_at, upd_at]
          · rw [wr_ne (by omega), wr_ne (by omega), wr_at, upd_at]
          · rw [wr_ne (by omega), wr_ne (by omega), wr_ne (by omega), k3 195 (by omega), (f1 j a).1]; exact (hb.at ho.2.1.1 b).2.2.1
          · rw [wr_ne (by omega), wr_ne (by omega), wr_ne (by omega), k3 196 (by omega), (f1 j a).2]; exact (hb.at ho.2.1.1 b).2.2.2.2
          · have ht : t < S.2.2.2.1.2.2.1 := ht
            rw [wr_ne (by omega), wr_ne (by omega), wr_ne (by omega)]
            refine (hp t ht).1.mv (fun j hj => ?_)
            rw [Nat.add_assoc, k1 _ (by omega), f4 192 (by omega) (by omega) (by omega), Nat.zero_add]
          · have ht : t < S.2.2.2.1.2.2.1 := ht
            rw [wr_ne (by omega), wr_ne (by omega), wr_ne (by omega), k1 _ (by omega), f4 192 (by omega) (by omega) (by omega), Nat.zero_add]
            exact (hp t ht).2
          · rw [wr_at, upd_at]; exact Or.inr rfl
        · rw [fu_ne z, wr_at, upd_ne z, wr_ne (show (199 : Nat) ≠ 193 by omega), wr_ne (show (199 : Nat) ≠ 197 by omega), Kk 199 (by omega) (by omega) (by omega) (by omega), wr_ne (show (193 : Nat) ≠ 199 by omega), wr_at, upd_ne z]
          rw [wr_ne (show (193 : Nat) ≠ 197 by omega), Kk 193 (by omega) (by omega) (by omega) (by omega)]
          refine ⟨fun y => ⟨((g5 q hq).1 y).1, ?_⟩, (g5 q hq).2⟩
          refine ((g5 q hq).1 y).2.mv (ho.2.2 q hq y).1.2.2.1 (fun j hj => ?_) ?_ ?_ (fun j hj => ?_) (fun j hj => ?_) (fun j hj => ?_)
          · rw [wr_ne (by omega), wr_ne (by omega), wr_ne (by omega), k3 194 (by omega), f3, e2 _ (by omega)]
          · rw [wr_ne (by omega), wr_at, upd_ne z, wr_ne (by omega), Kk 193 (by omega) (by omega) (by omega) (by omega)]
          · rw [wr_ne (by omega), wr_ne (by omega), wr_at, upd_ne z, Kk 197 (by omega) (by omega) (by omega) (by omega)]
          · rw [wr_ne (by omega), wr_ne (by omega), wr_ne (by omega), k3 195 (by omega), (f2 _ (by omega)).1]
          · rw [wr_ne (by omega), wr_ne (by omega), wr_ne (by omega), k3 196 (by omega), (f2 _ (by omega)).2]
          · rw [wr_ne (by omega), wr_ne (by omega), wr_ne (by omega), k2 _ (by omega), f4 198 (by omega) (by omega) (by omega)]
      · rw [wr_ne (by omega), wr_ne (by omega), wr_ne (by omega), Kk k (by omega) (by omega) (by omega) (by omega)]
    · simp only [c1, c2, if_true, if_false, not_false_eq_true]
      exact MDo.same h _
  · simp only [c1, if_false, Bool.false_eq_true]
    exact MDo.same h _
theorem m_isThere {D : Dt} {S : SstT} (h : MRep D S) (ho : Ok S) {r : Nat} (hr : r < 3) : f_Model_isThere (zI r) D = some (if (S.2.2.2.2 r).1 = true then 1 else 0, D) := by
  unfold f_Model_isThere
  obtain ⟨g1, g2, g3⟩ := h.2.2.2.2 r hr
  rw [if_pos (inb_t (by omega) (by omega) (by omega)), if_pos (inb_t (by omega) (by omega) (by omega)), zI_nat (by omega)]
  by_cases c : (S.2.2.2.2 r).1 = true
  · have k := (g1 c).2.2.1
    have k6 := (ho.2.2 r hr c).1.2.2.1
    rw [(g1 c).1, if_neg (by decide), k, if_neg (by rw [zI_ltl (by omega) (by omega)]; omega), if_pos c]
  · have c' : (S.2.2.2.2 r).1 = false := by simpa using c
    rw [if_neg c]
    rcases g2 c' with q | q
    · rw [q, if_pos rfl]
    · by_cases z : D 199 r = 0
      · rw [if_pos z]
      · rw [if_neg z, q, if_pos (by decide)]
theorem q_on {D : Dt} {S : SstT} (h : MRep D S) (ho : Ok S) (v1 : Int32) : MDo (f_Model_on v1 D) D (sp_on v1 S).1 (sp_on v1 S).2 := by
  unfold f_Model_on sp_on
  simp only [m_in, bnd_s, zo_if, tl]
  by_cases c1 : wi v1 0 2 = true
  · obtain ⟨r, hr, -, rfl⟩ := wi_nat c1 (by omega)
    have hr : r < 3 := by omega
    simp only [c1, if_true, m_isThere h ho hr, bnd_s, zo_if, zI_toInt (show -2147483648 ≤ (r : Int) by omega) (show (r : Int) < 2147483648 by omega), Int.toNat_natCast, inb_t (show (0 : Int) ≤ (r : Int) by omega) (show (r : Int) < (3 : Nat) by omega) (by omega), zI_nat (show r < 2147483648 by omega), nm_s]
    by_cases c2 : (S.2.2.2.2 r).1 = true
    · rw [if_pos c2, if_pos c2]
      obtain ⟨-, kw, kh, kf, ks, kp⟩ := (h.2.2.2.2 r hr).1 c2
      obtain ⟨ok, sb, hn⟩ := ho.2.2 r hr c2
      obtain ⟨hb, hw, hc, hp⟩ := h.2.2.2.1
      obtain ⟨s1, s2, s3, s4, s5⟩ := sb
      generalize hX : (S.2.2.2.2 r).2 = x at *
      have k6 := ok.2.2.1
      have h8 := ok.1.1
      generalize hG : wr (wr D 176 26 (D 193 r)) 176 8 (wr D 176 26 (D 193 r) 197 r) = G
      have G176 : ∀ j, j ≠ 8 → j ≠ 26 → G 176 j = D 176 j := fun j a b => by rw [← hG, wr_at, upd_ne a, wr_at, upd_ne b]
      have G8 : G 176 8 = zI x.1.2.1 := by rw [← hG, wr_at, upd_at, wr_ne (by omega)]; exact kf
      have G26 : G 176 26 = zI x.2.2.1 := by rw [← hG, wr_at, upd_ne (by omega), wr_at, upd_at]; exact kh
      have Gk : ∀ k, k ≠ 176 → G k = D k := fun k a => by rw [← hG, wr_ne a, wr_ne a]
      -- the water
      unfold lp_Model_on_47
      obtain ⟨m, hm⟩ := FU_eq (n := 27) (by omega)
      obtain ⟨E, ⟨e1, e2, e3⟩, e⟩ := itr_go (fun _ _ _ => none) s_Model_on_47 (fun i E k => k (zI r) (zI i) E) 26 (fun i (E : Dt) => CpR G E 189 0 194 (26 * r) 26 i)
        (fun i hi E g => by
          refine ⟨wr E 189 (0 + i) (G 194 (26 * r + i)), g.step hi rfl, fun k => ?_⟩
          unfold s_Model_on_47
          rw [if_neg (by rw [show (26 : Int32) = zI 26 from rfl, zI_le (by omega) (by omega) (by omega) (by omega)]; omega), zI_p26, if_pos (inb_t (by omega) (by omega) (by omega)), zI_nat (by omega), m_place0 (by omega), bnd_s, zI_s, g.2.2 194 (by omega), Nat.zero_add])
        G CpR.init
      have e := e (m + 1)
      rw [hm, show m + 27 = (m + 1) + 26 by omega]
      refine (show MDo (itr (fun _ _ _ => none) s_Model_on_47 (m + 1 + 26) (zI r) (zI ((0 : Nat) : Int)) G) D _ _ from ?_)
      rw [e, itr_s]
      unfold s_Model_on_47
      rw [if_pos (by decide)]
      -- sills, locks
      unfold lp_Model_on_78
      obtain ⟨m2, hm2⟩ := FU_eq (n := 9) (by omega)
      obtain ⟨F, ⟨f1, f2⟩, fe⟩ := itr_go (fun _ _ _ => none) s_Model_on_78 (fun i E k => k (zI r) (zI i) E) 8 (fun i (F : Dt) => (∀ j, j < i → F 185 j = D 195 (8 * r + j) ∧ F 187 j = D 196 (8 * r + j)) ∧ ∀ k, k ≠ 185 → k ≠ 187 → F k = E k)
        (fun i hi F ⟨g1, g2⟩ => by
          refine ⟨wr (wr F 185 i (D 195 (8 * r + i))) 187 i (D 196 (8 * r + i)), ⟨fun j hj => ?_, fun k a b => by rw [wr_ne b, wr_ne a]; exact g2 k a b⟩, fun k => ?_⟩
          · simp (disch := omega) only [wr_ne, wr_at]
            by_cases z : j = i
            · subst z; rw [upd_at, upd_at]; exact ⟨rfl, rfl⟩
            · rw [upd_ne (by omega), upd_ne (by omega)]; exact g1 j (by omega)
          · unfold s_Model_on_78
            rw [if_neg (by rw [show (8 : Int32) = zI 8 from rfl, zI_le (by omega) (by omega) (by omega) (by omega)]; omega), show (8 : Int32) = zI ((8 : Nat) : Int) from rfl, zI_pm, if_pos (inb_t (by omega) (by omega) (by omega)), if_pos (inb_t (by omega) (by omega) (by omega)), nm_s, if_pos (inb_t (by omega) (by omega) (by omega)), if_pos (inb_t (by omega) (by omega) (by omega)), nm_s, zI_nat (by omega), zI_nat (by omega), zI_s, g2 195 (by omega) (by omega), e3 195 (by omega), Gk 195 (by omega), wr_ne (show (196 : Nat) ≠ 185 by omega), g2 196 (by omega) (by omega), e3 196 (by omega), Gk 196 (by omega)])
        E ⟨fun j hj => by omega, fun k _ _ => rfl⟩
      have fe := fe (m2 + 1)
      rw [hm2, show m2 + 9 = (m2 + 1) + 8 by omega]
      refine (show MDo (itr (fun _ _ _ => none) s_Model_on_78 (m2 + 1 + 8) (zI r) (zI ((0 : Nat) : Int)) E) D _ _ from ?_)
      rw [fe, itr_s]
      unfold s_Model_on_78
      rw [if_pos (by decide)]
      -- hours
      have F176 : F 176 = G 176 := (f2 176 (by omega) (by omega)).trans (e3 176 (by omega))
      unfold lp_Model_on_126
      obtain ⟨m3, hm3⟩ := FU_eq (n := 27 * x.2.2.1 + 1) (by omega)
      have e27 : (27 : Int32) * zI (x.2.2.1 : Int) = zI ((27 * x.2.2.1 : Nat) : Int) := by
        rw [show (27 : Int32) = zI 27 from rfl, zI_mul]; congr 1
      obtain ⟨K, ⟨k1, k2, k3⟩, ke⟩ := itr_go (fun _ _ _ => none) s_Model_on_126 (fun i E k => k (zI r) (zI i) E) (27 * x.2.2.1) (fun i (K : Dt) => CpR F K 192 0 198 (1620 * r) 1620 i)
        (fun i hi K g => by
          refine ⟨wr K 192 (0 + i) (F 198 (1620 * r + i)), g.step (by omega) rfl, fun k => ?_⟩
          unfold s_Model_on_126
          rw [g.2.2 176 (by omega), F176, G26, e27, if_neg (by rw [zI_le (by omega) (by omega) (by omega) (by omega)]; omega), show (1620 : Int32) = zI ((1620 : Nat) : Int) from rfl, zI_pm, if_pos (inb_t (by omega) (by omega) (by omega)), if_pos (inb_t (by omega) (by omega) (by omega)), nm_s, zI_nat (by omega), zI_nat (by omega), zI_s, g.2.2 198 (by omega), Nat.zero_add])
        F CpR.init
      have ke := ke (m3 + 1)
      rw [hm3, show m3 + (27 * x.2.2.1 + 1) = (m3 + 1) + 27 * x.2.2.1 by omega]
      refine (show MDo (itr (fun _ _ _ => none) s_Model_on_126 (m3 + 1 + 27 * x.2.2.1) (zI r) (zI ((0 : Nat) : Int)) F) D _ _ from ?_)
      rw [ke, itr_s]
      have K176 : K 176 = G 176 := (k3 176 (by omega)).trans F176
      unfold s_Model_on_126
      rw [K176, G26, e27, if_pos ((zI_le (by omega) (by omega) (by omega) (by omega)).mpr (by omega))]
      have Kk : ∀ k, k ≠ 176 → k ≠ 185 → k ≠ 187 → k ≠ 189 → k ≠ 192 → K k = D k := fun k a b c d q => by rw [k3 k q, f2 k b c, e3 k d, Gk k a]
      refine ⟨K, rfl, h.setStr ⟨⟨?_, ?_, ?_, fun j a b => ⟨?_, ?_, ?_, ?_, ?_⟩⟩, ?_, by rw [K176]; exact G26, fun t ht => ?_⟩ (by rw [K176, G176 0 (by omega) (by omega)]) (by rw [K176, G176 2 (by omega) (by omega)]) (fun k hm h192 hk => Kk k (fun e => by subst e; revert hm; decide) (by omega) (by omega) (by omega) h192), fun k hk => Kk k (by omega) (by omega) (by omega) (by omega) (by omega)⟩
      · rw [K176, G176 10 (by omega) (by omega), hb.1, s1]
      · rw [K176, G8, if_neg (by omega)]
      · rw [K176, G176 9 (by omega) (by omega), hb.2.2.1, s1, s2]
      · rw [Kk 183 (by omega) (by omega) (by omega) (by omega) (by omega), (hb.at ho.2.1.1 (by omega)).1, ← s3]
      · rw [Kk 184 (by omega) (by omega) (by omega) (by omega) (by omega), (hb.at ho.2.1.1 (by omega)).2.1, ← s4]
      · rw [k3 185 (by omega), (f1 j a).1]; exact (ks j a b).1
      · rw [Kk 186 (by omega) (by omega) (by omega) (by omega) (by omega), (hb.at ho.2.1.1 (by omega)).2.2.2.1, ← s5]
      · rw [k3 187 (by omega), (f1 j a).2]; exact (ks j a b).2
      · rw [k3 189 (by omega), f2 189 (by omega) (by omega)]
        exact kw.mv (fun j hj => by rw [e1 j hj, Gk 194 (by omega)])
      · obtain ⟨p1, p2⟩ := kp t ht
        have F198 : F 198 = D 198 := by rw [f2 198 (by omega) (by omega), e3 198 (by omega), Gk 198 (by omega)]
        refine ⟨p1.mv (fun j hj => ?_), ?_⟩
        · have := k1 (27 * t + j) (by omega)
          rw [Nat.zero_add] at this
          rw [this, F198, Nat.add_assoc]
        · have := k1 (27 * t + 26) (by omega)
          rw [Nat.zero_add] at this
          rw [this, F198]; exact p2
    · rw [if_neg c2, if_neg c2]
      exact (m_meets h 1 (by omega)).ret
  · simp only [c1, if_false, Bool.false_eq_true]
    exact MDo.same h _
/-! mark -/
theorem m_copyStreet {D : Dt} : ∃ D1, f_Model_copyStreet D = some ((), D1) ∧ (∀ j, j < 26 → D1 189 (26 + j) = D 189 j) ∧ (∀ j, j < 26 → D1 189 j = D 189 j) ∧ ∀ k, k ≠ 189 → D1 k = D k := by
  unfold f_Model_copyStreet lp_Model_copyStreet_2
  obtain ⟨m, hm⟩ := FU_eq (n := 27) (by omega)
  rw [hm, show m + 27 = (m + 1) + 26 by omega]
  obtain ⟨E, ⟨e1, e2, e3⟩, e⟩ := itr_go (fun _ _ => none) s_Model_copyStreet_2 (fun i E k => k (zI i) E) 26 (fun i (E : Dt) => CpR D E 189 26 189 0 26 i)
    (fun i hi E g => by
      refine ⟨wr E 189 (26 + i) (D 189 (0 + i)), g.step hi rfl, fun k => ?_⟩
      unfold s_Model_copyStreet_2
      rw [if_neg (by rw [show (26 : Int32) = zI 26 from rfl, zI_le (by omega) (by omega) (by omega) (by omega)]; omega), m_v0 (by omega), bnd_s, zI_z1, m_place (f := 1) (by omega) (by omega), bnd_s, ← zI_z1, zI_s, g.2.1 i (by omega), Nat.zero_add])
    D CpR.init
  refine ⟨E, ?_, fun j hj => by rw [e1 j hj, Nat.zero_add], fun j hj => e2 j (by omega), e3⟩
  refine (e (m + 1)).trans ?_
  rw [itr_s]
  unfold s_Model_copyStreet_2
  rw [if_pos (by decide)]
theorem mIds_scr {D D1 : Dt} {S : SstT} (h : MRep D S) (h9 : ∀ j, j < 26 → D1 189 j = D 189 j) (hs : ∀ j, mSl j = true → D1 176 j = D 176 j) (hk : ∀ k, mIds k = true → k ≠ 189 → D1 k = D k) : MRep D1 S := by
  have e : ∀ k, (k = 177 ∨ k = 178 ∨ k = 179 ∨ k = 181 ∨ k = 182 ∨ (183 ≤ k ∧ k ≤ 187) ∨ (192 ≤ k ∧ k ≤ 199)) → D1 k = D k := fun k q => hk k (by simp only [mIds, Bool.or_eq_true, Bool.and_eq_true, decide_eq_true_eq, beq_iff_eq]; omega) (by omega)
  obtain ⟨h1, h2, h3, h4, h5⟩ := h
  refine ⟨?_, ?_, ?_, ⟨h4.1.congr (hs 8 rfl) (hs 9 rfl) (hs 10 rfl) (fun k a b => e k (by omega)), ?_, ?_, ?_⟩, ?_⟩
  · rw [e 178 (by omega), e 179 (by omega)]; exact h1
  · rw [e 181 (by omega), e 182 (by omega)]; exact h2
  · rw [hs 0 rfl, hs 2 rfl, e 177 (by omega)]; exact h3
  · exact h4.2.1.mv (fun j hj => by rw [Nat.zero_add]; exact h9 j hj)
  · rw [hs 26 rfl]; exact h4.2.2.1
  · rw [e 192 (by omega)]; exact h4.2.2.2
  · unfold MKep
    rw [e 193 (by omega), e 194 (by omega), e 195 (by omega), e 196 (by omega), e 197 (by omega), e 198 (by omega), e 199 (by omega)]; exact h5
theorem mSl_ne {j : Nat} (h : mSl j = true) : j = 0 ∨ j = 2 ∨ j = 8 ∨ j = 9 ∨ j = 10 ∨ j = 26 := by
  simp only [mSl, Bool.or_eq_true, beq_iff_eq] at h; omega
theorem m_wouldRun {D : Dt} {S : SstT} (h : MRep D S) (ho : Ok S) {i : Nat} (hi : i < S.2.2.2.1.1.1) : MDo (f_Model_wouldRun (zI i) D) D (zI ((rdW S.2.2.2.1.1 1 S.2.2.2.1.2.1).2.2.2 i)) S := by
  obtain ⟨hb, hw, hc, hp⟩ := h.2.2.2.1
  obtain ⟨o1, o2, o3, ⟨o4, o5, o6⟩, o7, o8⟩ := ho.2.1
  have h8 := o1.1
  unfold f_Model_wouldRun
  obtain ⟨E, e1, e2, e2b, e3⟩ := m_copyStreet (D := D)
  have hbE : MBed E S.2.2.2.1.1 := hb.congr (by rw [e3 176 (by omega)]) (by rw [e3 176 (by omega)]) (by rw [e3 176 (by omega)]) (fun k a b => e3 k (by omega))
  have hwE : PRep (E 189) (26 * 1) S.2.2.2.1.2.1 := hw.mv (fun j hj => by rw [Nat.zero_add]; exact e2 j hj)
  obtain ⟨F, f1, f2, f3, f4, f5, f6, f7⟩ := m_goes (f := 1) (op := 1) (by omega) hbE o1 (by omega) hwE o4 (by omega) (by omega)
  rw [e1, bnd_s, zI_z1, f1, bnd_s, if_pos (inb_t (by omega) (by omega) (by omega)), zI_nat (by omega), (f3 i hi).1]
  refine ⟨F, rfl, mIds_scr h (fun j hj => by rw [f5 j (by omega), e2b j hj]) (fun j hj => by rw [f6 j (by have := mSl_ne hj; omega), e3 176 (by omega)]) (fun k hk h189 => ?_), fun k hk => by rw [f7 k (by omega) (by omega) (by omega) (by omega), e3 k (by omega)]⟩
  simp only [mIds, Bool.or_eq_true, Bool.and_eq_true, decide_eq_true_eq, beq_iff_eq] at hk
  rw [f7 k (by omega) (by omega) (by omega) (by omega), e3 k (by omega)]
theorem q_mark {D : Dt} {S : SstT} (h : MRep D S) (ho : Ok S) (v1 v2 : Int32) : MDo (f_Model_mark v1 v2 D) D (sp_mark v1 v2 S).1 (sp_mark v1 v2 S).2 := by
  obtain ⟨o1, o2, o3, ⟨o4, o5, o6⟩, o7, o8⟩ := ho.2.1
  have h8 := o1.1
  unfold f_Model_mark sp_mark b_Model_mark_41 b_Model_mark_51
  simp only [m_isHouse h ho, m_in, bnd_s, zo_if, tl]
  by_cases c1 : hsB S v1 = true
  · by_cases c2 : wi v2 1 5 = true
    · simp only [c1, c2, and_self, if_true]
      obtain ⟨i, hi, rfl, e⟩ := hsB_nat c1
      obtain ⟨b1, b2, b3, b4, b5⟩ := h.2.2.2.1.1.at o1 hi
      obtain ⟨p1, p2, p3⟩ := h.2.2.2.1.2.1.p0
      have hk := (o1.2.2.2 i hi).1
      have h2 := of_decide_eq_true c2
      have hmk : kindB (kK S.2.2.2.1.1 i) v2.toInt = true → MDo (b_Model_mark_57 (zI i) v2 D) D (zI (markV S.2.2.2.1 i v2.toInt)) S := by
        intro c3
        unfold b_Model_mark_57 markV
        simp only [← Int32.toInt_inj, tl, inb_t (show (0 : Int) ≤ (i : Int) by omega) (show (i : Int) < (8 : Nat) by omega) (by omega), if_true, zI_nat (show i < 2147483648 by omega), b4, b5, zI_8p, m_v0 (show 8 + i < 26 by omega), bnd_s, (p3 i (by omega)).2.1]
        by_cases d1 : v2.toInt = 1
        · rw [if_pos d1, if_neg (by omega), if_neg (by omega), if_neg (by omega), if_neg (by omega)]
          exact (m_wouldRun h ho hi).ret
        · rw [if_neg d1]
          by_cases d2 : v2.toInt = 2
          · rw [if_pos d2, if_pos d2, zI_sub]; exact MDo.same h _
          · rw [if_neg d2, if_neg d2]
            by_cases d3 : v2.toInt = 3
            · rw [if_pos d3, if_pos d3, zI_z0, m_higher (f := 0) (by omega) h.2.2.2.1.1 o1 (fun j hj => by rw [Nat.mul_zero, Nat.zero_add]; exact (p3 j hj).1) hi, bnd_s]; exact MDo.same h _
            · rw [if_neg d3, if_neg d3]
              by_cases d4 : v2.toInt = 4
              · rw [if_pos d4, if_pos d4]
                obtain ⟨E, e1, e2, e3⟩ := m_wouldRun h ho hi
                have hr := ran_ok o1 (by omega) o4 1 i hi
                rw [e1, bnd_s, if_neg (by decide), show (2 : Int32) = zI 2 from rfl, zI_div hr.1 (by omega) (by omega) (by omega)]
                exact ⟨E, rfl, e2, e3⟩
              · rw [if_neg d4, if_neg d4, if_pos (by omega)]; exact MDo.same h _
      rw [e, if_pos (inb_t (by omega) (by omega) (by omega)), zI_nat (by omega), b1]
      simp only [← Int32.toInt_inj, tl, zI_toInt (show -2147483648 ≤ kK S.2.2.2.1.1 i by omega) (show kK S.2.2.2.1.1 i < 2147483648 by omega)]
      by_cases c3 : kindB (kK S.2.2.2.1.1 i) v2.toInt = true
      · have c4 := of_decide_eq_true c3
        rw [if_pos c3]
        by_cases d : kK S.2.2.2.1.1 i = v2.toInt
        · rw [if_pos d]; exact hmk c3
        · rw [if_neg d]
          by_cases d1 : v2.toInt = 1
          · rw [if_pos d1, if_pos (by omega)]; exact hmk c3
          · rw [if_neg d1, if_pos (by omega), if_pos (by omega)]; exact hmk c3
      · have c4 : ¬ (kK S.2.2.2.1.1 i = v2.toInt ∨ (kK S.2.2.2.1.1 i = 4 ∧ v2.toInt = 1) ∨ (kK S.2.2.2.1.1 i = 5 ∧ v2.toInt = 3)) := fun q => c3 (decide_eq_true q)
        rw [if_neg c3, if_neg (by omega)]
        by_cases d1 : v2.toInt = 1
        · rw [if_pos d1, if_neg (by omega), if_neg (by omega)]; exact (m_meets h 3 (by omega)).ret
        · rw [if_neg d1]
          by_cases d3 : v2.toInt = 3
          · rw [if_pos d3, if_neg (by omega)]; exact (m_meets h 3 (by omega)).ret
          · rw [if_neg d3]; exact (m_meets h 3 (by omega)).ret
    · simp only [c1, c2, and_false, if_true, if_false, Bool.false_eq_true]
      exact MDo.same h _
  · simp only [c1, false_and, if_false, Bool.false_eq_true]
    exact MDo.same h _
