/-! street: the model -/
theorem m_street196 {H : Dt} {S : SstT} {v : Nat} (hR : MRep H S) (h10 : H 176 10 = zI (v : Nat)) : ∃ D1, lp_Model_street_196 FU 0 H = some (zI (v : Nat), D1) ∧ MRep D1 (sKep S (fun k => (false, (S.2.2.2.2 k).2))) ∧ FrM H D1 := by
  unfold lp_Model_street_196
  obtain ⟨M, hM⟩ := FU_eq (n := 4) (by omega)
  rw [hM, show M + 4 = (M + 1) + 3 by omega]
  obtain ⟨K, ⟨k1, k2⟩, e⟩ := itr_go (fun _ _ => none) s_Model_street_196 (fun i (K : Dt) k => k (zI i) K) 3 (fun i (K : Dt) => (∀ j, j < i → K 193 j = zI (-1)) ∧ ∀ k, k ≠ 193 → K k = H k)
    (fun i hi K z => by
      obtain ⟨z1, z2⟩ := z
      refine ⟨wr K 193 i (zI (-1)), ⟨fun j hj => ?_, fun k hk => by rw [wr_ne hk, z2 k hk]⟩, fun k => ?_⟩
      · rw [wr_at]
        by_cases cj : j = i
        · subst cj; rw [upd_at]
        · rw [upd_ne cj]; exact z1 j (by omega)
      · unfold s_Model_street_196
        rw [if_neg (by rw [show (3 : Int32) = zI 3 from rfl, zI_le (by omega) (by omega) (by omega) (by omega)]; omega), if_pos (inb_t (by omega) (by omega) (by omega)), nm_s, zI_nat (by omega), zI_s]
        rfl)
    H ⟨fun j hj => by omega, fun _ _ => rfl⟩
  have e := e (M + 1)
  refine ⟨K, ?_, ?_, fun k hk => k2 k (by omega)⟩
  · refine (show itr (fun _ _ => none) s_Model_street_196 (M + 1 + 3) (zI ((0 : Nat) : Int)) H = _ from e.trans ?_)
    rw [itr_s]
    unfold s_Model_street_196
    rw [if_pos (by decide), k2 176 (by omega), h10]
  · obtain ⟨y1, y2, y3, y4, y5⟩ := hR
    refine ⟨?_, ?_, ?_, ⟨y4.1.congr (by rw [k2 176 (by omega)]) (by rw [k2 176 (by omega)]) (by rw [k2 176 (by omega)]) (fun k a b => k2 k (by omega)), ?_, ?_, ?_⟩, fun k hk => ⟨fun q => absurd q (show ¬ false = true by decide), fun _ => Or.inr (k1 k hk), ?_⟩⟩
    · rw [k2 178 (by omega), k2 179 (by omega)]; exact y1
    · rw [k2 181 (by omega), k2 182 (by omega)]; exact y2
    · rw [k2 176 (by omega), k2 177 (by omega)]; exact y3
    · rw [k2 189 (by omega)]; exact y4.2.1
    · rw [k2 176 (by omega)]; exact y4.2.2.1
    · rw [k2 192 (by omega)]; exact y4.2.2.2
    · rw [k2 199 (by omega)]; exact (y5 k hk).2.2
theorem m_street170 {F : Dt} {S : SstT} {B : BedT} (hR : MRep F S) (hB : MBed F B) : ∃ D1, lp_Model_street_170 FU 0 F = some (zI (B.1 : Nat), D1) ∧ (∀ T : SstT, (∀ D2, MStr D2 (B, W0, 0, fun _ => W0, fun _ => 0) → D2 176 0 = F 176 0 → D2 176 2 = F 176 2 → (∀ k, mIds k = true → k ≠ 189 → D2 k = F k) → MRep D2 T) → MRep D1 (sKep T (fun k => (false, (T.2.2.2.2 k).2)))) ∧ FrM F D1 := by
  unfold lp_Model_street_170
  obtain ⟨M, hM⟩ := FU_eq (n := 27) (by omega)
  rw [hM, show M + 27 = (M + 1) + 26 by omega]
  obtain ⟨K, ⟨k1, k2⟩, e⟩ := itr_go (fun _ _ => none) s_Model_street_170 (fun i (K : Dt) k => k (zI i) K) 26 (fun i (K : Dt) => (∀ j, j < i → K 189 j = 0) ∧ ∀ k, k ≠ 189 → K k = F k)
    (fun i hi K z => by
      obtain ⟨z1, z2⟩ := z
      refine ⟨wr K 189 i 0, ⟨fun j hj => ?_, fun k hk => by rw [wr_ne hk, z2 k hk]⟩, fun k => ?_⟩
      · rw [wr_at]
        by_cases cj : j = i
        · subst cj; rw [upd_at]
        · rw [upd_ne cj]; exact z1 j (by omega)
      · have ep : f_Model_place 0 (zI (i : Int)) 0 K = some ((), wr K 189 i 0) := by
          have := m_place (f := 0) (i := i) (by omega) hi 0 K
          rw [show 26 * 0 + i = i by omega] at this
          exact this
        unfold s_Model_street_170
        rw [if_neg (by rw [show (26 : Int32) = zI 26 from rfl, zI_le (by omega) (by omega) (by omega) (by omega)]; omega), ep, bnd_s, zI_s])
    F ⟨fun j hj => by omega, fun _ _ => rfl⟩
  have e := e (M + 1)
  have e : itr (fun _ _ => none) s_Model_street_170 (M + 1 + 26) 0 F = _ := e
  rw [e, itr_s]
  unfold s_Model_street_170
  rw [if_pos (by decide), nm_s]
  generalize hH : wr K 176 26 0 = H
  have H6 : ∀ j, j ≠ 26 → H 176 j = F 176 j := fun j hj => by rw [← hH, wr_at, upd_ne hj, k2 176 (by omega)]
  have Hk : ∀ k, k ≠ 176 → k ≠ 189 → H k = F k := fun k a b => by rw [← hH, wr_ne a, k2 k b]
  have hMS : MStr H (B, W0, 0, fun _ => W0, fun _ => 0) := by
    refine ⟨hB.congr (H6 8 (by omega)) (H6 9 (by omega)) (H6 10 (by omega)) (fun k a b => Hk k (by omega) (by omega)), ?_, by rw [← hH, wr_at, upd_at]; rfl, fun j hj => absurd hj (Nat.not_lt_zero j)⟩
    have e189 : ∀ j, j < 26 → H 189 j = 0 := fun j hj => by rw [← hH, wr_ne (by omega)]; exact k1 j hj
    refine ⟨e189 24 (by omega), e189 25 (by omega), fun j hj => ⟨?_, ?_, ?_⟩⟩
    · rw [Nat.zero_add]; exact e189 j (by omega)
    · exact e189 _ (by omega)
    · exact e189 _ (by omega)
  have gen : ∀ T : SstT, MRep H T → ∃ D1, lp_Model_street_196 FU 0 H = some (zI (B.1 : Nat), D1) ∧ MRep D1 (sKep T (fun k => (false, (T.2.2.2.2 k).2))) ∧ FrM H D1 := fun T hT => m_street196 hT (by rw [H6 10 (by omega)]; exact hB.1)
  have hT0 := hR.setStr hMS (H6 0 (by omega)) (H6 2 (by omega)) (fun k a b c => by
    have : k ≠ 176 := fun q => by subst q; revert a; decide
    exact Hk k this (by omega))
  obtain ⟨D1, d1, d2, d3⟩ := gen _ hT0
  refine ⟨D1, d1, fun T hT => ?_, fun k hk => by rw [d3 k hk, Hk k (by omega) (by omega)]⟩
  obtain ⟨D2, x1, x2, x3⟩ := gen T (hT H hMS (H6 0 (by omega)) (H6 2 (by omega)) (fun k a b => Hk k (fun q => by subst q; revert a; decide) b))
  rw [d1] at x1
  have : D1 = D2 := by
    injection x1 with x1
    injection x1
  rw [this]; exact x2
theorem q_street {D : Dt} {S : SstT} (h : MRep D S) (ho : Ok S) (v1 : Int32) : MDo (f_Model_street v1 D) D (sp_street v1 S).1 (sp_street v1 S).2 := by
  unfold f_Model_street sp_street
  rw [m_isText, bnd_s, zo_if]
  by_cases c : wi v1 0 3 = true
  · obtain ⟨t, ht, -, rfl⟩ := wi_nat c (by omega)
    have hw := ho.1.2 t (by omega)
    unfold rwOk at hw
    rw [if_pos c, if_pos c, zI_toInt (show -2147483648 ≤ (t : Int) by omega) (show (t : Int) < 2147483648 by omega), Int.toNat_natCast, if_pos (inb_t (by omega) (by omega) (by omega)), zI_nat (by omega), (h.2.1 t (by omega)).1, if_cg (zI_ge0 (by omega) (by omega))]
    by_cases g : (S.2.1 t).1 = -1
    · rw [if_neg (by omega), if_pos g]
      exact (m_meets h 1 (by omega)).ret
    · obtain ⟨t1, t2, t3⟩ := tx_m h (show t < 4 by omega) g ho.1
      obtain ⟨E, e1, e2, e3⟩ := m_faultOf (show t < 4 by omega) t2 t1
      have f9 := ftV_9 (o := (txR S t).1) (fun x hx => txR_b t2 hx)
      rw [if_pos (by omega), if_neg g, e1, bnd_s, if_cg f9]
      by_cases u : (txR S t).1 = none
      · rw [if_pos u, if_pos u]
        obtain ⟨hd, h18, h19⟩ := e3 u
        obtain ⟨so, -, -, -, -, -⟩ := stT_ok u
        have m8 : (txR S t).2 ≤ 8 := so.1
        generalize hm : (txR S t).2 = m at *
        have hd20 : E 176 20 = zI (m : Nat) := hd.1
        rw [nm_s, wr_at, upd_at, hd20, show (0 : Int32) = zI ((0 : Nat) : Int) from rfl, if_cg (zI_eqn (by omega) (by omega)), upd_ne (show 18 ≠ 10 by omega), h18]
        unfold b_Model_street_61 b_Model_street_80
        -- the flow, the sea
        have both : ∀ (fl se : Int32), fl = zI (if m = 0 then 0 else fgT (S.2.1 t).2 (txN S t) (bbT (S.2.1 t).2 (txN S t) 0 + 1)) → se = zI (if m = 0 then 0 else fgT (S.2.1 t).2 (txN S t) (bbT (S.2.1 t).2 (txN S t) 0 + 2)) → MDo (lp_Model_street_85 FU (zI ((0 : Nat) : Int)) (wr (wr (wr E 176 10 (zI (m : Nat))) 176 8 fl) 176 9 se)) D (zI (m : Nat)) (newS S t) := by
          intro fl se hfl hse
          generalize hF : wr (wr (wr E 176 10 (zI (m : Nat))) 176 8 fl) 176 9 se = F
          have F10 : F 176 10 = zI (m : Nat) := by rw [← hF, wr_at, upd_ne (by omega), wr_at, upd_ne (by omega), wr_at, upd_at]
          have F8 : F 176 8 = fl := by rw [← hF, wr_at, upd_ne (by omega), wr_at, upd_at]
          have F9 : F 176 9 = se := by rw [← hF, wr_at, upd_at]
          have Fj : ∀ j, j ≠ 8 → j ≠ 9 → j ≠ 10 → F 176 j = E 176 j := fun j a b d => by rw [← hF, wr_at, upd_ne b, wr_at, upd_ne a, wr_at, upd_ne d]
          have Fk : ∀ k, k ≠ 176 → F k = E k := fun k a => by rw [← hF, wr_ne a, wr_ne a, wr_ne a]
          unfold lp_Model_street_85
          obtain ⟨M, hM⟩ := FU_eq (n := m + 1) (by omega)
          rw [hM, show M + (m + 1) = (M + 1) + m by omega]
          obtain ⟨K, ⟨k1, k2⟩, e⟩ := itr_go (fun _ _ => none) s_Model_street_85 (fun i (K : Dt) k => k (zI i) K) m (fun i (K : Dt) => (∀ j, j < i → K 183 j = E 188 (4 * j) ∧ K 184 j = E 188 (4 * j + 1) ∧ K 185 j = E 188 (4 * j + 2) ∧ K 186 j = E 188 (4 * j + 3) ∧ K 187 j = 0) ∧ ∀ k, (k < 183 ∨ 187 < k) → K k = F k)
            (fun i hi K z => by
              obtain ⟨z1, z2⟩ := z
              have K188 : K 188 = E 188 := by rw [z2 188 (by omega), Fk 188 (by omega)]
              refine ⟨wr (wr (wr (wr (wr K 183 i (E 188 (4 * i))) 184 i (E 188 (4 * i + 1))) 185 i (E 188 (4 * i + 2))) 186 i (E 188 (4 * i + 3))) 187 i 0, ⟨fun j hj => ?_, fun k hk => by rw [wr_ne (by omega), wr_ne (by omega), wr_ne (by omega), wr_ne (by omega), wr_ne (by omega), z2 k hk]⟩, fun k => ?_⟩
              · simp (disch := omega) only [wr_ne, wr_at]
                by_cases cj : j = i
                · subst cj; simp only [upd_at]; exact ⟨trivial, trivial, trivial, trivial, trivial⟩
                · simp only [upd_ne cj]; exact z1 j (by omega)
              · have e4 : (4 : Int32) * zI (i : Int) = zI ((4 * i : Nat) : Int) := by rw [show (4 : Int32) = zI 4 from rfl, zI_mul]; rfl
                have ea : ∀ q : Nat, zI ((4 * i : Nat) : Int) + zI (q : Int) = zI ((4 * i + q : Nat) : Int) := fun q => by rw [zI_add]; rfl
                have i8 : inb (zI (i : Int)) 8 = true := inb_t (by omega) (by omega) (by omega)
                have j0 : inb (zI ((4 * i : Nat) : Int)) 32 = true := inb_t (by omega) (by omega) (by omega)
                have j1 : inb (zI ((4 * i + 1 : Nat) : Int)) 32 = true := inb_t (by omega) (by omega) (by omega)
                have j2 : inb (zI ((4 * i + 2 : Nat) : Int)) 32 = true := inb_t (by omega) (by omega) (by omega)
                have j3 : inb (zI ((4 * i + 3 : Nat) : Int)) 32 = true := inb_t (by omega) (by omega) (by omega)
                show s_Model_street_85 k (zI i) K = _
                unfold s_Model_street_85
                rw [z2 176 (by omega), F10, if_neg (by rw [zI_le (by omega) (by omega) (by omega) (by omega)]; omega), e4, show zI ((4 * i : Nat) : Int) + 1 = zI ((4 * i + 1 : Nat) : Int) from ea 1, show zI ((4 * i : Nat) : Int) + 2 = zI ((4 * i + 2 : Nat) : Int) from ea 2, show zI ((4 * i : Nat) : Int) + 3 = zI ((4 * i + 3 : Nat) : Int) from ea 3]
                simp only [i8, j0, j1, j2, j3, if_true, nm_s, zI_nat (show i < 2147483648 by omega), zI_nat (show 4 * i < 2147483648 by omega), zI_nat (show 4 * i + 1 < 2147483648 by omega), zI_nat (show 4 * i + 2 < 2147483648 by omega), zI_nat (show 4 * i + 3 < 2147483648 by omega)]
                simp (disch := omega) only [wr_ne]
                rw [K188, zI_s])
            F ⟨fun j hj => by omega, fun _ _ => rfl⟩
          have e := e (M + 1)
          refine (show MDo (itr (fun _ _ => none) s_Model_street_85 (M + 1 + m) (zI ((0 : Nat) : Int)) F) D _ _ from ?_)
          rw [e, itr_s]
          unfold s_Model_street_85
          rw [k2 176 (by omega), F10, if_pos ((zI_le (by omega) (by omega) (by omega) (by omega)).mpr (by omega))]
          have K6 : ∀ j, j ≠ 8 → j ≠ 9 → j ≠ 10 → K 176 j = E 176 j := fun j a b d => by rw [k2 176 (by omega), Fj j a b d]
          have Kk : ∀ k, k ≠ 176 → (k < 183 ∨ 187 < k) → K k = E k := fun k a b => by rw [k2 k b, Fk k a]
          have hB : MBed K (bedT (S.2.1 t).2 (txN S t) m) := by
            refine ⟨by rw [k2 176 (by omega)]; exact F10, by rw [k2 176 (by omega), F8]; exact hfl, by rw [k2 176 (by omega), F9]; exact hse, fun j hj hjm => ?_⟩
            obtain ⟨a1, a2, a3, a4, a5⟩ := k1 j hjm
            obtain ⟨b1, b2, b3, b4⟩ := hd.2 j hjm
            rw [a1, a2, a3, a4, a5]
            exact ⟨b1, b2, b3, b4, rfl⟩
          have hE : MRep E S := e2.rep h
          -- a state for K: the street is another one
          have hK : MRep (fun k => if k = 176 then K 176 else if k = 189 then E 189 else K k) (sStr S (bedT (S.2.1 t).2 (txN S t) m, S.2.2.2.1.2)) := by
            refine hE.setStr ⟨?_, ?_, ?_, ?_⟩ ?_ ?_ ?_
            · exact hB.congr rfl rfl rfl (fun k a b => by show (if k = 176 then _ else if k = 189 then _ else K k) = K k; rw [if_neg (by omega), if_neg (by omega)])
            · exact hE.2.2.2.1.2.1
            · show K 176 26 = _
              rw [K6 26 (by omega) (by omega) (by omega)]; exact hE.2.2.2.1.2.2.1
            · intro j hj
              show PRep (K 192) _ _ ∧ K 192 _ = _
              rw [Kk 192 (by omega) (by omega)]
              exact hE.2.2.2.1.2.2.2 j hj
            · show K 176 0 = _
              exact K6 0 (by omega) (by omega) (by omega)
            · show K 176 2 = _
              exact K6 2 (by omega) (by omega) (by omega)
            · intro k a b d
              have : k ≠ 176 := fun q => by subst q; revert a; decide
              show (if k = 176 then _ else if k = 189 then _ else K k) = E k
              rw [if_neg this, if_neg (by omega), Kk k this (by omega)]
          have eK : (fun k => if k = 176 then K 176 else if k = 189 then E 189 else K k) = K := by
            funext k
            by_cases q1 : k = 176
            · rw [if_pos q1, q1]
            · rw [if_neg q1]
              by_cases q2 : k = 189
              · rw [if_pos q2, q2, Kk 189 (by omega) (by omega)]
              · rw [if_neg q2]
          rw [eK] at hK
          obtain ⟨G, g1, g2, g3⟩ := m_street170 hK hB
          refine ⟨G, g1, ?_, fun k hk => by rw [g3 k hk, Kk k (by omega) (by omega), e2.2 k (by omega) (by omega)]⟩
          have key := g2 (sStr S (bedT (S.2.1 t).2 (txN S t) m, W0, 0, fun _ => W0, fun _ => 0)) (fun D2 x1 x2 x3 x4 => by
            refine hE.setStr x1 (by rw [x2, K6 0 (by omega) (by omega) (by omega)]) (by rw [x3, K6 2 (by omega) (by omega) (by omega)]) (fun k a b d => ?_)
            have : k ≠ 176 := fun q => by subst q; revert a; decide
            rw [x4 k a (by omega), Kk k this (by omega)])
          unfold newS
          rw [hm]
          exact key
        by_cases z : m = 0
        · rw [if_pos z, nm_s, wr_at, upd_ne (show 10 ≠ 8 by omega), wr_at, upd_at, if_cg (show zI (m : Int) = 0 ↔ m = 0 from zI_eqn (b := 0) (by omega) (by omega)), if_pos z, nm_s]
          exact both _ _ (by rw [if_pos z]; rfl) (by rw [if_pos z]; rfl)
        · rw [if_neg z, nm_s, wr_at, upd_ne (show 10 ≠ 8 by omega), wr_at, upd_at, if_cg (show zI (m : Int) = 0 ↔ m = 0 from zI_eqn (b := 0) (by omega) (by omega)), if_neg z, nm_s, upd_ne (show 19 ≠ 8 by omega), upd_ne (show 19 ≠ 10 by omega), h19]
          exact both _ _ (by rw [if_neg z]) (by rw [if_neg z])
      · rw [if_neg u, if_neg u]
        exact ⟨E, rfl, e2.rep h, fun k hk => e2.2 k (by omega) (by omega)⟩
  · rw [if_neg c, if_neg c]
    exact MDo.same h _
