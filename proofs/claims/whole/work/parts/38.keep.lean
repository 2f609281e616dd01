/-! keep, on, mark: the class -/
theorem c_strTake {D : Dt} {w v : Nat} {x : StrT} (h : CStr D v x) (hh : x.2.2.1 ≤ 60) (hd : w + 14 < v ∨ v + 14 < w) : ∃ D1, f_Street_takeFrom w v D = some ((), D1) ∧ CStr D1 w x ∧ ∀ k, (k < w ∨ w + 14 < k) → D1 k = D k := by
  obtain ⟨hb, hw, hc, hp⟩ := h
  unfold f_Street_takeFrom
  obtain ⟨E, e1, e2, -, e4⟩ := c_bTake (w := w + 1) (v := v + 1) hb (by omega)
  have hwE : WRep E (v + 7) x.2.1 := hw.congr (fun k a b => e4 k (by omega))
  obtain ⟨F, f1, f2, f3⟩ := c_wTake (w := w + 7) (v := v + 7) hwE (by omega)
  have Fk : ∀ k, (k < w + 1 ∨ w + 10 < k) → F k = D k := fun k hk => by rw [f3 k (by omega), e4 k (by omega)]
  have e26 : zI (x.2.2.1 : Int) * 26 = zI ((26 * x.2.2.1 : Nat) : Int) := by
    rw [show (26 : Int32) = zI 26 from rfl, zI_mul]; congr 1; omega
  have n0 : ∀ q : Nat, q < 3000 → ¬ zI (q : Int) < 0 := fun q hq => by rw [zI_ltl (by omega) (by omega)]; omega
  rw [e1, bnd_s, f1, bnd_s, Fk v (by omega), hc, e26, zI_nat (by omega), tc0, if_pos ⟨by decide, by decide, n0 _ (by omega), by omega, by omega⟩, nm_s, st_ne (by omega), Fk v (by omega), hc, zI_nat (by omega), if_pos ⟨by decide, by decide, n0 _ (by omega), by omega, by omega⟩, nm_s, st_ne (show v ≠ w + 14 by omega), st_ne (show v ≠ w + 13 by omega), Fk v (by omega), hc, nm_s]
  refine ⟨_, rfl, ⟨?_, ?_, by rw [wr_at, upd_at], fun t ht => ?_⟩, fun k hk => by rw [wr_ne (by omega), st_ne (by omega), st_ne (by omega), Fk k (by omega)]⟩
  · exact e2.congr (fun k a b => by rw [wr_ne (by omega), st_ne (by omega), st_ne (by omega), f3 k (by omega)])
  · exact f2.congr (fun k a b => by rw [wr_ne (by omega), st_ne (by omega), st_ne (by omega)])
  · obtain ⟨⟨p1, p2, p3⟩, p4⟩ := hp t ht
    rw [wr_ne (by omega), wr_ne (by omega), st_ne (by omega), st_at, st_at, st_ne (by omega), Fk (v + 13) (by omega), Fk (v + 14) (by omega)]
    refine ⟨⟨by rw [cpy0 _ _ _ (by omega)]; exact p1, by rw [cpy0 _ _ _ (by omega)]; exact p2, fun j hj => ⟨by rw [cpy0 _ _ _ (by omega)]; exact (p3 j hj).1, by rw [cpy0 _ _ _ (by omega)]; exact (p3 j hj).2.1, by rw [cpy0 _ _ _ (by omega)]; exact (p3 j hj).2.2⟩⟩, by rw [cpy0 _ _ _ (by omega)]; exact p4⟩
def sp_keep (v1 : Int32) (S : SstT) : Int32 × SstT := if wi v1 0 2 = true then (if 0 < S.2.2.2.1.1.1 then (zI S.2.2.2.1.2.2.1, sKep S (fu S.2.2.2.2 v1.toInt.toNat (true, S.2.2.2.1))) else (-4, S)) else (-1, S)
def sp_on (v1 : Int32) (S : SstT) : Int32 × SstT := if wi v1 0 2 = true then (if (S.2.2.2.2 v1.toInt.toNat).1 = true then (zI (S.2.2.2.2 v1.toInt.toNat).2.2.2.1, sStr S (S.2.2.2.2 v1.toInt.toNat).2) else (-3, sFind S 1)) else (-1, S)
theorem k_keep {D : Dt} {S : SstT} (h : CRep D S) (ho : Ok S) (v1 : Int32) : CDo (f_Root_keep v1 D) D (sp_keep v1 S).1 (sp_keep v1 S).2 := by
  unfold f_Root_keep sp_keep
  simp only [c_isWithin, c_hasHouses h ho, bnd_s, zo_if, tl]
  by_cases c1 : wi v1 0 2 = true
  · by_cases c2 : 0 < S.2.2.2.1.1.1
    · obtain ⟨r, hr, -, rfl⟩ := wi_nat c1 (by omega)
      have hr : r < 3 := by omega
      obtain ⟨E, e1, e2, e3⟩ := c_strTake (w := 131 + 15 * r) (v := 3) h.2.2.2.1 ho.2.1.2.2.1 (by omega)
      simp only [c1, c2, if_true, zI_toInt (show -2147483648 ≤ (r : Int) by omega) (show (r : Int) < 2147483648 by omega), Int.toNat_natCast, inb_t (show (0 : Int) ≤ (r : Int) by omega) (show (r : Int) < (3 : Nat) by omega) (by omega), zI_nat (show r < 2147483648 by omega), e1, bnd_s, nm_s]
      have e4 : wr E 19 r (vp_nar .boolean 1) 3 4 = zI S.2.2.2.1.2.2.1 := by rw [wr_ne (by omega), e3 3 (by omega)]; exact h.2.2.2.1.2.2.1
      rw [e4]
      have ek : ∀ k, k ≠ 19 → (k < 131 + 15 * r ∨ 131 + 15 * r + 14 < k) → wr E 19 r (vp_nar .boolean 1) k = D k := fun k a b => by rw [wr_ne a, e3 k b]
      obtain ⟨g1, g2, g3, g4, g5, g6⟩ := h
      refine ⟨_, rfl, ⟨fun q hq => (g1 q hq).congr (ek _ (by omega) (by omega)) (ek _ (by omega) (by omega)), fun q hq => (g2 q hq).congr (ek _ (by omega) (by omega)) (ek _ (by omega) (by omega)), by rw [ek 0 (by omega) (by omega), ek 110 (by omega) (by omega)]; exact g3, g4.congr (fun k a b => ek k (by omega) (by omega)), fun q hq => ?_, by rw [ek 34 (by omega) (by omega), ek 35 (by omega) (by omega), ek 37 (by omega) (by omega)]; exact g6⟩, fun k hk => ek k (by omega) (by omega)⟩
      show wr E 19 r (vp_nar .boolean 1) 19 q = zI (if (fu S.2.2.2.2 r (true, S.2.2.2.1) q).1 then 1 else 0) ∧ ((fu S.2.2.2.2 r (true, S.2.2.2.1) q).1 = true → CStr _ (131 + 15 * q) (fu S.2.2.2.2 r (true, S.2.2.2.1) q).2)
      by_cases z : q = r
      · subst z
        rw [fu_at, wr_at, upd_at]
        exact ⟨rfl, fun _ => e2.congr (fun k a b => wr_ne (by omega))⟩
      · rw [fu_ne z, wr_at, upd_ne z, e3 19 (by omega)]
        exact ⟨(g5 q hq).1, fun y => ((g5 q hq).2 y).congr (fun k a b => ek k (by omega) (by omega))⟩
    · simp only [c1, c2, if_true, if_false]
      exact CDo.same h _
  · simp only [c1, if_false, Bool.false_eq_true]
    exact CDo.same h _
theorem k_on {D : Dt} {S : SstT} (h : CRep D S) (ho : Ok S) (v1 : Int32) : CDo (f_Root_on v1 D) D (sp_on v1 S).1 (sp_on v1 S).2 := by
  unfold f_Root_on sp_on
  simp only [c_isWithin, bnd_s, zo_if, tl]
  by_cases c1 : wi v1 0 2 = true
  · obtain ⟨r, hr, -, rfl⟩ := wi_nat c1 (by omega)
    have hr : r < 3 := by omega
    obtain ⟨g1, g2⟩ := h.2.2.2.2.1 r hr
    simp only [c1, if_true, zI_toInt (show -2147483648 ≤ (r : Int) by omega) (show (r : Int) < 2147483648 by omega), Int.toNat_natCast, inb_t (show (0 : Int) ≤ (r : Int) by omega) (show (r : Int) < (3 : Nat) by omega) (by omega), zI_nat (show r < 2147483648 by omega), g1]
    by_cases c2 : (S.2.2.2.2 r).1 = true
    · rw [if_neg (by rw [c2]; decide), if_pos c2]
      obtain ⟨E, e1, e2, e3⟩ := c_strTake (w := 3) (v := 131 + 15 * r) (g2 c2) (ho.2.2 r hr c2).1.2.2.1 (by omega)
      rw [e1, bnd_s, e2.2.2.1]
      exact ⟨E, rfl, h.setStr e2 (fun k _ hk => e3 k (by omega)), fun k hk => e3 k (by omega)⟩
    · rw [if_pos (by rw [if_neg c2]; rfl), if_neg c2]
      exact (c_find h 1 (by omega)).ret
  · simp only [c1, if_false, Bool.false_eq_true]
    exact CDo.same h _
/-! mark -/
def markV (x : StrT) (i : Nat) (v : Int) : Int := if v = 2 then rR x.1 i - x.2.1.2.1 i else if v = 3 then drpZ x.1 x.2.1.1 i else if v = 4 then (rdW x.1 1 x.2.1).2.2.2 i / 2 else if v = 5 then hH x.1 i else (rdW x.1 1 x.2.1).2.2.2 i
def sp_mark (v1 v2 : Int32) (S : SstT) : Int32 × SstT := if hsB S v1 = true ∧ wi v2 1 5 = true then (if kindB (kK S.2.2.2.1.1 v1.toInt.toNat) v2.toInt = true then (zI (markV S.2.2.2.1 v1.toInt.toNat v2.toInt), S) else (-3, sFind S 3)) else (-1, S)
theorem c_wouldRunOn {D : Dt} {S : SstT} (h : CRep D S) (ho : Ok S) {i : Nat} (hi : i < S.2.2.2.1.1.1) : CDo (f_Root_wouldRunOn (zI i) D) D (zI ((rdW S.2.2.2.1.1 1 S.2.2.2.1.2.1).2.2.2 i)) S ∧ ∀ D1 x, f_Root_wouldRunOn (zI i) D = some (x, D1) → ∀ k, (k < 26 ∨ 31 < k) → D1 k = D k := by
  obtain ⟨hb, hw, hc, hp⟩ := h.2.2.2.1
  obtain ⟨o1, o2, o3, ⟨o4, o5, o6⟩, o7, o8⟩ := ho.2.1
  have h8 := o1.1
  unfold f_Root_wouldRunOn
  obtain ⟨E, e1, e2, e3⟩ := c_wTake (w := 26) (v := 3 + 7) hw (by omega)
  have hbE : BRep E (3 + 1) S.2.2.2.1.1 := hb.congr (fun k a b => e3 k (by omega))
  obtain ⟨F, f1, f2, f3, f4⟩ := c_pass (w := 26) (b := 3 + 1) (op := 1) hbE o1 (by omega) (by omega) e2 o4 (by omega) (by omega)
  rw [e1, bnd_s, show (1 : Int32) = zI ((1 : Nat) : Int) from rfl, f1, bnd_s, if_pos (inb_t (by omega) (by omega) (by omega)), zI_nat (by omega), (f3 i hi).1]
  have fk : ∀ k, (k < 26 ∨ 31 < k) → F k = D k := fun k hk => by rw [f4 k (by omega), e3 k (by omega)]
  refine ⟨⟨F, rfl, h.congr (fun k hk => fk k ?_), fun k hk => fk k (by omega)⟩, fun D1 x q k hk => ?_⟩
  · simp only [cIds, Bool.or_eq_true, Bool.and_eq_true, decide_eq_true_eq, beq_iff_eq] at hk; omega
  · cases q; exact fk k hk
theorem ran_ok {B : BedT} {W : WatT} {T : Int} (hB : BOk B) (hn : 0 < B.1) (h : WOk B W T) (op : Nat) : ∀ i, i < B.1 → 0 ≤ (rdW B op W).2.2.2 i ∧ (rdW B op W).2.2.2 i ≤ T + 9 := by
  obtain ⟨a1, a2, a3⟩ := opA_ok (op := op) hB hn h
  have key : ∀ n, n ≤ B.1 → ∀ i, i < n → 0 ≤ (rdN B n (opA B op W, W.2.2.1, W.2.2.2.2, fun _ => 0)).2.2.2 i ∧ (rdN B n (opA B op W, W.2.2.1, W.2.2.2.2, fun _ => 0)).2.2.2 i ≤ T + 9 := by
    intro n
    induction n with
    | zero => intro _ i hi; omega
    | succ n ih =>
      intro hn i hi
      obtain ⟨⟨g1, g2, g3, g4, g5⟩, -⟩ := rdN_ok (B := B) hB.1 (x0 := (opA B op W, W.2.2.1, W.2.2.2.2, fun _ => 0)) a1 a2 n (by omega)
      simp only at g3 g4
      show 0 ≤ fu (rdN B n _).2.2.2 n (runZ B (rdN B n _).1 n) i ∧ fu (rdN B n _).2.2.2 n (runZ B (rdN B n _).1 n) i ≤ _
      by_cases e : i = n
      · subst e
        rw [fu_at]
        have h8 := hB.1
        obtain ⟨r1, r2⟩ := runZ_ok (B := B) (a := (rdN B i (opA B op W, W.2.2.1, W.2.2.2.2, fun _ => 0)).1) (i := i) (g1 i)
        have := le_sum8 g1 (show i < 8 by omega)
        omega
      · rw [fu_ne e]; exact ih (by omega) i (by omega)
  exact key B.1 (Nat.le_refl _)
theorem k_mark {D : Dt} {S : SstT} (h : CRep D S) (ho : Ok S) (v1 v2 : Int32) : CDo (f_Root_mark v1 v2 D) D (sp_mark v1 v2 S).1 (sp_mark v1 v2 S).2 := by
  obtain ⟨o1, o2, o3, ⟨o4, o5, o6⟩, o7, o8⟩ := ho.2.1
  have h8 := o1.1
  unfold f_Root_mark sp_mark
  simp only [c_hasHouse h ho, c_isWithin, bnd_s, zo_if, tl]
  by_cases c1 : hsB S v1 = true
  · by_cases c2 : wi v2 1 5 = true
    · simp only [c1, c2, and_self, if_true]
      obtain ⟨i, hi, rfl, e⟩ := hsB_nat c1
      obtain ⟨b1, b2, b3, b4, b5⟩ := h.2.2.2.1.1.at o1 hi
      obtain ⟨w1, w2, w3⟩ := h.2.2.2.1.2.1
      rw [e, c_isOfKind h.2.2.2.1.1 o1 hi, bnd_s, zo_if]
      by_cases c3 : kindB (kK S.2.2.2.1.1 i) v2.toInt = true
      · rw [if_pos c3, if_pos c3]
        unfold markV
        simp only [← Int32.toInt_inj, tl, inb_t (show (0 : Int) ≤ (i : Int) by omega) (show (i : Int) < (8 : Nat) by omega) (by omega), if_true, zI_nat (show i < 2147483648 by omega), b4, b5, (w3 i (by omega)).2.1]
        by_cases d2 : v2.toInt = 2
        · rw [if_pos d2, if_pos d2, zI_sub]; exact CDo.same h _
        · rw [if_neg d2, if_neg d2]
          by_cases d3 : v2.toInt = 3
          · rw [if_pos d3, if_pos d3, c_drop h.2.2.2.1.1 o1 (fun j hj => (w3 j hj).1) hi, bnd_s]; exact CDo.same h _
          · rw [if_neg d3, if_neg d3]
            obtain ⟨⟨E, e1, e2, e3⟩, e4⟩ := c_wouldRunOn h ho hi
            have ek := e4 E _ e1
            by_cases d4 : v2.toInt = 4
            · rw [if_pos d4, if_pos d4, e1, bnd_s]
              have hkk : kK S.2.2.2.1.1 i = 4 := by
                unfold kindB at c3; have := of_decide_eq_true c3; omega
              have hr := ran_ok o1 (by omega) o4 1 i hi
              rw [c_grinds (h.2.2.2.1.1.congr (fun k a b => ek k (by omega))) o1 hi hr.1 (by omega), bnd_s, hkk]
              unfold grdZ
              rw [if_pos rfl]
              exact ⟨E, rfl, e2, e3⟩
            · rw [if_neg d4, if_neg d4]
              by_cases d5 : v2.toInt = 5
              · rw [if_pos d5, if_pos d5]; exact CDo.same h _
              · rw [if_neg d5, if_neg d5, e1, bnd_s]
                exact ⟨E, rfl, e2, e3⟩
      · rw [if_neg c3, if_neg c3]
        exact (c_find h 3 (by omega)).ret
    · simp only [c1, c2, and_false, if_true, if_false, Bool.false_eq_true]
      exact CDo.same h _
  · simp only [c1, false_and, if_false, Bool.false_eq_true]
    exact CDo.same h _
