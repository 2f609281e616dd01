theorem zI_ofNat (n : Nat) : Int32.ofNat n = zI n := by
  apply Int32.toBitVec_inj.mp
  show BitVec.ofNat 32 n = BitVec.ofInt 32 n
  simp
theorem zI_s (i : Nat) : zI (i : Int) + 1 = zI ((i + 1 : Nat) : Int) := by
  rw [show (1 : Int32) = zI 1 from rfl, zI_add]; rfl
/-- loops that fill -/
theorem fillI_ok (a : Nat) (v : Int32) (D : Dt) (hn : ln a ≤ 4000) : ∃ D1, f_J_fillI a v D = some ((), D1) ∧ (∀ j, D1 a j = if j < ln a then v else D a j) ∧ ∀ k, k ≠ a → D1 k = D k := by
  unfold f_J_fillI lp_J_fillI_5
  obtain ⟨m, hm⟩ := FU_eq (n := ln a + 1) (by omega)
  rw [hm, show m + (ln a + 1) = (m + 1) + ln a by omega, zI_ofNat]
  obtain ⟨E, ⟨hj, hk⟩, e⟩ := itr_go (fun _ _ _ _ => none) (s_J_fillI_5 a) (fun i E k => k v (zI i) (zI (ln a)) E) (ln a) (fun i (E : Dt) => (∀ j, E a j = if j < i then v else D a j) ∧ ∀ k, k ≠ a → E k = D k)
    (fun i hi E ⟨h2, h3⟩ => by
      refine ⟨wr E a i v, ⟨fun j => ?_, fun k hk => by rw [wr_ne hk]; exact h3 k hk⟩, fun k => ?_⟩
      · rw [wr_at]
        by_cases q : j = i
        · subst q; rw [upd_at, if_pos (by omega)]
        · rw [upd_ne q, h2 j]
          by_cases q2 : j < i
          · rw [if_pos q2, if_pos (by omega)]
          · rw [if_neg q2, if_neg (by omega)]
      · unfold s_J_fillI_5
        rw [if_neg (by rw [zI_le (by omega) (by omega) (by omega) (by omega)]; omega), if_pos (inb_t (by omega) (by omega) (by omega)), nm_s, zI_nat (by omega), zI_s])
    D ⟨fun j => by rw [if_neg (by omega)], fun k _ => rfl⟩
  refine ⟨E, ?_, hj, hk⟩
  refine (e (m + 1)).trans ?_
  rw [itr_s]
  unfold s_J_fillI_5
  rw [if_pos ((zI_le (by omega) (by omega) (by omega) (by omega)).mpr (by omega))]
theorem fillB_ok (a : Nat) (v : Int32) (D : Dt) (hn : ln a ≤ 4000) : ∃ D1, f_J_fillB a v D = some ((), D1) ∧ (∀ j, D1 a j = if j < ln a then vp_nar .byte v else D a j) ∧ ∀ k, k ≠ a → D1 k = D k := by
  unfold f_J_fillB lp_J_fillB_5
  obtain ⟨m, hm⟩ := FU_eq (n := ln a + 1) (by omega)
  rw [hm, show m + (ln a + 1) = (m + 1) + ln a by omega, zI_ofNat]
  obtain ⟨E, ⟨hj, hk⟩, e⟩ := itr_go (fun _ _ _ _ => none) (s_J_fillB_5 a) (fun i E k => k v (zI i) (zI (ln a)) E) (ln a) (fun i (E : Dt) => (∀ j, E a j = if j < i then vp_nar .byte v else D a j) ∧ ∀ k, k ≠ a → E k = D k)
    (fun i hi E ⟨h2, h3⟩ => by
      refine ⟨wr E a i (vp_nar .byte v), ⟨fun j => ?_, fun k hk => by rw [wr_ne hk]; exact h3 k hk⟩, fun k => ?_⟩
      · rw [wr_at]
        by_cases q : j = i
        · subst q; rw [upd_at, if_pos (by omega)]
        · rw [upd_ne q, h2 j]
          by_cases q2 : j < i
          · rw [if_pos q2, if_pos (by omega)]
          · rw [if_neg q2, if_neg (by omega)]
      · unfold s_J_fillB_5
        rw [if_neg (by rw [zI_le (by omega) (by omega) (by omega) (by omega)]; omega), if_pos (inb_t (by omega) (by omega) (by omega)), nm_s, zI_nat (by omega), zI_s])
    D ⟨fun j => by rw [if_neg (by omega)], fun k _ => rfl⟩
  refine ⟨E, ?_, hj, hk⟩
  refine (e (m + 1)).trans ?_
  rw [itr_s]
  unfold s_J_fillB_5
  rw [if_pos ((zI_le (by omega) (by omega) (by omega) (by omega)).mpr (by omega))]
theorem ln_row {r : Nat} (h : r < 6) : ln (111 + 2 * r + 1) = 60 := by
  have : ∀ r, r < 6 → ln (111 + 2 * r + 1) = 60 := by decide +kernel
  exact this r h
theorem ln_txt {r : Nat} (h : r < 4) : ln (123 + 2 * r + 1) = 60 := by
  have : ∀ r, r < 4 → ln (123 + 2 * r + 1) = 60 := by decide +kernel
  exact this r h
/-- a row is set -/
theorem CRep.setRow {D D1 : Dt} {S : SstT} (h : CRep D S) {r : Nat} (hr : r < 6) {w : RwT} (h1 : CRw D1 (111 + 2 * r) w) (hk : ∀ k, k ≠ 111 + 2 * r → k ≠ 111 + 2 * r + 1 → D1 k = D k) : CRep D1 (sRow S r w) := by
  obtain ⟨g1, g2, g3, g4, g5, g6⟩ := h
  refine ⟨fun q hq => ?_, fun t ht => (g2 t ht).congr (hk _ (by omega) (by omega)) (hk _ (by omega) (by omega)), ?_, g4.congr (fun k a b => hk k (by omega) (by omega)), fun k hk2 => ⟨?_, fun z => ((g5 k hk2).2 z).congr (fun j a b => hk j (by omega) (by omega))⟩, ?_⟩
  · show CRw D1 (111 + 2 * q) (fu S.1 r w q)
    by_cases e : q = r
    · subst e; rw [fu_at]; exact h1
    · rw [fu_ne e]; exact (g1 q hq).congr (hk _ (by omega) (by omega)) (hk _ (by omega) (by omega))
  · rw [hk 0 (by omega) (by omega), hk 110 (by omega) (by omega)]; exact g3
  · rw [hk 19 (by omega) (by omega)]; exact (g5 k hk2).1
  · rw [hk 34 (by omega) (by omega), hk 35 (by omega) (by omega), hk 37 (by omega) (by omega)]; exact g6
theorem CRep.setTxt {D D1 : Dt} {S : SstT} (h : CRep D S) {r : Nat} (hr : r < 4) {w : RwT} (h1 : CRw D1 (123 + 2 * r) w) (hk : ∀ k, k ≠ 123 + 2 * r → k ≠ 123 + 2 * r + 1 → D1 k = D k) : CRep D1 (sTxt S r w) := by
  obtain ⟨g1, g2, g3, g4, g5, g6⟩ := h
  refine ⟨fun t ht => (g1 t ht).congr (hk _ (by omega) (by omega)) (hk _ (by omega) (by omega)), fun q hq => ?_, ?_, g4.congr (fun k a b => hk k (by omega) (by omega)), fun k hk2 => ⟨?_, fun z => ((g5 k hk2).2 z).congr (fun j a b => hk j (by omega) (by omega))⟩, ?_⟩
  · show CRw D1 (123 + 2 * q) (fu S.2.1 r w q)
    by_cases e : q = r
    · subst e; rw [fu_at]; exact h1
    · rw [fu_ne e]; exact (g2 q hq).congr (hk _ (by omega) (by omega)) (hk _ (by omega) (by omega))
  · rw [hk 0 (by omega) (by omega), hk 110 (by omega) (by omega)]; exact g3
  · rw [hk 19 (by omega) (by omega)]; exact (g5 k hk2).1
  · rw [hk 34 (by omega) (by omega), hk 35 (by omega) (by omega), hk 37 (by omega) (by omega)]; exact g6
/-- what the rows, texts always are -/
def Ok1 (S : SstT) : Prop := (∀ r, r < 6 → rwOk (S.1 r)) ∧ ∀ t, t < 4 → rwOk (S.2.1 t)
theorem MRw.keep {z f z1 f1 : Nat → Int32} {q : Nat} {w : RwT} (h : MRw z f q w) (hw : rwOk w) (h1 : z1 q = z q) (h2 : ∀ i, i < 60 → f1 (60 * q + i) = f (60 * q + i)) : MRw z1 f1 q w := by
  obtain ⟨g1, g2⟩ := h
  refine ⟨by rw [h1]; exact g1, fun i hi => ?_⟩
  rw [h2 i (by have := hw.2; omega)]
  exact g2 i hi
theorem MRep.setRow {D D1 : Dt} {S : SstT} (h : MRep D S) (ho : Ok1 S) {r : Nat} {w : RwT} (h1 : MRw (D1 178) (D1 179) r w) (h2 : ∀ q, q < 6 → q ≠ r → D1 178 q = D 178 q) (h3 : ∀ q i, q < 6 → q ≠ r → i < 60 → D1 179 (60 * q + i) = D 179 (60 * q + i)) (hk : ∀ k, k ≠ 178 → k ≠ 179 → mIds k = true → D1 k = D k) (hs : ∀ j, mSl j = true → D1 176 j = D 176 j) : MRep D1 (sRow S r w) := by
  have e : ∀ k, (k = 177 ∨ k = 181 ∨ k = 182 ∨ (183 ≤ k ∧ k ≤ 187) ∨ k = 189 ∨ (192 ≤ k ∧ k ≤ 199)) → D1 k = D k := fun k q => hk k (by omega) (by omega) (by simp only [mIds, Bool.or_eq_true, Bool.and_eq_true, decide_eq_true_eq, beq_iff_eq]; omega)
  obtain ⟨g1, g2, g3, g4, g5⟩ := h
  refine ⟨fun q hq => ?_, ?_, ?_, ⟨g4.1.congr (hs 8 rfl) (hs 9 rfl) (hs 10 rfl) (fun k a b => e k (by omega)), ?_, ?_, ?_⟩, ?_⟩
  · show MRw (D1 178) (D1 179) q (fu S.1 r w q)
    by_cases z : q = r
    · subst z; rw [fu_at]; exact h1
    · rw [fu_ne z]; exact (g1 q hq).keep (ho.1 q hq) (h2 q hq z) (fun i hi => h3 q i hq z hi)
  · rw [e 181 (by omega), e 182 (by omega)]; exact g2
  · rw [hs 0 rfl, hs 2 rfl, e 177 (by omega)]; exact g3
  · rw [e 189 (by omega)]; exact g4.2.1
  · rw [hs 26 rfl]; exact g4.2.2.1
  · rw [e 192 (by omega)]; exact g4.2.2.2
  · unfold MKep
    rw [e 193 (by omega), e 194 (by omega), e 195 (by omega), e 196 (by omega), e 197 (by omega), e 198 (by omega), e 199 (by omega)]; exact g5
theorem MRep.setTxt {D D1 : Dt} {S : SstT} (h : MRep D S) (ho : Ok1 S) {r : Nat} {w : RwT} (h1 : MRw (D1 181) (D1 182) r w) (h2 : ∀ q, q < 4 → q ≠ r → D1 181 q = D 181 q) (h3 : ∀ q i, q < 4 → q ≠ r → i < 60 → D1 182 (60 * q + i) = D 182 (60 * q + i)) (hk : ∀ k, k ≠ 181 → k ≠ 182 → D1 k = D k) : MRep D1 (sTxt S r w) := by
  obtain ⟨g1, g2, g3, g4, g5⟩ := h
  refine ⟨?_, fun q hq => ?_, ?_, ⟨g4.1.congr ?_ ?_ ?_ (fun k a b => hk k (by omega) (by omega)), ?_, ?_, ?_⟩, ?_⟩
  · rw [hk 178 (by omega) (by omega), hk 179 (by omega) (by omega)]; exact g1
  · show MRw (D1 181) (D1 182) q (fu S.2.1 r w q)
    by_cases z : q = r
    · subst z; rw [fu_at]; exact h1
    · rw [fu_ne z]; exact (g2 q hq).keep (ho.2 q hq) (h2 q hq z) (fun i hi => h3 q i hq z hi)
  · rw [hk 176 (by omega) (by omega), hk 177 (by omega) (by omega)]; exact g3
  · rw [hk 176 (by omega) (by omega)]
  · rw [hk 176 (by omega) (by omega)]
  · rw [hk 176 (by omega) (by omega)]
  · rw [hk 189 (by omega) (by omega)]; exact g4.2.1
  · rw [hk 176 (by omega) (by omega)]; exact g4.2.2.1
  · rw [hk 192 (by omega) (by omega)]; exact g4.2.2.2
  · unfold MKep
    rw [hk 193 (by omega) (by omega), hk 194 (by omega) (by omega), hk 195 (by omega) (by omega), hk 196 (by omega) (by omega), hk 197 (by omega) (by omega), hk 198 (by omega) (by omega), hk 199 (by omega) (by omega)]; exact g5
/-! row -/
def sp_row (v1 v2 : Int32) (S : SstT) : Int32 × SstT := if wi v1 0 5 = true ∧ v2.toInt ≤ 60 then (if 0 ≤ v2.toInt then (v2, sRow S v1.toInt.toNat (v2.toInt, fun _ => 0)) else (-3, sFind S 5)) else (-1, S)
theorem k_row {D : Dt} {S : SstT} (h : CRep D S) (v1 v2 : Int32) : CDo (f_Root_row v1 v2 D) D (sp_row v1 v2 S).1 (sp_row v1 v2 S).2 := by
  unfold f_Root_row sp_row
  simp only [c_isRow, bnd_s, zo_if, Int32.le_iff_toInt_le, tl]
  by_cases h1 : wi v1 0 5 = true
  · by_cases h2 : v2.toInt ≤ 60
    · by_cases h3 : 0 ≤ v2.toInt
      · simp only [h1, h2, h3, and_self, if_true]
        obtain ⟨r, hr, -, rfl⟩ := wi_nat h1 (by omega)
        have hr : r < 6 := by omega
        rw [if_pos (inb_t (by omega) (by omega) (by omega)), zI_nat (by omega), zI_toInt (by omega) (by omega)]
        unfold f_Row_begin
        obtain ⟨D1, e1, e2, e3⟩ := fillI_ok (111 + 2 * r + 1) 0 D (by rw [ln_row hr]; omega)
        rw [e1]
        simp only [bnd_s, nm_s]
        refine ⟨_, rfl, h.setRow hr ⟨by rw [wr_at, upd_at, zI_self], fun i hi => ?_⟩ (fun k a b => by rw [wr_ne a, e3 k b]), fun k hk => by rw [wr_ne (by omega), e3 k (by omega)]⟩
        rw [wr_ne (by omega), e2, ln_row hr, if_pos]
        simp only at hi
        omega
      · simp only [h1, h2, h3, and_self, if_true, if_false]
        exact (c_find h 5 (by omega)).ret
    · simp only [h1, h2, and_false, if_true, if_false]
      exact CDo.same h _
  · simp only [h1, false_and, if_false, Bool.false_eq_true]
    exact CDo.same h _
