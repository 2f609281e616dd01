/-! waters and beds are copied, saved, loaded -/
theorem tc0 : (0 : Int32).toNatClampNeg = 0 := by decide
theorem tc8 : (8 : Int32).toNatClampNeg = 8 := by decide
theorem cpy0 (f g : Nat → Int32) (n : Nat) {j : Nat} (h : j < n) : va_cpy f g 0 0 n j = f j := by
  unfold va_cpy; rw [if_pos (by omega)]; congr 1; omega
theorem cpy_in (f g : Nat → Int32) {sp dp n j : Nat} (h1 : dp ≤ j) (h2 : j < dp + n) : va_cpy f g sp dp n j = f (sp + (j - dp)) := by
  unfold va_cpy; rw [if_pos ⟨h1, h2⟩]
theorem cpy_out (f g : Nat → Int32) {sp dp n j : Nat} (h : j < dp ∨ dp + n ≤ j) : va_cpy f g sp dp n j = g j := by
  unfold va_cpy; rw [if_neg (by omega)]
/-- Waters.takeFrom -/
theorem c_wTake {D : Dt} {w v : Nat} {W : WatT} (hW : WRep D v W) (hd : w + 5 < v ∨ v + 5 < w) : ∃ D1, f_Waters_takeFrom w v D = some ((), D1) ∧ WRep D1 w W ∧ ∀ k, (k < w ∨ w + 3 < k) → D1 k = D k := by
  obtain ⟨w1, w2, w3⟩ := hW
  unfold f_Waters_takeFrom
  rw [if_pos (by decide), nm_s, if_pos (by decide), nm_s, if_pos (by decide), nm_s, nm_s, nm_s, tc0, tc8]
  refine ⟨_, rfl, ⟨?_, ?_, fun j hj => ⟨?_, ?_, ?_⟩⟩, fun k hk => ?_⟩
  · rw [wr_at, upd_ne (by omega), wr_at, upd_at]; simp (disch := omega) only [st_ne, wr_ne]; exact w1
  · rw [wr_at, upd_at]; simp (disch := omega) only [st_ne, wr_ne]; exact w2
  · simp (disch := omega) only [wr_ne, st_ne, st_at]; rw [cpy0 _ _ _ hj]; exact (w3 j hj).1
  · simp (disch := omega) only [wr_ne, st_ne, st_at]; rw [cpy0 _ _ _ hj]; exact (w3 j hj).2.1
  · simp (disch := omega) only [wr_ne, st_ne, st_at]; rw [cpy0 _ _ _ hj]; exact (w3 j hj).2.2
  · simp (disch := omega) only [wr_ne, st_ne]
/-- Bed.takeFrom -/
theorem c_bTake {D : Dt} {w v : Nat} {B : BedT} (hB : BRep D v B) (hd : w + 5 < v ∨ v + 5 < w) : ∃ D1, f_Bed_takeFrom w v D = some ((), D1) ∧ BRep D1 w B ∧ (∀ j, j < 8 → D1 (w + 4) j = D (v + 4) j) ∧ ∀ k, (k < w ∨ w + 5 < k) → D1 k = D k := by
  obtain ⟨b1, b2, b3⟩ := hB
  unfold f_Bed_takeFrom
  rw [if_pos (by decide), nm_s, if_pos (by decide), nm_s, if_pos (by decide), nm_s, if_pos (by decide), nm_s, if_pos (by decide), nm_s, nm_s, nm_s, nm_s, tc0, tc8]
  refine ⟨_, rfl, ⟨?_, fun hn => ⟨?_, ?_⟩, fun j hj hn => ⟨?_, ?_, ?_, ?_, ?_⟩⟩, fun j hj => ?_, fun k hk => ?_⟩
  · rw [wr_at, upd_ne (by omega), wr_at, upd_ne (by omega), wr_at, upd_at]; simp (disch := omega) only [st_ne, wr_ne]; exact b1
  · rw [wr_at, upd_ne (by omega), wr_at, upd_at]; simp (disch := omega) only [st_ne, wr_ne]; exact (b2 hn).1
  · rw [wr_at, upd_at]; simp (disch := omega) only [st_ne, wr_ne]; exact (b2 hn).2
  · simp (disch := omega) only [wr_ne, st_ne, st_at]; rw [cpy0 _ _ _ hj]; exact (b3 j hj hn).1
  · simp (disch := omega) only [wr_ne, st_ne, st_at]; rw [cpy0 _ _ _ hj]; exact (b3 j hj hn).2.1
  · simp (disch := omega) only [wr_ne, st_ne, st_at]; rw [cpy0 _ _ _ hj]; exact (b3 j hj hn).2.2.1
  · simp (disch := omega) only [wr_ne, st_ne, st_at]; rw [cpy0 _ _ _ hj]; exact (b3 j hj hn).2.2.2.1
  · simp (disch := omega) only [wr_ne, st_ne, st_at]; rw [cpy0 _ _ _ hj]; exact (b3 j hj hn).2.2.2.2
  · simp (disch := omega) only [wr_ne, st_ne, st_at]; rw [cpy0 _ _ _ hj]
  · simp (disch := omega) only [wr_ne, st_ne]
/-- Waters.begin -/
def W0 : WatT := (fun _ => 0, fun _ => 0, fun _ => 0, 0, 0)
theorem c_wBegin {D : Dt} {w : Nat} (hw : kd w = 7) : ∃ D1, f_Waters_begin w D = some ((), D1) ∧ WRep D1 w W0 ∧ ∀ k, (k < w ∨ w + 3 < k) → D1 k = D k := by
  have l1 := (kq_Waters_ahead hw).2
  have l2 := (kq_Waters_below hw).2
  have l3 := (kq_Waters_flour hw).2
  unfold f_Waters_begin
  obtain ⟨E, e1, e2, e3⟩ := fillI_ok (w + 1) 0 D (by omega)
  obtain ⟨F, f1, f2, f3⟩ := fillI_ok (w + 2) 0 E (by omega)
  obtain ⟨K, k1, k2, k3⟩ := fillI_ok (w + 3) 0 F (by omega)
  rw [e1, bnd_s, f1, bnd_s, k1, bnd_s, nm_s, nm_s]
  refine ⟨_, rfl, ⟨?_, ?_, fun j hj => ⟨?_, ?_, ?_⟩⟩, fun k hk => ?_⟩
  · rw [wr_at, upd_ne (by omega), wr_at, upd_at]; rfl
  · rw [wr_at, upd_at]; rfl
  · rw [wr_ne (by omega), wr_ne (by omega), k3 _ (by omega), f3 _ (by omega), e2, l1, if_pos hj]; rfl
  · rw [wr_ne (by omega), wr_ne (by omega), k3 _ (by omega), f2, l2, if_pos hj]; rfl
  · rw [wr_ne (by omega), wr_ne (by omega), k2, l3, if_pos hj]; rfl
  · rw [wr_ne (by omega), wr_ne (by omega), k3 _ (by omega), f3 _ (by omega), e3 _ (by omega)]
/-- Waters.saveTo, at place p of the row a -/
theorem c_save {D : Dt} {w a p : Nat} {W : WatT} (hW : WRep D w W) (hd : a < w ∨ w + 5 < a) (hl : p + 26 ≤ ln a) (hl2 : ln a ≤ 2000) : ∃ D1, f_Waters_saveTo w a (zI p) D = some ((), D1) ∧ PRep (D1 a) p W ∧ (∀ q, (q < p ∨ p + 26 ≤ q) → D1 a q = D a q) ∧ ∀ k, k ≠ a → D1 k = D k := by
  obtain ⟨w1, w2, w3⟩ := hW
  have z8 : zI (p : Int) + 8 = zI ((p + 8 : Nat) : Int) := by rw [show (8 : Int32) = zI 8 from rfl, zI_add]; rfl
  have z16 : zI (p : Int) + 16 = zI ((p + 16 : Nat) : Int) := by rw [show (16 : Int32) = zI 16 from rfl, zI_add]; rfl
  have z24 : zI (p : Int) + 24 = zI ((p + 24 : Nat) : Int) := by rw [show (24 : Int32) = zI 24 from rfl, zI_add]; rfl
  have n0 : ∀ q : Nat, q < 3000 → ¬ zI (q : Int) < 0 := fun q hq => by rw [zI_ltl (by omega) (by omega)]; omega
  unfold f_Waters_saveTo
  rw [z8, z16, z24, zI_s, zI_nat (by omega), zI_nat (by omega), zI_nat (by omega), zI_nat (by omega), zI_nat (by omega), tc0, tc8, if_pos ⟨by decide, n0 _ (by omega), by decide, by omega, by omega⟩, nm_s, if_pos ⟨by decide, n0 _ (by omega), by decide, by omega, by omega⟩, nm_s, if_pos ⟨by decide, n0 _ (by omega), by decide, by omega, by omega⟩, nm_s, if_pos (inb_t (by omega) (by omega) (by omega)), nm_s, if_pos (inb_t (by omega) (by omega) (by omega)), nm_s]
  refine ⟨_, rfl, ⟨?_, ?_, fun j hj => ⟨?_, ?_, ?_⟩⟩, fun q hq => ?_, fun k hk => ?_⟩
  · rw [wr_at, upd_ne (by omega), wr_at, upd_at]; simp (disch := omega) only [st_ne]; exact w1
  · rw [wr_at, show p + 24 + 1 = p + 25 by omega, upd_at]; simp (disch := omega) only [st_ne, wr_ne]; exact w2
  · rw [wr_at, upd_ne (by omega), wr_at, upd_ne (by omega), st_at, cpy_out _ _ (by omega), st_at, cpy_out _ _ (by omega), st_at, cpy_in _ _ (by omega) (by omega), show 0 + (p + j - p) = j by omega]; exact (w3 j hj).1
  · rw [wr_at, upd_ne (by omega), wr_at, upd_ne (by omega), st_at, cpy_out _ _ (by omega), st_at, cpy_in _ _ (by omega) (by omega), show 0 + (p + 8 + j - (p + 8)) = j by omega, st_ne (by omega)]; exact (w3 j hj).2.1
  · rw [wr_at, upd_ne (by omega), wr_at, upd_ne (by omega), st_at, cpy_in _ _ (by omega) (by omega), show 0 + (p + 16 + j - (p + 16)) = j by omega, st_ne (by omega), st_ne (by omega)]; exact (w3 j hj).2.2
  · rw [wr_at, upd_ne (by omega), wr_at, upd_ne (by omega), st_at, cpy_out _ _ (by omega), st_at, cpy_out _ _ (by omega), st_at, cpy_out _ _ (by omega)]
  · simp (disch := omega) only [wr_ne, st_ne]
/-- Waters.loadFrom -/
theorem c_load {D : Dt} {w a p : Nat} {W : WatT} (hW : PRep (D a) p W) (hd : a < w ∨ w + 5 < a) (hl : p + 26 ≤ ln a) (hl2 : ln a ≤ 2000) : ∃ D1, f_Waters_loadFrom w a (zI p) D = some ((), D1) ∧ WRep D1 w W ∧ ∀ k, (k < w ∨ w + 3 < k) → D1 k = D k := by
  obtain ⟨w1, w2, w3⟩ := hW
  have z8 : zI (p : Int) + 8 = zI ((p + 8 : Nat) : Int) := by rw [show (8 : Int32) = zI 8 from rfl, zI_add]; rfl
  have z16 : zI (p : Int) + 16 = zI ((p + 16 : Nat) : Int) := by rw [show (16 : Int32) = zI 16 from rfl, zI_add]; rfl
  have z24 : zI (p : Int) + 24 = zI ((p + 24 : Nat) : Int) := by rw [show (24 : Int32) = zI 24 from rfl, zI_add]; rfl
  have n0 : ∀ q : Nat, q < 3000 → ¬ zI (q : Int) < 0 := fun q hq => by rw [zI_ltl (by omega) (by omega)]; omega
  unfold f_Waters_loadFrom
  rw [z8, z16, z24, zI_s, zI_nat (by omega), zI_nat (by omega), zI_nat (by omega), zI_nat (by omega), zI_nat (by omega), tc0, tc8, if_pos ⟨n0 _ (by omega), by decide, by decide, by omega, by omega⟩, nm_s, if_pos ⟨n0 _ (by omega), by decide, by decide, by omega, by omega⟩, nm_s, if_pos ⟨n0 _ (by omega), by decide, by decide, by omega, by omega⟩, nm_s, if_pos (inb_t (by omega) (by omega) (by omega)), nm_s, if_pos (inb_t (by omega) (by omega) (by omega)), nm_s]
  refine ⟨_, rfl, ⟨?_, ?_, fun j hj => ⟨?_, ?_, ?_⟩⟩, fun k hk => ?_⟩
  · rw [wr_at, upd_ne (by omega), wr_at, upd_at]; simp (disch := omega) only [st_ne]; exact w1
  · rw [wr_at, upd_at]; simp (disch := omega) only [st_ne, wr_ne]; exact w2
  · simp (disch := omega) only [wr_ne, st_ne, st_at]; rw [cpy_in _ _ (by omega) (by omega), show p + (j - 0) = p + j by omega]; exact (w3 j hj).1
  · simp (disch := omega) only [wr_ne, st_ne, st_at]; rw [cpy_in _ _ (by omega) (by omega), show p + 8 + (j - 0) = p + 8 + j by omega]; exact (w3 j hj).2.1
  · simp (disch := omega) only [wr_ne, st_ne, st_at]; rw [cpy_in _ _ (by omega) (by omega), show p + 16 + (j - 0) = p + 16 + j by omega]; exact (w3 j hj).2.2
  · simp (disch := omega) only [wr_ne, st_ne]
/-! what a street always is -/
def InOk (W : WatT) : Prop := 0 ≤ W.2.2.2.1 ∧ W.2.2.2.1 ≤ 100000
def StrOk (x : StrT) : Prop := BOk x.1 ∧ (0 < x.1.1 → 1 ≤ x.1.2.1) ∧ x.2.2.1 ≤ 60 ∧ (WOk x.1 x.2.1 (9 * x.2.2.1) ∧ 0 ≤ x.2.1.2.2.2.1 ∧ x.2.1.2.2.2.1 ≤ 9 * x.2.2.1) ∧ (∀ h, h < x.2.2.1 → (WOk x.1 (x.2.2.2.1 h) (9 * h) ∧ 0 ≤ (x.2.2.2.1 h).2.2.2.1 ∧ (x.2.2.2.1 h).2.2.2.1 ≤ 9 * h) ∧ (x.2.2.2.2 h = 0 ∨ x.2.2.2.2 h = 1)) ∧ (x.1.1 = 0 → x.2.2.1 = 0)
/-- what no call but street changes of a bed -/
def sameBed (A B : BedT) : Prop := A.1 = B.1 ∧ A.2.2.1 = B.2.2.1 ∧ (∀ i, kK A i = kK B i) ∧ (∀ i, fF A i = fF B i) ∧ ∀ i, rR A i = rR B i
def Ok (S : SstT) : Prop := Ok1 S ∧ StrOk S.2.2.2.1 ∧ ∀ k, k < 3 → (S.2.2.2.2 k).1 = true → StrOk (S.2.2.2.2 k).2 ∧ sameBed (S.2.2.2.2 k).2.1 S.2.2.2.1.1 ∧ 0 < S.2.2.2.1.1.1
theorem CRep.setStr {D D1 : Dt} {S : SstT} (h : CRep D S) {x : StrT} (h1 : CStr D1 3 x) (hk : ∀ k, cIds k = true → (k < 3 ∨ 17 < k) → D1 k = D k) : CRep D1 (sStr S x) := by
  have e : ∀ k, (k = 0 ∨ k = 19 ∨ k = 34 ∨ k = 35 ∨ k = 37 ∨ k = 110 ∨ (111 ≤ k ∧ k < 176)) → D1 k = D k := fun k q => hk k (by simp only [cIds, Bool.or_eq_true, Bool.and_eq_true, decide_eq_true_eq, beq_iff_eq]; omega) (by omega)
  obtain ⟨g1, g2, g3, g4, g5, g6⟩ := h
  refine ⟨fun r hr => (g1 r hr).congr (e _ (by omega)) (e _ (by omega)), fun t ht => (g2 t ht).congr (e _ (by omega)) (e _ (by omega)), ?_, h1, fun k hk => ⟨?_, fun q => ((g5 k hk).2 q).congr (fun j a b => e j (by omega))⟩, ?_⟩
  · rw [e 0 (by omega), e 110 (by omega)]; exact g3
  · rw [e 19 (by omega)]; exact (g5 k hk).1
  · rw [e 34 (by omega), e 35 (by omega), e 37 (by omega)]; exact g6
theorem MRep.setStr {D D1 : Dt} {S : SstT} (h : MRep D S) {x : StrT} (h1 : MStr D1 x) (h0 : D1 176 0 = D 176 0) (h2 : D1 176 2 = D 176 2) (hk : ∀ k, mIds k = true → k ≠ 192 → (k < 183 ∨ 189 < k) → D1 k = D k) : MRep D1 (sStr S x) := by
  have e : ∀ k, (k = 177 ∨ k = 178 ∨ k = 179 ∨ k = 181 ∨ k = 182 ∨ (193 ≤ k ∧ k ≤ 199)) → D1 k = D k := fun k q => hk k (by simp only [mIds, Bool.or_eq_true, Bool.and_eq_true, decide_eq_true_eq, beq_iff_eq]; omega) (by omega) (by omega)
  obtain ⟨g1, g2, g3, g4, g5⟩ := h
  refine ⟨?_, ?_, ?_, h1, ?_⟩
  · rw [e 178 (by omega), e 179 (by omega)]; exact g1
  · rw [e 181 (by omega), e 182 (by omega)]; exact g2
  · rw [h0, h2, e 177 (by omega)]; exact g3
  · unfold MKep
    rw [e 193 (by omega), e 194 (by omega), e 195 (by omega), e 196 (by omega), e 197 (by omega), e 198 (by omega), e 199 (by omega)]; exact g5
