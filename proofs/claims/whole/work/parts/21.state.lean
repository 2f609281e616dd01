/-! what both hold: the abstract state -/
abbrev RwT : Type := Int × (Nat → Int32)
/-- houses, flow, sea, kinds, floors, sills, rooms, shut -/
abbrev BedT : Type := Nat × Int × Int × (Nat → Int) × (Nat → Int) × (Nat → Int) × (Nat → Int) × (Nat → Int)
/-- ahead, below, ground, in, out -/
abbrev WatT : Type := (Nat → Int) × (Nat → Int) × (Nat → Int) × Int × Int
/-- bed, now, hours, the water ahead of each hour, whether it was open -/
abbrev StrT : Type := BedT × WatT × Nat × (Nat → WatT) × (Nat → Int)
/-- rows, texts, (latest finding, how often, told), street, kept ones -/
abbrev SstT : Type := (Nat → RwT) × (Nat → RwT) × (Int32 × (Nat → Int32) × Int32) × StrT × (Nat → Bool × StrT)
def fu {α : Type} (f : Nat → α) (k : Nat) (v : α) : Nat → α := fun j => if j = k then v else f j
theorem fu_at {α : Type} (f : Nat → α) (k : Nat) (v : α) : fu f k v k = v := if_pos rfl
theorem fu_ne {α : Type} {f : Nat → α} {k j : Nat} {v : α} (h : j ≠ k) : fu f k v j = f j := if_neg h
def sRow (S : SstT) (r : Nat) (w : RwT) : SstT := (fu S.1 r w, S.2)
def sTxt (S : SstT) (t : Nat) (w : RwT) : SstT := (S.1, fu S.2.1 t w, S.2.2)
def sFind (S : SstT) (c : Nat) : SstT := (S.1, S.2.1, (zI c, fu S.2.2.1.2.1 c (S.2.2.1.2.1 c + 1), S.2.2.1.2.2), S.2.2.2)
def sTell (S : SstT) (v : Int32) : SstT := (S.1, S.2.1, (S.2.2.1.1, S.2.2.1.2.1, v), S.2.2.2)
def sStr (S : SstT) (x : StrT) : SstT := (S.1, S.2.1, S.2.2.1, x, S.2.2.2.2)
def sKep (S : SstT) (k : Nat → Bool × StrT) : SstT := (S.1, S.2.1, S.2.2.1, S.2.2.2.1, k)
/-! what the class's cells hold of it -/
def CRw (D : Dt) (a : Nat) (w : RwT) : Prop := D a 1 = zI w.1 ∧ ∀ i : Nat, (i : Int) < w.1 → D (a + 1) i = w.2 i
def BRep (D : Dt) (b : Nat) (B : BedT) : Prop := D b 5 = zI B.1 ∧ (0 < B.1 → D b 6 = zI B.2.1 ∧ D b 7 = zI B.2.2.1) ∧ ∀ j, j < 8 → j < B.1 → D (b + 1) j = zI (B.2.2.2.1 j) ∧ D (b + 2) j = zI (B.2.2.2.2.1 j) ∧ D (b + 3) j = zI (B.2.2.2.2.2.1 j) ∧ D (b + 4) j = zI (B.2.2.2.2.2.2.1 j) ∧ D (b + 5) j = zI (B.2.2.2.2.2.2.2 j)
def WRep (D : Dt) (w : Nat) (W : WatT) : Prop := D w 5 = zI W.2.2.2.1 ∧ D w 6 = zI W.2.2.2.2 ∧ ∀ j, j < 8 → D (w + 1) j = zI (W.1 j) ∧ D (w + 2) j = zI (W.2.1 j) ∧ D (w + 3) j = zI (W.2.2.1 j)
/-- a water within 26 places of a row, from p on -/
def PRep (f : Nat → Int32) (p : Nat) (W : WatT) : Prop := f (p + 24) = zI W.2.2.2.1 ∧ f (p + 25) = zI W.2.2.2.2 ∧ ∀ j, j < 8 → f (p + j) = zI (W.1 j) ∧ f (p + 8 + j) = zI (W.2.1 j) ∧ f (p + 16 + j) = zI (W.2.2.1 j)
def CStr (D : Dt) (a : Nat) (x : StrT) : Prop := BRep D (a + 1) x.1 ∧ WRep D (a + 7) x.2.1 ∧ D a 4 = zI x.2.2.1 ∧ (∀ h, h < x.2.2.1 → PRep (D (a + 13)) (26 * h) (x.2.2.2.1 h) ∧ D (a + 14) h = zI (x.2.2.2.2 h))
def CRep (D : Dt) (S : SstT) : Prop :=
  (∀ r, r < 6 → CRw D (111 + 2 * r) (S.1 r)) ∧ (∀ t, t < 4 → CRw D (123 + 2 * t) (S.2.1 t)) ∧ (D 0 12 = S.2.2.1.1 ∧ (∀ f, f < 6 → D 110 f = S.2.2.1.2.1 f) ∧ D 0 13 = S.2.2.1.2.2) ∧ CStr D 3 S.2.2.2.1 ∧
  (∀ k, k < 3 → D 19 k = zI (if (S.2.2.2.2 k).1 then 1 else 0) ∧ ((S.2.2.2.2 k).1 = true → CStr D (131 + 15 * k) (S.2.2.2.2 k).2)) ∧ (D 34 0 = 0 ∧ D 35 0 = 0 ∧ ∀ j, j < 8 → D 37 j = 0)
/-! what the model's cells hold of it -/
def MRw (z f : Nat → Int32) (r : Nat) (w : RwT) : Prop := z r = zI w.1 ∧ ∀ i : Nat, (i : Int) < w.1 → f (60 * r + i) = w.2 i
def MBed (D : Dt) (B : BedT) : Prop := D 176 10 = zI B.1 ∧ D 176 8 = zI (if B.1 = 0 then 0 else B.2.1) ∧ D 176 9 = zI (if B.1 = 0 then 0 else B.2.2.1) ∧ ∀ j, j < 8 → j < B.1 → D 183 j = zI (B.2.2.2.1 j) ∧ D 184 j = zI (B.2.2.2.2.1 j) ∧ D 185 j = zI (B.2.2.2.2.2.1 j) ∧ D 186 j = zI (B.2.2.2.2.2.2.1 j) ∧ D 187 j = zI (B.2.2.2.2.2.2.2 j)
def MStr (D : Dt) (x : StrT) : Prop := MBed D x.1 ∧ PRep (D 189) 0 x.2.1 ∧ D 176 26 = zI x.2.2.1 ∧ (∀ h, h < x.2.2.1 → PRep (D 192) (27 * h) (x.2.2.2.1 h) ∧ D 192 (27 * h + 26) = zI (x.2.2.2.2 h))
def MKep (D : Dt) (k : Nat) (x : StrT) : Prop := PRep (D 194) (26 * k) x.2.1 ∧ D 193 k = zI x.2.2.1 ∧ D 197 k = zI x.1.2.1 ∧ (∀ j, j < 8 → j < x.1.1 → D 195 (8 * k + j) = zI (x.1.2.2.2.2.2.1 j) ∧ D 196 (8 * k + j) = zI (x.1.2.2.2.2.2.2.2 j)) ∧ (∀ h, h < x.2.2.1 → PRep (D 198) (1620 * k + 27 * h) (x.2.2.2.1 h) ∧ D 198 (1620 * k + (27 * h + 26)) = zI (x.2.2.2.2 h))
def MRep (D : Dt) (S : SstT) : Prop :=
  (∀ r, r < 6 → MRw (D 178) (D 179) r (S.1 r)) ∧ (∀ t, t < 4 → MRw (D 181) (D 182) t (S.2.1 t)) ∧ (D 176 0 = S.2.2.1.1 ∧ (∀ f, f < 6 → D 177 f = S.2.2.1.2.1 f) ∧ D 176 2 = S.2.2.1.2.2) ∧ MStr D S.2.2.2.1 ∧
  (∀ k, k < 3 → ((S.2.2.2.2 k).1 = true → D 199 k = 1 ∧ MKep D k (S.2.2.2.2 k).2) ∧ ((S.2.2.2.2 k).1 = false → D 199 k = 0 ∨ D 193 k = zI (-1)) ∧ (D 199 k = 0 ∨ D 199 k = 1))
/-! what holds of it always -/
def rwOk (w : RwT) : Prop := -1 ≤ w.1 ∧ w.1 ≤ 60
/-! frames -/
def FrC (D D1 : Dt) : Prop := ∀ k, 176 ≤ k → D1 k = D k
def FrM (D D1 : Dt) : Prop := ∀ k, k < 176 → D1 k = D k
theorem CRw.congr {D D1 : Dt} {a : Nat} {w : RwT} (h : CRw D a w) (h1 : D1 a = D a) (h2 : D1 (a + 1) = D (a + 1)) : CRw D1 a w := by
  unfold CRw; rw [h1, h2]; exact h
theorem BRep.congr {D D1 : Dt} {b : Nat} {B : BedT} (h : BRep D b B) (hk : ∀ k, b ≤ k → k ≤ b + 5 → D1 k = D k) : BRep D1 b B := by
  unfold BRep
  rw [hk b (by omega) (by omega), hk (b + 1) (by omega) (by omega), hk (b + 2) (by omega) (by omega), hk (b + 3) (by omega) (by omega), hk (b + 4) (by omega) (by omega), hk (b + 5) (by omega) (by omega)]
  exact h
theorem WRep.congr {D D1 : Dt} {b : Nat} {W : WatT} (h : WRep D b W) (hk : ∀ k, b ≤ k → k ≤ b + 3 → D1 k = D k) : WRep D1 b W := by
  unfold WRep
  rw [hk b (by omega) (by omega), hk (b + 1) (by omega) (by omega), hk (b + 2) (by omega) (by omega), hk (b + 3) (by omega) (by omega)]
  exact h
theorem CStr.congr {D D1 : Dt} {a : Nat} {x : StrT} (h : CStr D a x) (hk : ∀ k, a ≤ k → k ≤ a + 14 → D1 k = D k) : CStr D1 a x := by
  refine ⟨h.1.congr (fun k h1 h2 => hk k (by omega) (by omega)), h.2.1.congr (fun k h1 h2 => hk k (by omega) (by omega)), ?_, ?_⟩
  · rw [hk a (by omega) (by omega)]; exact h.2.2.1
  · rw [hk (a + 13) (by omega) (by omega), hk (a + 14) (by omega) (by omega)]; exact h.2.2.2
/-- which cells the class's picture reads -/
def cIds (k : Nat) : Bool := k == 0 || (decide (3 ≤ k) && decide (k ≤ 17)) || k == 19 || k == 34 || k == 35 || k == 37 || k == 110 || (decide (111 ≤ k) && decide (k < 176))
theorem CRep.congr {D D1 : Dt} {S : SstT} (h : CRep D S) (hk : ∀ k, cIds k = true → D1 k = D k) : CRep D1 S := by
  obtain ⟨h1, h2, h3, h4, h5, h6⟩ := h
  have e : ∀ k, (k = 0 ∨ (3 ≤ k ∧ k ≤ 17) ∨ k = 19 ∨ k = 34 ∨ k = 35 ∨ k = 37 ∨ k = 110 ∨ (111 ≤ k ∧ k < 176)) → D1 k = D k := fun k q => hk k (by simp only [cIds, Bool.or_eq_true, Bool.and_eq_true, decide_eq_true_eq, beq_iff_eq]; omega)
  refine ⟨fun r hr => (h1 r hr).congr (e _ (by omega)) (e _ (by omega)), fun t ht => (h2 t ht).congr (e _ (by omega)) (e _ (by omega)), ?_, h4.congr (fun k a b => e k (by omega)), fun k hk => ⟨?_, fun q => ((h5 k hk).2 q).congr (fun j a b => e j (by omega))⟩, ?_⟩
  · rw [e 0 (by omega), e 110 (by omega)]; exact h3
  · rw [e 19 (by omega)]; exact (h5 k hk).1
  · rw [e 34 (by omega), e 35 (by omega), e 37 (by omega)]; exact h6
theorem MBed.congr {D D1 : Dt} {B : BedT} (h : MBed D B) (h8 : D1 176 8 = D 176 8) (h9 : D1 176 9 = D 176 9) (h10 : D1 176 10 = D 176 10) (hk : ∀ k, 183 ≤ k → k ≤ 187 → D1 k = D k) : MBed D1 B := by
  unfold MBed
  rw [h8, h9, h10, hk 183 (by omega) (by omega), hk 184 (by omega) (by omega), hk 185 (by omega) (by omega), hk 186 (by omega) (by omega), hk 187 (by omega) (by omega)]
  exact h
def mSl (j : Nat) : Bool := j == 0 || j == 2 || j == 8 || j == 9 || j == 10 || j == 26
def mIds (k : Nat) : Bool := k == 177 || k == 178 || k == 179 || k == 181 || k == 182 || (decide (183 ≤ k) && decide (k ≤ 187)) || k == 189 || (decide (192 ≤ k) && decide (k ≤ 199))
theorem MRep.congr {D D1 : Dt} {S : SstT} (h : MRep D S) (hs : ∀ j, mSl j = true → D1 176 j = D 176 j) (hk : ∀ k, mIds k = true → D1 k = D k) : MRep D1 S := by
  obtain ⟨h1, h2, h3, h4, h5⟩ := h
  have e : ∀ k, (k = 177 ∨ k = 178 ∨ k = 179 ∨ k = 181 ∨ k = 182 ∨ (183 ≤ k ∧ k ≤ 187) ∨ k = 189 ∨ (192 ≤ k ∧ k ≤ 199)) → D1 k = D k := fun k q => hk k (by simp only [mIds, Bool.or_eq_true, Bool.and_eq_true, decide_eq_true_eq, beq_iff_eq]; omega)
  refine ⟨?_, ?_, ?_, ⟨h4.1.congr (hs 8 rfl) (hs 9 rfl) (hs 10 rfl) (fun k a b => e k (by omega)), ?_, ?_, ?_⟩, ?_⟩
  · rw [e 178 (by omega), e 179 (by omega)]; exact h1
  · rw [e 181 (by omega), e 182 (by omega)]; exact h2
  · rw [hs 0 rfl, hs 2 rfl, e 177 (by omega)]; exact h3
  · rw [e 189 (by omega)]; exact h4.2.1
  · rw [hs 26 rfl]; exact h4.2.2.1
  · rw [e 192 (by omega)]; exact h4.2.2.2
  · unfold MKep
    rw [e 193 (by omega), e 194 (by omega), e 195 (by omega), e 196 (by omega), e 197 (by omega), e 198 (by omega), e 199 (by omega)]; exact h5
theorem MRep.frC {D D1 : Dt} {S : SstT} (h : MRep D S) (hf : FrC D D1) : MRep D1 S := h.congr (fun j _ => by rw [hf 176 (by omega)]) (fun k hk => hf k (by simp only [mIds, Bool.or_eq_true, Bool.and_eq_true, decide_eq_true_eq, beq_iff_eq] at hk; omega))
theorem CRep.frM {D D1 : Dt} {S : SstT} (h : CRep D S) (hf : FrM D D1) : CRep D1 S := h.congr (fun k hk => hf k (by simp only [cIds, Bool.or_eq_true, Bool.and_eq_true, decide_eq_true_eq, beq_iff_eq] at hk; omega))
