/-! an hour, as numbers -/
abbrev kK (B : BedT) (i : Nat) : Int := B.2.2.2.1 i
abbrev fF (B : BedT) (i : Nat) : Int := B.2.2.2.2.1 i
abbrev sS (B : BedT) (i : Nat) : Int := B.2.2.2.2.2.1 i
abbrev rR (B : BedT) (i : Nat) : Int := B.2.2.2.2.2.2.1 i
abbrev hH (B : BedT) (i : Nat) : Int := B.2.2.2.2.2.2.2 i
def nxtZ (B : BedT) (a : Nat → Int) (i : Nat) : Int := if i + 1 < B.1 then fF B (i + 1) + a (i + 1) else B.2.2.1
def drpZ (B : BedT) (a : Nat → Int) (i : Nat) : Int := fF B i + a i - nxtZ B a i
def halfZ (B : BedT) (a : Nat → Int) (i : Nat) : Int := if drpZ B a i ≤ 0 then 0 else min ((drpZ B a i + 1) / 2) (a i)
def runZ (B : BedT) (a : Nat → Int) (i : Nat) : Int := if hH B i = 1 then 0 else if kK B i = 3 ∨ kK B i = 5 then min (halfZ B a i) 2 else halfZ B a i
def grdZ (k r : Int) : Int := if k = 4 then r / 2 else if k = 1 ∧ 2 ≤ r then 1 else 0
abbrev RdT : Type := (Nat → Int) × (Nat → Int) × Int × (Nat → Int)
def rdS (B : BedT) (i : Nat) (x : RdT) : RdT :=
  (if i + 1 < B.1 then fu (fu x.1 i (x.1 i - runZ B x.1 i)) (i + 1) (x.1 (i + 1) + runZ B x.1 i) else fu x.1 i (x.1 i - runZ B x.1 i), fu x.2.1 i (x.2.1 i + grdZ (kK B i) (runZ B x.1 i)), if i + 1 < B.1 then x.2.2.1 else x.2.2.1 + runZ B x.1 i, fu x.2.2.2 i (runZ B x.1 i))
def rdN (B : BedT) : Nat → RdT → RdT
  | 0, x => x
  | i + 1, x => rdS B i (rdN B i x)
def opA (B : BedT) (op : Nat) (W : WatT) : Nat → Int := if op = 1 then fu W.1 0 (W.1 0 + B.2.1) else W.1
def rdW (B : BedT) (op : Nat) (W : WatT) : RdT := rdN B B.1 (opA B op W, W.2.2.1, W.2.2.2.2, fun _ => 0)
def gotZ (B : BedT) (op : Nat) (W : WatT) (i : Nat) : Int := if i < B.1 then min (max ((rdW B op W).1 i - sS B i) 0) (rR B i - W.2.1 i) else 0
def hrW (B : BedT) (op : Nat) (W : WatT) : WatT := (fun i => (rdW B op W).1 i - gotZ B op W i, fun i => W.2.1 i + gotZ B op W i, (rdW B op W).2.1, if op = 1 then W.2.2.2.1 + B.2.1 else W.2.2.2.1, (rdW B op W).2.2.1)
def sum8 (a : Nat → Int) : Int := a 0 + a 1 + a 2 + a 3 + a 4 + a 5 + a 6 + a 7
theorem sum8_fu (a : Nat → Int) {i : Nat} (h : i < 8) (v : Int) : sum8 (fu a i v) = sum8 a - a i + v := by
  unfold sum8 fu
  rcases (show i = 0 ∨ i = 1 ∨ i = 2 ∨ i = 3 ∨ i = 4 ∨ i = 5 ∨ i = 6 ∨ i = 7 by omega) with rfl | rfl | rfl | rfl | rfl | rfl | rfl | rfl <;> simp <;> omega
theorem le_sum8 {a : Nat → Int} (h0 : ∀ i, 0 ≤ a i) {i : Nat} (h : i < 8) : a i ≤ sum8 a := by
  unfold sum8
  have := h0 0; have := h0 1; have := h0 2; have := h0 3; have := h0 4; have := h0 5; have := h0 6; have := h0 7
  rcases (show i = 0 ∨ i = 1 ∨ i = 2 ∨ i = 3 ∨ i = 4 ∨ i = 5 ∨ i = 6 ∨ i = 7 by omega) with rfl | rfl | rfl | rfl | rfl | rfl | rfl | rfl <;> omega
def BOk (B : BedT) : Prop := B.1 ≤ 8 ∧ (0 ≤ B.2.1 ∧ B.2.1 ≤ 9) ∧ (0 ≤ B.2.2.1 ∧ B.2.2.1 ≤ 9) ∧ ∀ i, i < B.1 → (0 ≤ kK B i ∧ kK B i ≤ 5) ∧ (0 ≤ fF B i ∧ fF B i ≤ 9) ∧ (0 ≤ sS B i ∧ sS B i ≤ 100) ∧ (0 ≤ rR B i ∧ rR B i ≤ 9) ∧ (hH B i = 0 ∨ hH B i = 1)
/-- water: none behind the last house, cellars within their rooms, at most T ahead of all houses -/
def WOk (B : BedT) (W : WatT) (T : Int) : Prop := (∀ i, 0 ≤ W.1 i) ∧ (∀ i, B.1 ≤ i → W.1 i = 0 ∧ W.2.1 i = 0 ∧ W.2.2.1 i = 0) ∧ (∀ i, i < B.1 → 0 ≤ W.2.1 i ∧ W.2.1 i ≤ rR B i) ∧ sum8 W.1 ≤ T
theorem runZ_ok {B : BedT} {a : Nat → Int} {i : Nat} (h0 : 0 ≤ a i) : 0 ≤ runZ B a i ∧ runZ B a i ≤ a i := by
  have hh : 0 ≤ halfZ B a i ∧ halfZ B a i ≤ a i := by
    unfold halfZ
    by_cases c : drpZ B a i ≤ 0
    · rw [if_pos c]; omega
    · rw [if_neg c]; omega
  unfold runZ
  by_cases c1 : hH B i = 1
  · rw [if_pos c1]; omega
  · rw [if_neg c1]
    by_cases c2 : kK B i = 3 ∨ kK B i = 5
    · rw [if_pos c2]; omega
    · rw [if_neg c2]; exact hh
theorem grdZ_ok {k r : Int} (h0 : 0 ≤ r) : 0 ≤ grdZ k r ∧ grdZ k r ≤ r := by
  unfold grdZ
  by_cases c : k = 4
  · rw [if_pos c]; omega
  · rw [if_neg c]
    by_cases c2 : k = 1 ∧ 2 ≤ r
    · rw [if_pos c2]; omega
    · rw [if_neg c2]; omega
/-- on the way down -/
def RdOk (B : BedT) (x0 : RdT) (T : Int) (x : RdT) : Prop := (∀ j, 0 ≤ x.1 j) ∧ (∀ j, B.1 ≤ j → x.1 j = 0) ∧ sum8 x.1 + x.2.2.1 = T + x0.2.2.1 ∧ x0.2.2.1 ≤ x.2.2.1 ∧ (∀ j, B.1 ≤ j → x.2.1 j = x0.2.1 j)
theorem rdN_ok {B : BedT} (hB : B.1 ≤ 8) {x0 : RdT} (h0 : ∀ j, 0 ≤ x0.1 j) (h1 : ∀ j, B.1 ≤ j → x0.1 j = 0) : ∀ i, i ≤ B.1 → RdOk B x0 (sum8 x0.1) (rdN B i x0) ∧ (∀ j, i ≤ j → (rdN B i x0).2.1 j = x0.2.1 j) ∧ (∀ j, x0.2.1 j ≤ (rdN B i x0).2.1 j ∧ (rdN B i x0).2.1 j ≤ x0.2.1 j + sum8 x0.1) := by
  intro i
  induction i with
  | zero =>
    intro _
    have hs : 0 ≤ sum8 x0.1 := Int.le_trans (h0 0) (le_sum8 h0 (by omega))
    exact ⟨⟨h0, h1, rfl, by show x0.2.2.1 ≤ x0.2.2.1; omega, fun _ _ => rfl⟩, fun _ _ => rfl, fun j => ⟨Int.le_refl _, by show x0.2.1 j ≤ _; omega⟩⟩
  | succ i ih =>
    intro hi
    obtain ⟨⟨g1, g2, g3, g4, g5⟩, g6, g7⟩ := ih (by omega)
    show RdOk B x0 (sum8 x0.1) (rdS B i (rdN B i x0)) ∧ (∀ j, i + 1 ≤ j → (rdS B i (rdN B i x0)).2.1 j = x0.2.1 j) ∧ (∀ j, x0.2.1 j ≤ (rdS B i (rdN B i x0)).2.1 j ∧ (rdS B i (rdN B i x0)).2.1 j ≤ x0.2.1 j + sum8 x0.1)
    generalize rdN B i x0 = x at *
    obtain ⟨r1, r2⟩ := runZ_ok (B := B) (a := x.1) (i := i) (g1 i)
    obtain ⟨q1, q2⟩ := grdZ_ok (k := kK B i) r1
    have hle := le_sum8 g1 (show i < 8 by omega)
    unfold rdS
    generalize runZ B x.1 i = r at *
    refine ⟨⟨fun j => ?_, fun j hj => ?_, ?_, ?_, fun j hj => ?_⟩, fun j hj => ?_, fun j => ?_⟩
    · show 0 ≤ (if i + 1 < B.1 then fu (fu x.1 i (x.1 i - r)) (i + 1) (x.1 (i + 1) + r) else fu x.1 i (x.1 i - r)) j
      have e1 := g1 j
      have e2 := g1 (i + 1)
      by_cases c : i + 1 < B.1
      · rw [if_pos c]; unfold fu
        by_cases d : j = i + 1
        · rw [if_pos d]; omega
        · rw [if_neg d]
          by_cases d2 : j = i
          · rw [if_pos d2]; omega
          · rw [if_neg d2]; exact e1
      · rw [if_neg c]; unfold fu
        by_cases d2 : j = i
        · rw [if_pos d2]; omega
        · rw [if_neg d2]; exact e1
    · show (if i + 1 < B.1 then fu (fu x.1 i (x.1 i - r)) (i + 1) (x.1 (i + 1) + r) else fu x.1 i (x.1 i - r)) j = 0
      by_cases c : i + 1 < B.1
      · rw [if_pos c, fu_ne (by omega), fu_ne (by omega)]; exact g2 j hj
      · rw [if_neg c, fu_ne (by omega)]; exact g2 j hj
    · show sum8 (if i + 1 < B.1 then fu (fu x.1 i (x.1 i - r)) (i + 1) (x.1 (i + 1) + r) else fu x.1 i (x.1 i - r)) + (if i + 1 < B.1 then x.2.2.1 else x.2.2.1 + r) = _
      by_cases c : i + 1 < B.1
      · rw [if_pos c, if_pos c, sum8_fu _ (by omega), sum8_fu _ (by omega), fu_ne (by omega)]; omega
      · rw [if_neg c, if_neg c, sum8_fu _ (by omega)]; omega
    · show _ ≤ (if i + 1 < B.1 then x.2.2.1 else x.2.2.1 + r)
      by_cases c : i + 1 < B.1
      · rw [if_pos c]; omega
      · rw [if_neg c]; omega
    · show fu x.2.1 i _ j = _
      rw [fu_ne (by omega)]; exact g5 j hj
    · show fu x.2.1 i _ j = _
      rw [fu_ne (by omega)]; exact g6 j (by omega)
    · show x0.2.1 j ≤ fu x.2.1 i (x.2.1 i + grdZ (kK B i) r) j ∧ fu x.2.1 i (x.2.1 i + grdZ (kK B i) r) j ≤ _
      by_cases d : j = i
      · subst d
        rw [fu_at, g6 j (by omega)]
        omega
      · rw [fu_ne d]; exact g7 j
theorem opA_ok {B : BedT} {op : Nat} {W : WatT} {T : Int} (hB : BOk B) (hn : 0 < B.1) (h : WOk B W T) : (∀ j, 0 ≤ opA B op W j) ∧ (∀ j, B.1 ≤ j → opA B op W j = 0) ∧ sum8 (opA B op W) ≤ T + 9 := by
  obtain ⟨h1, h2, h3, h4⟩ := h
  obtain ⟨b1, b2, -⟩ := hB
  unfold opA
  by_cases c : op = 1
  · rw [if_pos c]
    refine ⟨fun j => ?_, fun j hj => ?_, ?_⟩
    · by_cases d : j = 0
      · subst d; rw [fu_at]; have := h1 0; omega
      · rw [fu_ne d]; exact h1 j
    · rw [fu_ne (by omega)]; exact (h2 j hj).1
    · rw [sum8_fu _ (by omega)]; omega
  · rw [if_neg c]
    exact ⟨h1, fun j hj => (h2 j hj).1, by omega⟩
/-- behind an hour -/
theorem hrW_ok {B : BedT} {op : Nat} {W : WatT} {T : Int} (hB : BOk B) (hn : 0 < B.1) (h : WOk B W T) : WOk B (hrW B op W) (T + 9) ∧ (∀ j, 0 ≤ gotZ B op W j ∧ gotZ B op W j ≤ 9) ∧ (∀ j, 0 ≤ (rdW B op W).1 j) ∧ (∀ j, B.1 ≤ j → (rdW B op W).1 j = 0) ∧ sum8 (rdW B op W).1 ≤ T + 9 ∧ (∀ j, W.2.2.1 j ≤ (hrW B op W).2.2.1 j ∧ (hrW B op W).2.2.1 j ≤ W.2.2.1 j + (T + 9)) ∧ W.2.2.2.2 ≤ (hrW B op W).2.2.2.2 ∧ (hrW B op W).2.2.2.2 ≤ W.2.2.2.2 + (T + 9) := by
  obtain ⟨a1, a2, a3⟩ := opA_ok (op := op) hB hn h
  obtain ⟨⟨r1, r2, r3, r4, r5⟩, r6, r7⟩ := rdN_ok (B := B) hB.1 (x0 := (opA B op W, W.2.2.1, W.2.2.2.2, fun _ => 0)) a1 a2 B.1 (Nat.le_refl _)
  simp only at r3 r4 r5 r6 r7
  have hs : 0 ≤ sum8 (rdN B B.1 (opA B op W, W.2.2.1, W.2.2.2.2, fun _ => 0)).1 := Int.le_trans (r1 0) (le_sum8 r1 (by omega))
  have hg : ∀ j, (0 ≤ gotZ B op W j ∧ gotZ B op W j ≤ 9) ∧ gotZ B op W j ≤ (rdW B op W).1 j ∧ (j < B.1 → gotZ B op W j ≤ rR B j - W.2.1 j) ∧ (B.1 ≤ j → gotZ B op W j = 0) := by
    intro j
    have e := r1 j
    have e' : 0 ≤ (rdW B op W).1 j := e
    unfold gotZ
    by_cases c : j < B.1
    · rw [if_pos c]
      have b := (hB.2.2.2 j c).2.2
      have w := h.2.2.1 j c
      refine ⟨⟨by omega, by omega⟩, by omega, fun _ => by omega, fun q => by omega⟩
    · rw [if_neg c]
      exact ⟨⟨by omega, by omega⟩, e', fun q => absurd q c, fun _ => rfl⟩
  refine ⟨⟨fun j => ?_, fun j hj => ⟨?_, ?_, ?_⟩, fun j hj => ?_, ?_⟩, fun j => (hg j).1, r1, r2, ?_, fun j => ?_, r4, ?_⟩
  · show 0 ≤ (rdW B op W).1 j - gotZ B op W j
    have := (hg j).2.1; omega
  · show (rdW B op W).1 j - gotZ B op W j = 0
    rw [(hg j).2.2.2 hj]; have := r2 j hj; show (rdN B B.1 _).1 j - 0 = 0; omega
  · show W.2.1 j + gotZ B op W j = 0
    rw [(hg j).2.2.2 hj, (h.2.1 j hj).2.1]; rfl
  · show (rdW B op W).2.1 j = 0
    exact (r5 j hj).trans (h.2.1 j hj).2.2
  · show 0 ≤ W.2.1 j + gotZ B op W j ∧ W.2.1 j + gotZ B op W j ≤ rR B j
    have := (hg j).2.2.1 hj; have := (hg j).1; have := h.2.2.1 j hj; omega
  · show sum8 (fun i => (rdW B op W).1 i - gotZ B op W i) ≤ T + 9
    have e : sum8 (fun i => (rdW B op W).1 i - gotZ B op W i) ≤ sum8 (rdW B op W).1 := by
      unfold sum8
      have := (hg 0).1.1; have := (hg 1).1.1; have := (hg 2).1.1; have := (hg 3).1.1; have := (hg 4).1.1; have := (hg 5).1.1; have := (hg 6).1.1; have := (hg 7).1.1
      simp only
      omega
    have e2 : sum8 (rdW B op W).1 = sum8 (rdN B B.1 (opA B op W, W.2.2.1, W.2.2.2.2, fun _ => 0)).1 := rfl
    omega
  · have e2 : sum8 (rdW B op W).1 = sum8 (rdN B B.1 (opA B op W, W.2.2.1, W.2.2.2.2, fun _ => 0)).1 := rfl
    omega
  · show W.2.2.1 j ≤ (rdN B B.1 (opA B op W, W.2.2.1, W.2.2.2.2, fun _ => 0)).2.1 j ∧ (rdN B B.1 (opA B op W, W.2.2.1, W.2.2.2.2, fun _ => 0)).2.1 j ≤ _
    have := r7 j; omega
  · show (rdN B B.1 (opA B op W, W.2.2.1, W.2.2.2.2, fun _ => 0)).2.2.1 ≤ _
    omega
