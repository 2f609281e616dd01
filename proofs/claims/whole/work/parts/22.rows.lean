/-! rows and texts, findings -/
def wi (v : Int32) (a b : Int) : Bool := decide (a ≤ v.toInt ∧ v.toInt ≤ b)
theorem wi_nat {v : Int32} {a b : Int} (h : wi v a b = true) (h0 : 0 ≤ a) : ∃ r : Nat, (r : Int) ≤ b ∧ a ≤ (r : Int) ∧ v = zI r := by
  have h := of_decide_eq_true h
  refine ⟨v.toInt.toNat, by omega, by omega, ?_⟩
  have : ((v.toInt.toNat : Nat) : Int) = v.toInt := by omega
  rw [this, zI_self]
theorem wi_eval (v a b : Int32) (D : Dt) : (if v < a then some ((0 : Int32), D) else (if b < v then some (0, D) else some (1, D))) = some (if wi v a.toInt b.toInt = true then 1 else 0, D) := by
  by_cases h1 : v < a
  · rw [if_pos h1, if_neg]
    rw [Int32.lt_iff_toInt_lt] at h1
    simp only [wi, decide_eq_true_eq]; omega
  · rw [if_neg h1]
    by_cases h2 : b < v
    · rw [if_pos h2, if_neg]
      rw [Int32.lt_iff_toInt_lt] at h2
      simp only [wi, decide_eq_true_eq]; omega
    · rw [if_neg h2, if_pos]
      rw [Int32.lt_iff_toInt_lt] at h1 h2
      simp only [wi, decide_eq_true_eq]; omega
theorem c_isWithin (v a b : Int32) (D : Dt) : f_Root_isWithin v a b D = some (if wi v a.toInt b.toInt = true then 1 else 0, D) := wi_eval v a b D
theorem m_in (v a b : Int32) (D : Dt) : f_Model_in v a b D = some (if wi v a.toInt b.toInt = true then 1 else 0, D) := wi_eval v a b D
theorem zo_ok {p : Prop} [Decidable p] (D : Dt) : (if (if p then (1 : Int32) else 0) = 0 ∨ (if p then (1 : Int32) else 0) = 1 then some ((if p then (1 : Int32) else 0), D) else none) = some ((if p then (1 : Int32) else 0), D) := by
  by_cases h : p
  · simp [h]
  · simp [h]
theorem zo_if {α : Type} {p : Prop} [Decidable p] (A B : α) : (if (if p then (1 : Int32) else 0) = 0 then A else B) = if p then B else A := by
  by_cases h : p
  · simp [h]
  · simp [h]
theorem c_isRow (v : Int32) (D : Dt) : f_Root_isRow v D = some (if wi v 0 5 = true then 1 else 0, D) := by
  unfold f_Root_isRow
  rw [c_isWithin, bnd_s]
  exact zo_ok D
theorem c_isText (v : Int32) (D : Dt) : f_Root_isText v D = some (if wi v 0 3 = true then 1 else 0, D) := by
  unfold f_Root_isText
  rw [c_isWithin, bnd_s]
  exact zo_ok D
theorem c_isPlan (v : Int32) (D : Dt) : f_Root_isPlan v D = some (if wi v 0 255 = true then 1 else 0, D) := by
  unfold f_Root_isPlan
  rw [c_isWithin, bnd_s]
  exact zo_ok D
theorem c_isHourOfDay (v : Int32) (D : Dt) : f_Root_isHourOfDay v D = some (if wi v 0 7 = true then 1 else 0, D) := by
  unfold f_Root_isHourOfDay
  rw [c_isWithin, bnd_s]
  exact zo_ok D
theorem m_isRow (v : Int32) (D : Dt) : f_Model_isRow v D = some (if wi v 0 5 = true then 1 else 0, D) := by
  unfold f_Model_isRow
  rw [m_in, bnd_s]
  exact zo_ok D
theorem m_isText (v : Int32) (D : Dt) : f_Model_isText v D = some (if wi v 0 3 = true then 1 else 0, D) := by
  unfold f_Model_isText
  rw [m_in, bnd_s]
  exact zo_ok D
theorem m_isPlan (v : Int32) (D : Dt) : f_Model_isPlan v D = some (if wi v 0 255 = true then 1 else 0, D) := by
  unfold f_Model_isPlan
  rw [m_in, bnd_s]
  exact zo_ok D
/-- what a method of the class does: the answer, the state behind it, the model's cells as they were -/
def CDo (o : Option (Int32 × Dt)) (D : Dt) (x : Int32) (S : SstT) : Prop := ∃ D1, o = some (x, D1) ∧ CRep D1 S ∧ FrC D D1
def MDo (o : Option (Int32 × Dt)) (D : Dt) (x : Int32) (S : SstT) : Prop := ∃ D1, o = some (x, D1) ∧ MRep D1 S ∧ FrM D D1
theorem CDo.same {D : Dt} {S : SstT} (h : CRep D S) (x : Int32) : CDo (some (x, D)) D x S := ⟨D, rfl, h, fun _ _ => rfl⟩
theorem MDo.same {D : Dt} {S : SstT} (h : MRep D S) (x : Int32) : MDo (some (x, D)) D x S := ⟨D, rfl, h, fun _ _ => rfl⟩
theorem CDo.ret {o : Option (Int32 × Dt)} {D : Dt} {x : Int32} {S : SstT} (h : CDo o D x S) : CDo (bnd o (fun a b => some (a, b))) D x S := by
  obtain ⟨D1, rfl, h2⟩ := h
  exact ⟨D1, rfl, h2⟩
theorem MDo.ret {o : Option (Int32 × Dt)} {D : Dt} {x : Int32} {S : SstT} (h : MDo o D x S) : MDo (bnd o (fun a b => some (a, b))) D x S := by
  obtain ⟨D1, rfl, h2⟩ := h
  exact ⟨D1, rfl, h2⟩
theorem c_find {D : Dt} {S : SstT} (h : CRep D S) (c : Nat) (hc : c < 6) : CDo (f_Root_find (zI c) D) D (-3) (sFind S c) := by
  unfold f_Root_find
  simp only [nm_s, inb_t (show (0 : Int) ≤ c by omega) (show (c : Int) < 6 by omega) (by omega), if_true, zI_nat (show c < 2147483648 by omega)]
  refine ⟨_, rfl, ?_, fun k hk => by rw [wr_ne (by omega), wr_ne (by omega)]⟩
  obtain ⟨h1, h2, h3, h4, h5, h6⟩ := h
  refine ⟨fun r hr => (h1 r hr).congr (by rw [wr_ne (by omega), wr_ne (by omega)]) (by rw [wr_ne (by omega), wr_ne (by omega)]), fun r hr => (h2 r hr).congr (by rw [wr_ne (by omega), wr_ne (by omega)]) (by rw [wr_ne (by omega), wr_ne (by omega)]), ⟨?_, fun f hf => ?_, ?_⟩, h4.congr (fun k a b => by rw [wr_ne (by omega), wr_ne (by omega)]), fun k hk => ⟨?_, fun q => ((h5 k hk).2 q).congr (fun j a b => by rw [wr_ne (by omega), wr_ne (by omega)])⟩, ?_⟩
  · rw [wr_ne (by omega), wr_at, upd_at]; rfl
  · rw [wr_at, wr_ne (by omega)]
    by_cases e : f = c
    · subst e; rw [upd_at, h3.2.1 f hf]; exact (fu_at _ _ _).symm
    · rw [upd_ne e, h3.2.1 f hf]; exact (fu_ne e).symm
  · rw [wr_ne (by omega), wr_at, upd_ne (by omega)]; exact h3.2.2
  · rw [wr_ne (by omega), wr_ne (by omega)]; exact (h5 k hk).1
  · rw [wr_ne (by omega), wr_ne (by omega), wr_ne (by omega), wr_ne (by omega), wr_ne (by omega), wr_ne (by omega)]; exact h6
theorem m_meets {D : Dt} {S : SstT} (h : MRep D S) (c : Nat) (hc : c < 6) : MDo (f_Model_meets (zI c) D) D (-3) (sFind S c) := by
  unfold f_Model_meets
  simp only [nm_s, inb_t (show (0 : Int) ≤ c by omega) (show (c : Int) < 6 by omega) (by omega), if_true, zI_nat (show c < 2147483648 by omega)]
  refine ⟨_, rfl, ?_, fun k hk => by rw [wr_ne (by omega), wr_ne (by omega)]⟩
  have h0 : MRep (wr (wr D 176 0 (zI c)) 177 c (D 177 c + 1)) (sFind S c) := by
    obtain ⟨h1, h2, h3, h4, h5⟩ := h
    refine ⟨?_, ?_, ⟨?_, fun f hf => ?_, ?_⟩, ⟨h4.1.congr ?_ ?_ ?_ (fun k a b => by rw [wr_ne (by omega), wr_ne (by omega)]), ?_, ?_, ?_⟩, ?_⟩
    · rw [wr_ne (by omega), wr_ne (by omega), wr_ne (by omega), wr_ne (by omega)]; exact h1
    · rw [wr_ne (by omega), wr_ne (by omega), wr_ne (by omega), wr_ne (by omega)]; exact h2
    · rw [wr_ne (by omega), wr_at, upd_at]; rfl
    · rw [wr_at, wr_ne (by omega)]
      by_cases e : f = c
      · subst e; rw [upd_at, h3.2.1 f hf]; exact (fu_at _ _ _).symm
      · rw [upd_ne e, h3.2.1 f hf]; exact (fu_ne e).symm
    · rw [wr_ne (by omega), wr_at, upd_ne (by omega)]; exact h3.2.2
    · rw [wr_ne (by omega), wr_at, upd_ne (by omega)]
    · rw [wr_ne (by omega), wr_at, upd_ne (by omega)]
    · rw [wr_ne (by omega), wr_at, upd_ne (by omega)]
    · rw [wr_ne (by omega), wr_ne (by omega)]; exact h4.2.1
    · rw [wr_ne (by omega), wr_at, upd_ne (by omega)]; exact h4.2.2.1
    · rw [wr_ne (by omega), wr_ne (by omega)]; exact h4.2.2.2
    · unfold MKep
      simp (disch := omega) only [wr_ne]; exact h5
  rw [wr_ne (show (177 : Nat) ≠ 176 by omega)]
  exact h0
theorem c_tell {D : Dt} {S : SstT} (h : CRep D S) (v x : Int32) : CDo (f_Root_tell v x D) D x (sTell S v) := by
  unfold f_Root_tell
  simp only [nm_s]
  refine ⟨_, rfl, ?_, fun k hk => by rw [wr_ne (by omega)]⟩
  obtain ⟨h1, h2, h3, h4, h5, h6⟩ := h
  refine ⟨fun r hr => (h1 r hr).congr (by rw [wr_ne (by omega)]) (by rw [wr_ne (by omega)]), fun r hr => (h2 r hr).congr (by rw [wr_ne (by omega)]) (by rw [wr_ne (by omega)]), ⟨?_, fun f hf => ?_, ?_⟩, h4.congr (fun k a b => by rw [wr_ne (by omega)]), fun k hk => ⟨?_, fun q => ((h5 k hk).2 q).congr (fun j a b => by rw [wr_ne (by omega)])⟩, ?_⟩
  · rw [wr_at, upd_ne (by omega)]; exact h3.1
  · rw [wr_ne (by omega)]; exact h3.2.1 f hf
  · rw [wr_at, upd_at]; rfl
  · rw [wr_ne (by omega)]; exact (h5 k hk).1
  · simp (disch := omega) only [wr_ne]; exact h6
theorem m_tells {D : Dt} {S : SstT} (h : MRep D S) (v x : Int32) : MDo (f_Model_tells v x D) D x (sTell S v) := by
  unfold f_Model_tells
  simp only [nm_s]
  refine ⟨_, rfl, ?_, fun k hk => by rw [wr_ne (by omega)]⟩
  obtain ⟨h1, h2, h3, h4, h5⟩ := h
  refine ⟨?_, ?_, ⟨?_, fun f hf => ?_, ?_⟩, ⟨h4.1.congr ?_ ?_ ?_ (fun k a b => by rw [wr_ne (by omega)]), ?_, ?_, ?_⟩, ?_⟩
  · simp (disch := omega) only [wr_ne]; exact h1
  · simp (disch := omega) only [wr_ne]; exact h2
  · rw [wr_at, upd_ne (by omega)]; exact h3.1
  · rw [wr_ne (by omega)]; exact h3.2.1 f hf
  · rw [wr_at, upd_at]; rfl
  · rw [wr_at, upd_ne (by omega)]
  · rw [wr_at, upd_ne (by omega)]
  · rw [wr_at, upd_ne (by omega)]
  · rw [wr_ne (by omega)]; exact h4.2.1
  · rw [wr_at, upd_ne (by omega)]; exact h4.2.2.1
  · rw [wr_ne (by omega)]; exact h4.2.2.2
  · unfold MKep
    simp (disch := omega) only [wr_ne]; exact h5
