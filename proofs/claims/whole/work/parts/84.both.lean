/-! one call on both sides -/
theorem ok_led {S : SstT} (h : OkA S) (v1 : Int32) : OkA (sp_led v1 S).2 := by
  unfold sp_led rfMk
  repeat' split
  all_goals exact h
theorem ok_sure {S : SstT} (h : OkA S) (v1 : Int32) : OkA (sp_sure v1 S).2 := by
  unfold sp_sure rfMk
  repeat' split
  all_goals exact h
theorem ok_look {S : SstT} (h : OkA S) (v1 : Int32) : OkA (sp_look v1 S).2 := by
  unfold sp_look rfMk
  repeat' split
  all_goals exact h
theorem ok_raise {S : SstT} (h : OkA S) (v1 v2 : Int32) : OkA (sp_raise v1 v2 S).2 := by
  have h8 := h.1.2.1.1.1
  unfold sp_raise
  split
  · split
    · split
      · exact h.row _ ⟨by show (-1 : Int) ≤ ((S.2.2.2.1.1.1 : Nat) : Int); omega, by show ((S.2.2.2.1.1.1 : Nat) : Int) ≤ 60; omega⟩
      · exact h
    · exact h
  · exact h
theorem ok_work {S : SstT} (h : OkA S) (v1 v2 v3 : Int32) : OkA (sp_work v1 v2 v3 S).2 := by
  unfold sp_work
  split
  · split
    · next c =>
      obtain ⟨-, -, -, -, q5, -, -, -⟩ := rfJb_0 c
      exact h.row _ ⟨by show (-1 : Int) ≤ ((jN S v1.toInt.toNat : Nat) : Int); omega, by show (((S.1 v1.toInt.toNat).1.toNat : Nat) : Int) ≤ 60; omega⟩
    · unfold rfJb
      repeat' split
      all_goals exact h
  · exact h
theorem ok_done {S : SstT} (h : OkA S) (v1 v2 : Int32) : OkA (sp_done v1 v2 S).2 := by
  unfold sp_done rfJb
  repeat' split
  all_goals exact h
def Inv (D : Dt) : Prop := ∃ S, OkA S ∧ CRep D S ∧ MRep D S
theorem Inv.both {fr fm : Dt → Option (Int32 × Dt)} {D : Dt} {S S' : SstT} {x : Int32} (h1 : CRep D S) (h2 : MRep D S) (k : CDo (fr D) D x S') (q : ∀ D1, MRep D1 S → MDo (fm D1) D1 x S') (ok : OkA S') : ∃ x D1 D2, fr D = some (x, D1) ∧ fm D1 = some (x, D2) ∧ Inv D2 := by
  obtain ⟨D1, a1, a2, a3⟩ := k
  obtain ⟨D2, b1, b2, b3⟩ := q D1 (h2.frC a3)
  exact ⟨x, D1, D2, a1, b1, S', ok, a2.frM b3, b2⟩
theorem both_row {D : Dt} (h : Inv D) (v1 v2 : Int32) : ∃ (x : Int32) (D1 D2 : Dt), f_Root_row v1 v2 D = some (x, D1) ∧ f_Model_row v1 v2 D1 = some (x, D2) ∧ Inv D2 := by
  obtain ⟨S, ho, h1, h2⟩ := h
  exact Inv.both (fr := fun D => f_Root_row v1 v2 D) (fm := fun D => f_Model_row v1 v2 D) h1 h2 (k_row h1 v1 v2) (fun D1 h3 => q_row h3 ho.1.1 v1 v2) (ok_row ho v1 v2)
theorem both_lay {D : Dt} (h : Inv D) (v1 v2 v3 : Int32) : ∃ (x : Int32) (D1 D2 : Dt), f_Root_lay v1 v2 v3 D = some (x, D1) ∧ f_Model_lay v1 v2 v3 D1 = some (x, D2) ∧ Inv D2 := by
  obtain ⟨S, ho, h1, h2⟩ := h
  exact Inv.both (fr := fun D => f_Root_lay v1 v2 v3 D) (fm := fun D => f_Model_lay v1 v2 v3 D) h1 h2 (k_lay h1 ho.1.1 v1 v2 v3) (fun D1 h3 => q_lay h3 ho.1.1 v1 v2 v3) (ok_lay ho v1 v2 v3)
theorem both_at {D : Dt} (h : Inv D) (v1 v2 : Int32) : ∃ (x : Int32) (D1 D2 : Dt), f_Root_at v1 v2 D = some (x, D1) ∧ f_Model_at v1 v2 D1 = some (x, D2) ∧ Inv D2 := by
  obtain ⟨S, ho, h1, h2⟩ := h
  exact Inv.both (fr := fun D => f_Root_at v1 v2 D) (fm := fun D => f_Model_at v1 v2 D) h1 h2 (k_at h1 ho.1.1 v1 v2) (fun D1 h3 => q_at h3 ho.1.1 v1 v2) (ok_at ho v1 v2)
theorem both_tear {D : Dt} (h : Inv D) (v1 : Int32) : ∃ (x : Int32) (D1 D2 : Dt), f_Root_tear v1 D = some (x, D1) ∧ f_Model_tear v1 D1 = some (x, D2) ∧ Inv D2 := by
  obtain ⟨S, ho, h1, h2⟩ := h
  exact Inv.both (fr := fun D => f_Root_tear v1 D) (fm := fun D => f_Model_tear v1 D) h1 h2 (k_tear h1 ho.1.1 v1) (fun D1 h3 => q_tear h3 ho.1.1 v1) (ok_tear ho v1)
theorem both_copy {D : Dt} (h : Inv D) (v1 v2 v3 v4 v5 : Int32) : ∃ (x : Int32) (D1 D2 : Dt), f_Root_copy v1 v2 v3 v4 v5 D = some (x, D1) ∧ f_Model_copy v1 v2 v3 v4 v5 D1 = some (x, D2) ∧ Inv D2 := by
  obtain ⟨S, ho, h1, h2⟩ := h
  exact Inv.both (fr := fun D => f_Root_copy v1 v2 v3 v4 v5 D) (fm := fun D => f_Model_copy v1 v2 v3 v4 v5 D) h1 h2 (k_copy h1 ho.1.1 v1 v2 v3 v4 v5) (fun D1 h3 => q_copy h3 ho.1.1 v1 v2 v3 v4 v5) (ok_copy ho v1 v2 v3 v4 v5)
theorem both_mean {D : Dt} (h : Inv D) (v1 : Int32) : ∃ (x : Int32) (D1 D2 : Dt), f_Root_mean v1 D = some (x, D1) ∧ f_Model_mean v1 D1 = some (x, D2) ∧ Inv D2 := by
  obtain ⟨S, ho, h1, h2⟩ := h
  exact Inv.both (fr := fun D => f_Root_mean v1 D) (fm := fun D => f_Model_mean v1 D) h1 h2 (k_mean h1 ho.1.1 v1) (fun D1 h3 => q_mean h3 ho.1.1 v1) (ok_mean ho v1)
theorem both_text {D : Dt} (h : Inv D) (v1 v2 : Int32) : ∃ (x : Int32) (D1 D2 : Dt), f_Root_text v1 v2 D = some (x, D1) ∧ f_Model_text v1 v2 D1 = some (x, D2) ∧ Inv D2 := by
  obtain ⟨S, ho, h1, h2⟩ := h
  exact Inv.both (fr := fun D => f_Root_text v1 v2 D) (fm := fun D => f_Model_text v1 v2 D) h1 h2 (k_text h1 v1 v2) (fun D1 h3 => q_text h3 ho.1.1 v1 v2) (ok_text ho v1 v2)
theorem both_put {D : Dt} (h : Inv D) (v1 v2 v3 : Int32) : ∃ (x : Int32) (D1 D2 : Dt), f_Root_put v1 v2 v3 D = some (x, D1) ∧ f_Model_put v1 v2 v3 D1 = some (x, D2) ∧ Inv D2 := by
  obtain ⟨S, ho, h1, h2⟩ := h
  exact Inv.both (fr := fun D => f_Root_put v1 v2 v3 D) (fm := fun D => f_Model_put v1 v2 v3 D) h1 h2 (k_put h1 ho.1.1 v1 v2 v3) (fun D1 h3 => q_put h3 ho.1.1 v1 v2 v3) (ok_put ho v1 v2 v3)
theorem both_fault {D : Dt} (h : Inv D) (v1 : Int32) : ∃ (x : Int32) (D1 D2 : Dt), f_Root_fault v1 D = some (x, D1) ∧ f_Model_fault v1 D1 = some (x, D2) ∧ Inv D2 := by
  obtain ⟨S, ho, h1, h2⟩ := h
  exact Inv.both (fr := fun D => f_Root_fault v1 D) (fm := fun D => f_Model_fault v1 D) h1 h2 (k_fault h1 ho.1 v1) (fun D1 h3 => q_fault h3 ho.1 v1) (ok_fault ho v1)
theorem both_street {D : Dt} (h : Inv D) (v1 : Int32) : ∃ (x : Int32) (D1 D2 : Dt), f_Root_street v1 D = some (x, D1) ∧ f_Model_street v1 D1 = some (x, D2) ∧ Inv D2 := by
  obtain ⟨S, ho, h1, h2⟩ := h
  exact Inv.both (fr := fun D => f_Root_street v1 D) (fm := fun D => f_Model_street v1 D) h1 h2 (k_street h1 ho.1 v1) (fun D1 h3 => q_street h3 ho.1 v1) (ok_street ho v1)
theorem both_house {D : Dt} (h : Inv D) (v1 v2 : Int32) : ∃ (x : Int32) (D1 D2 : Dt), f_Root_house v1 v2 D = some (x, D1) ∧ f_Model_house v1 v2 D1 = some (x, D2) ∧ Inv D2 := by
  obtain ⟨S, ho, h1, h2⟩ := h
  exact Inv.both (fr := fun D => f_Root_house v1 v2 D) (fm := fun D => f_Model_house v1 v2 D) h1 h2 (k_house h1 ho.1 v1 v2) (fun D1 h3 => q_house h3 ho.1 v1 v2) (ok_house ho v1 v2)
theorem both_mark {D : Dt} (h : Inv D) (v1 v2 : Int32) : ∃ (x : Int32) (D1 D2 : Dt), f_Root_mark v1 v2 D = some (x, D1) ∧ f_Model_mark v1 v2 D1 = some (x, D2) ∧ Inv D2 := by
  obtain ⟨S, ho, h1, h2⟩ := h
  exact Inv.both (fr := fun D => f_Root_mark v1 v2 D) (fm := fun D => f_Model_mark v1 v2 D) h1 h2 (k_mark h1 ho.1 v1 v2) (fun D1 h3 => q_mark h3 ho.1 v1 v2) (ok_mark ho v1 v2)
theorem both_sill {D : Dt} (h : Inv D) (v1 v2 : Int32) : ∃ (x : Int32) (D1 D2 : Dt), f_Root_sill v1 v2 D = some (x, D1) ∧ f_Model_sill v1 v2 D1 = some (x, D2) ∧ Inv D2 := by
  obtain ⟨S, ho, h1, h2⟩ := h
  exact Inv.both (fr := fun D => f_Root_sill v1 v2 D) (fm := fun D => f_Model_sill v1 v2 D) h1 h2 (k_sill h1 ho.1 v1 v2) (fun D1 h3 => q_sill h3 ho.1 v1 v2) (ok_sill ho v1 v2)
theorem both_flow {D : Dt} (h : Inv D) (v1 : Int32) : ∃ (x : Int32) (D1 D2 : Dt), f_Root_flow v1 D = some (x, D1) ∧ f_Model_flow v1 D1 = some (x, D2) ∧ Inv D2 := by
  obtain ⟨S, ho, h1, h2⟩ := h
  exact Inv.both (fr := fun D => f_Root_flow v1 D) (fm := fun D => f_Model_flow v1 D) h1 h2 (k_flow h1 ho.1 v1) (fun D1 h3 => q_flow h3 ho.1 v1) (ok_flow ho v1)
theorem both_shut {D : Dt} (h : Inv D) (v1 v2 : Int32) : ∃ (x : Int32) (D1 D2 : Dt), f_Root_shut v1 v2 D = some (x, D1) ∧ f_Model_shut v1 v2 D1 = some (x, D2) ∧ Inv D2 := by
  obtain ⟨S, ho, h1, h2⟩ := h
  exact Inv.both (fr := fun D => f_Root_shut v1 v2 D) (fm := fun D => f_Model_shut v1 v2 D) h1 h2 (k_shut h1 ho.1 v1 v2) (fun D1 h3 => q_shut h3 ho.1 v1 v2) (ok_shut ho v1 v2)
theorem both_pump {D : Dt} (h : Inv D) (v1 : Int32) : ∃ (x : Int32) (D1 D2 : Dt), f_Root_pump v1 D = some (x, D1) ∧ f_Model_pump v1 D1 = some (x, D2) ∧ Inv D2 := by
  obtain ⟨S, ho, h1, h2⟩ := h
  exact Inv.both (fr := fun D => f_Root_pump v1 D) (fm := fun D => f_Model_pump v1 D) h1 h2 (k_pump h1 ho.1 v1) (fun D1 h3 => q_pump h3 ho.1 v1) (ok_pump ho v1)
theorem both_hour {D : Dt} (h : Inv D) (v1 : Int32) : ∃ (x : Int32) (D1 D2 : Dt), f_Root_hour v1 D = some (x, D1) ∧ f_Model_hour v1 D1 = some (x, D2) ∧ Inv D2 := by
  obtain ⟨S, ho, h1, h2⟩ := h
  exact Inv.both (fr := fun D => f_Root_hour v1 D) (fm := fun D => f_Model_hour v1 D) h1 h2 (k_hour h1 ho.1 v1) (fun D1 h3 => q_hour h3 ho.1 v1) (ok_hour ho v1)
theorem both_undo {D : Dt} (h : Inv D) (v1 : Int32) : ∃ (x : Int32) (D1 D2 : Dt), f_Root_undo v1 D = some (x, D1) ∧ f_Model_undo v1 D1 = some (x, D2) ∧ Inv D2 := by
  obtain ⟨S, ho, h1, h2⟩ := h
  exact Inv.both (fr := fun D => f_Root_undo v1 D) (fm := fun D => f_Model_undo v1 D) h1 h2 (k_undo h1 ho.1 v1) (fun D1 h3 => q_undo h3 ho.1 v1) (ok_undo ho v1)
theorem both_water {D : Dt} (h : Inv D) : ∃ (x : Int32) (D1 D2 : Dt), f_Root_water D = some (x, D1) ∧ f_Model_water D1 = some (x, D2) ∧ Inv D2 := by
  obtain ⟨S, ho, h1, h2⟩ := h
  exact Inv.both (fr := fun D => f_Root_water D) (fm := fun D => f_Model_water D) h1 h2 (k_water h1) (fun D1 h3 => q_water h3) (ok_water ho)
theorem both_keep {D : Dt} (h : Inv D) (v1 : Int32) : ∃ (x : Int32) (D1 D2 : Dt), f_Root_keep v1 D = some (x, D1) ∧ f_Model_keep v1 D1 = some (x, D2) ∧ Inv D2 := by
  obtain ⟨S, ho, h1, h2⟩ := h
  exact Inv.both (fr := fun D => f_Root_keep v1 D) (fm := fun D => f_Model_keep v1 D) h1 h2 (k_keep h1 ho.1 v1) (fun D1 h3 => q_keep h3 ho.1 v1) (ok_keep ho v1)
theorem both_on {D : Dt} (h : Inv D) (v1 : Int32) : ∃ (x : Int32) (D1 D2 : Dt), f_Root_on v1 D = some (x, D1) ∧ f_Model_on v1 D1 = some (x, D2) ∧ Inv D2 := by
  obtain ⟨S, ho, h1, h2⟩ := h
  exact Inv.both (fr := fun D => f_Root_on v1 D) (fm := fun D => f_Model_on v1 D) h1 h2 (k_on h1 ho.1 v1) (fun D1 h3 => q_on h3 ho.1 v1) (ok_on ho v1)
theorem both_harm {D : Dt} (h : Inv D) (v1 : Int32) : ∃ (x : Int32) (D1 D2 : Dt), f_Root_harm v1 D = some (x, D1) ∧ f_Model_harm v1 D1 = some (x, D2) ∧ Inv D2 := by
  obtain ⟨S, ho, h1, h2⟩ := h
  exact Inv.both (fr := fun D => f_Root_harm v1 D) (fm := fun D => f_Model_harm v1 D) h1 h2 (k_harm h1 ho.1 v1) (fun D1 h3 => q_harm h3 ho.1 v1) (ok_harm ho v1)
theorem both_wet {D : Dt} (h : Inv D) (v1 : Int32) : ∃ (x : Int32) (D1 D2 : Dt), f_Root_wet v1 D = some (x, D1) ∧ f_Model_wet v1 D1 = some (x, D2) ∧ Inv D2 := by
  obtain ⟨S, ho, h1, h2⟩ := h
  exact Inv.both (fr := fun D => f_Root_wet v1 D) (fm := fun D => f_Model_wet v1 D) h1 h2 (k_wet h1 ho.1 v1) (fun D1 h3 => q_wet h3 ho.1 v1) (ok_wet ho v1)
theorem both_when {D : Dt} (h : Inv D) (v1 v2 : Int32) : ∃ (x : Int32) (D1 D2 : Dt), f_Root_when v1 v2 D = some (x, D1) ∧ f_Model_when v1 v2 D1 = some (x, D2) ∧ Inv D2 := by
  obtain ⟨S, ho, h1, h2⟩ := h
  exact Inv.both (fr := fun D => f_Root_when v1 v2 D) (fm := fun D => f_Model_when v1 v2 D) h1 h2 (k_when h1 ho.1 v1 v2) (fun D1 h3 => q_when h3 ho.1 v1 v2) (ok_when ho v1 v2)
theorem both_cut {D : Dt} (h : Inv D) (v1 v2 : Int32) : ∃ (x : Int32) (D1 D2 : Dt), f_Root_cut v1 v2 D = some (x, D1) ∧ f_Model_cut v1 v2 D1 = some (x, D2) ∧ Inv D2 := by
  obtain ⟨S, ho, h1, h2⟩ := h
  exact Inv.both (fr := fun D => f_Root_cut v1 v2 D) (fm := fun D => f_Model_cut v1 v2 D) h1 h2 (k_cut h1 ho.1 v1 v2) (fun D1 h3 => q_cut h3 ho.1 v1 v2) (ok_cut ho v1 v2)
theorem both_boat {D : Dt} (h : Inv D) (v1 v2 v3 v4 : Int32) : ∃ (x : Int32) (D1 D2 : Dt), f_Root_boat v1 v2 v3 v4 D = some (x, D1) ∧ f_Model_boat v1 v2 v3 v4 D1 = some (x, D2) ∧ Inv D2 := by
  obtain ⟨S, ho, h1, h2⟩ := h
  exact Inv.both (fr := fun D => f_Root_boat v1 v2 v3 v4 D) (fm := fun D => f_Model_boat v1 v2 v3 v4 D) h1 h2 (k_boat h1 ho.1 v1 v2 v3 v4) (fun D1 h3 => q_boat h3 ho.1 v1 v2 v3 v4) (ok_boat ho v1 v2 v3 v4)
theorem both_trade {D : Dt} (h : Inv D) (v1 : Int32) : ∃ (x : Int32) (D1 D2 : Dt), f_Root_trade v1 D = some (x, D1) ∧ f_Model_trade v1 D1 = some (x, D2) ∧ Inv D2 := by
  obtain ⟨S, ho, h1, h2⟩ := h
  exact Inv.both (fr := fun D => f_Root_trade v1 D) (fm := fun D => f_Model_trade v1 D) h1 h2 (k_trade h1 ho.1 v1) (fun D1 h3 => q_trade h3 ho.1 v1) (ok_trade ho v1)
theorem both_marks {D : Dt} (h : Inv D) (v1 v2 : Int32) : ∃ (x : Int32) (D1 D2 : Dt), f_Root_marks v1 v2 D = some (x, D1) ∧ f_Model_marks v1 v2 D1 = some (x, D2) ∧ Inv D2 := by
  obtain ⟨S, ho, h1, h2⟩ := h
  exact Inv.both (fr := fun D => f_Root_marks v1 v2 D) (fm := fun D => f_Model_marks v1 v2 D) h1 h2 (k_marks h1 ho.1 v1 v2) (fun D1 h3 => q_marks h3 ho.1 v1 v2) (ok_marks ho v1 v2)
theorem both_stands {D : Dt} (h : Inv D) (v1 : Int32) : ∃ (x : Int32) (D1 D2 : Dt), f_Root_stands v1 D = some (x, D1) ∧ f_Model_stands v1 D1 = some (x, D2) ∧ Inv D2 := by
  obtain ⟨S, ho, h1, h2⟩ := h
  exact Inv.both (fr := fun D => f_Root_stands v1 D) (fm := fun D => f_Model_stands v1 D) h1 h2 (k_stands h1 ho.1 v1) (fun D1 h3 => q_stands h3 ho.1 v1) (ok_stands ho v1)
theorem both_tuesday {D : Dt} (h : Inv D) (v1 : Int32) : ∃ (x : Int32) (D1 D2 : Dt), f_Root_tuesday v1 D = some (x, D1) ∧ f_Model_tuesday v1 D1 = some (x, D2) ∧ Inv D2 := by
  obtain ⟨S, ho, h1, h2⟩ := h
  exact Inv.both (fr := fun D => f_Root_tuesday v1 D) (fm := fun D => f_Model_tuesday v1 D) h1 h2 (k_tuesday h1 ho.1 v1) (fun D1 h3 => q_tuesday h3 ho.1 v1) (ok_tuesday ho v1)
theorem both_most {D : Dt} (h : Inv D) (v1 : Int32) : ∃ (x : Int32) (D1 D2 : Dt), f_Root_most v1 D = some (x, D1) ∧ f_Model_most v1 D1 = some (x, D2) ∧ Inv D2 := by
  obtain ⟨S, ho, h1, h2⟩ := h
  exact Inv.both (fr := fun D => f_Root_most v1 D) (fm := fun D => f_Model_most v1 D) h1 h2 (k_most h1 ho.1 v1) (fun D1 h3 => q_most h3 ho.1 v1) (ok_most ho v1)
theorem both_least {D : Dt} (h : Inv D) (v1 : Int32) : ∃ (x : Int32) (D1 D2 : Dt), f_Root_least v1 D = some (x, D1) ∧ f_Model_least v1 D1 = some (x, D2) ∧ Inv D2 := by
  obtain ⟨S, ho, h1, h2⟩ := h
  exact Inv.both (fr := fun D => f_Root_least v1 D) (fm := fun D => f_Model_least v1 D) h1 h2 (k_least h1 ho.1 v1) (fun D1 h3 => q_least h3 ho.1 v1) (ok_least ho v1)
theorem both_dry {D : Dt} (h : Inv D) : ∃ (x : Int32) (D1 D2 : Dt), f_Root_dry D = some (x, D1) ∧ f_Model_dry D1 = some (x, D2) ∧ Inv D2 := by
  obtain ⟨S, ho, h1, h2⟩ := h
  exact Inv.both (fr := fun D => f_Root_dry D) (fm := fun D => f_Model_dry D) h1 h2 (k_dry h1 ho.1) (fun D1 h3 => q_dry h3 ho.1) (ok_dry ho)
theorem both_led {D : Dt} (h : Inv D) (v1 : Int32) : ∃ (x : Int32) (D1 D2 : Dt), f_Root_led v1 D = some (x, D1) ∧ f_Model_led v1 D1 = some (x, D2) ∧ Inv D2 := by
  obtain ⟨S, ho, h1, h2⟩ := h
  exact Inv.both (fr := fun D => f_Root_led v1 D) (fm := fun D => f_Model_led v1 D) h1 h2 (k_led h1 ho.1 v1) (fun D1 h3 => q_led h3 ho.1 v1) (ok_led ho v1)
theorem both_sure {D : Dt} (h : Inv D) (v1 : Int32) : ∃ (x : Int32) (D1 D2 : Dt), f_Root_sure v1 D = some (x, D1) ∧ f_Model_sure v1 D1 = some (x, D2) ∧ Inv D2 := by
  obtain ⟨S, ho, h1, h2⟩ := h
  exact Inv.both (fr := fun D => f_Root_sure v1 D) (fm := fun D => f_Model_sure v1 D) h1 h2 (k_sure h1 ho.1 v1) (fun D1 h3 => q_sure h3 ho.1 v1) (ok_sure ho v1)
theorem both_look {D : Dt} (h : Inv D) (v1 : Int32) : ∃ (x : Int32) (D1 D2 : Dt), f_Root_look v1 D = some (x, D1) ∧ f_Model_look v1 D1 = some (x, D2) ∧ Inv D2 := by
  obtain ⟨S, ho, h1, h2⟩ := h
  exact Inv.both (fr := fun D => f_Root_look v1 D) (fm := fun D => f_Model_look v1 D) h1 h2 (k_look h1 ho.1 v1) (fun D1 h3 => q_look h3 ho.1 v1) (ok_look ho v1)
theorem both_raise {D : Dt} (h : Inv D) (v1 v2 : Int32) : ∃ (x : Int32) (D1 D2 : Dt), f_Root_raise v1 v2 D = some (x, D1) ∧ f_Model_raise v1 v2 D1 = some (x, D2) ∧ Inv D2 := by
  obtain ⟨S, ho, h1, h2⟩ := h
  exact Inv.both (fr := fun D => f_Root_raise v1 v2 D) (fm := fun D => f_Model_raise v1 v2 D) h1 h2 (k_raise h1 ho.1 v1 v2) (fun D1 h3 => q_raise h3 ho.1 ho.2 v1 v2) (ok_raise ho v1 v2)
theorem both_whose {D : Dt} (h : Inv D) (v1 : Int32) : ∃ (x : Int32) (D1 D2 : Dt), f_Root_whose v1 D = some (x, D1) ∧ f_Model_whose v1 D1 = some (x, D2) ∧ Inv D2 := by
  obtain ⟨S, ho, h1, h2⟩ := h
  exact Inv.both (fr := fun D => f_Root_whose v1 D) (fm := fun D => f_Model_whose v1 D) h1 h2 (k_whose h1 ho.1 ho.2 v1) (fun D1 h3 => q_whose h3 ho.1 ho.2 v1) (ok_whose ho v1)
theorem both_work {D : Dt} (h : Inv D) (v1 v2 v3 : Int32) : ∃ (x : Int32) (D1 D2 : Dt), f_Root_work v1 v2 v3 D = some (x, D1) ∧ f_Model_work v1 v2 v3 D1 = some (x, D2) ∧ Inv D2 := by
  obtain ⟨S, ho, h1, h2⟩ := h
  exact Inv.both (fr := fun D => f_Root_work v1 v2 v3 D) (fm := fun D => f_Model_work v1 v2 v3 D) h1 h2 (k_work h1 ho.1 v1 v2 v3) (fun D1 h3 => q_work h3 ho.1 v1 v2 v3) (ok_work ho v1 v2 v3)
theorem both_done {D : Dt} (h : Inv D) (v1 v2 : Int32) : ∃ (x : Int32) (D1 D2 : Dt), f_Root_done v1 v2 D = some (x, D1) ∧ f_Model_done v1 v2 D1 = some (x, D2) ∧ Inv D2 := by
  obtain ⟨S, ho, h1, h2⟩ := h
  exact Inv.both (fr := fun D => f_Root_done v1 v2 D) (fm := fun D => f_Model_done v1 v2 D) h1 h2 (k_done h1 ho.1 v1 v2) (fun D1 h3 => q_done h3 ho.1 v1 v2) (ok_done ho v1 v2)
theorem both_calendar {D : Dt} (h : Inv D) (v1 v2 v3 v4 : Int32) : ∃ (x : Int32) (D1 D2 : Dt), f_Root_calendar v1 v2 v3 v4 D = some (x, D1) ∧ f_Model_calendar v1 v2 v3 v4 D1 = some (x, D2) ∧ Inv D2 := by
  obtain ⟨S, ho, h1, h2⟩ := h
  exact Inv.both (fr := fun D => f_Root_calendar v1 v2 v3 v4 D) (fm := fun D => f_Model_calendar v1 v2 v3 v4 D) h1 h2 (k_calendar h1 ho.1.1 v1 v2 v3 v4) (fun D1 h3 => q_calendar h3 ho.1.1 v1 v2 v3 v4) (ok_calendar ho v1 v2 v3 v4)
theorem both_years {D : Dt} (h : Inv D) (v1 v2 : Int32) : ∃ (x : Int32) (D1 D2 : Dt), f_Root_years v1 v2 D = some (x, D1) ∧ f_Model_years v1 v2 D1 = some (x, D2) ∧ Inv D2 := by
  obtain ⟨S, ho, h1, h2⟩ := h
  exact Inv.both (fr := fun D => f_Root_years v1 v2 D) (fm := fun D => f_Model_years v1 v2 D) h1 h2 (k_years h1 ho.1 v1 v2) (fun D1 h3 => q_years h3 ho.1 v1 v2) (ok_years ho v1 v2)
theorem both_asked {D : Dt} (h : Inv D) : ∃ (x : Int32) (D1 D2 : Dt), f_Root_asked D = some (x, D1) ∧ f_Model_asked D1 = some (x, D2) ∧ Inv D2 := by
  obtain ⟨S, ho, h1, h2⟩ := h
  exact Inv.both (fr := fun D => f_Root_asked D) (fm := fun D => f_Model_asked D) h1 h2 (k_asked h1) (fun D1 h3 => q_asked h3) (ok_asked ho)
theorem both_upper {D : Dt} (h : Inv D) : ∃ (x : Int64) (D1 D2 : Dt), f_Root_upper D = some (x, D1) ∧ f_Model_upper D1 = some (x, D2) ∧ Inv D2 := by
  obtain ⟨S, ho, h1, h2⟩ := h
  exact ⟨sp_upper S, D, D, k_upper h1 ho.1, q_upper h2 ho.1, S, ho, h1, h2⟩
theorem both_lower {D : Dt} (h : Inv D) : ∃ (x : Int64) (D1 D2 : Dt), f_Root_lower D = some (x, D1) ∧ f_Model_lower D1 = some (x, D2) ∧ Inv D2 := by
  obtain ⟨S, ho, h1, h2⟩ := h
  exact ⟨sp_lower S, D, D, k_lower h1 ho.1, q_lower h2 ho.1, S, ho, h1, h2⟩
theorem both_count {D : Dt} (h : Inv D) (v1 : Int32) : ∃ (x : Int32) (D1 D2 : Dt), f_Root_count v1 D = some (x, D1) ∧ f_Model_count v1 D1 = some (x, D2) ∧ Inv D2 := by
  obtain ⟨S, ho, h1, h2⟩ := h
  exact Inv.both (fr := fun D => f_Root_count v1 D) (fm := fun D => f_Model_count v1 D) h1 h2 (k_count h1 ho.1 v1) (fun D1 h3 => q_count h3 ho.1 v1) (ok_count ho v1)
theorem both_finding {D : Dt} (h : Inv D) : ∃ (x : Int32) (D1 D2 : Dt), f_Root_finding D = some (x, D1) ∧ f_Model_finding D1 = some (x, D2) ∧ Inv D2 := by
  obtain ⟨S, ho, h1, h2⟩ := h
  exact Inv.both (fr := fun D => f_Root_finding D) (fm := fun D => f_Model_finding D) h1 h2 (k_finding h1) (fun D1 h3 => q_finding h3) (ok_finding ho)
theorem both_findings {D : Dt} (h : Inv D) (v1 : Int32) : ∃ (x : Int32) (D1 D2 : Dt), f_Root_findings v1 D = some (x, D1) ∧ f_Model_findings v1 D1 = some (x, D2) ∧ Inv D2 := by
  obtain ⟨S, ho, h1, h2⟩ := h
  exact Inv.both (fr := fun D => f_Root_findings v1 D) (fm := fun D => f_Model_findings v1 D) h1 h2 (k_findings h1 v1) (fun D1 h3 => q_findings h3 v1) (ok_findings ho v1)
theorem both_digest {D : Dt} (h : Inv D) : ∃ (x : Int64) (D1 D2 : Dt), f_Root_digest D = some (x, D1) ∧ f_Model_digest D1 = some (x, D2) ∧ Inv D2 := by
  obtain ⟨S, ho, h1, h2⟩ := h
  refine ⟨sp_digest S, D, wrL D 176 (sp_digest S), k_digest h1 ho.1, q_digest h2 ho.1, S, ho, h1.frM (fun k hk => wrL_ne (by omega)), wrL_rep h2 _⟩
