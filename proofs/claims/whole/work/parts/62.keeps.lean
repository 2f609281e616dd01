/-! every call keeps the state as it always is -/
def OkA (S : SstT) : Prop := Ok S ∧ SlOk S
theorem OkA.find {S : SstT} (h : OkA S) (c : Nat) : OkA (sFind S c) := h
theorem OkA.tell {S : SstT} (h : OkA S) (v : Int32) : OkA (sTell S v) := h
theorem OkA.row {S : SstT} (h : OkA S) (r : Nat) {w : RwT} (hw : rwOk w) : OkA (sRow S r w) := by
  refine ⟨⟨⟨fun q hq => ?_, h.1.1.2⟩, h.1.2⟩, h.2⟩
  show rwOk (fu S.1 r w q)
  by_cases c : q = r
  · subst c; rw [fu_at]; exact hw
  · rw [fu_ne c]; exact h.1.1.1 q hq
theorem OkA.txt {S : SstT} (h : OkA S) (r : Nat) {w : RwT} (hw : rwOk w) : OkA (sTxt S r w) := by
  refine ⟨⟨⟨h.1.1.1, fun q hq => ?_⟩, h.1.2⟩, h.2⟩
  show rwOk (fu S.2.1 r w q)
  by_cases c : q = r
  · subst c; rw [fu_at]; exact hw
  · rw [fu_ne c]; exact h.1.1.2 q hq
/-- the present street changed, its bed the same but for flow, sills and shut locks -/
theorem OkA.str {S : SstT} (h : OkA S) {x : StrT} (h1 : StrOk x) (h2 : sameBed S.2.2.2.1.1 x.1) (h3 : ∀ i, i < x.1.1 → sS x.1 i ≤ 20) : OkA (sStr S x) := by
  refine ⟨⟨h.1.1, h1, fun k hk q => ?_⟩, h3, h.2.2⟩
  obtain ⟨a, ⟨b1, b2, b3, b4, b5⟩, c⟩ := h.1.2.2 k hk q
  obtain ⟨c1, c2, c3, c4, c5⟩ := h2
  refine ⟨a, ⟨b1.trans c1, b2.trans c2, fun i => (b3 i).trans (c3 i), fun i => (b4 i).trans (c4 i), fun i => (b5 i).trans (c5 i)⟩, ?_⟩
  show 0 < x.1.1
  rw [← c1]; exact c
theorem sameBed.refl (B : BedT) : sameBed B B := ⟨rfl, rfl, fun _ => rfl, fun _ => rfl, fun _ => rfl⟩
theorem sameBed.symm {A B : BedT} (h : sameBed A B) : sameBed B A := ⟨h.1.symm, h.2.1.symm, fun i => (h.2.2.1 i).symm, fun i => (h.2.2.2.1 i).symm, fun i => (h.2.2.2.2 i).symm⟩
theorem rwOk.same {w : RwT} {f : Nat → Int32} (h : rwOk w) : rwOk (w.1, f) := h
theorem rw_in {S : SstT} (h : OkA S) {v : Int32} (c : wi v 0 5 = true) : rwOk (S.1 v.toInt.toNat) := by
  have := of_decide_eq_true c
  exact h.1.1.1 _ (by omega)
theorem tx_in {S : SstT} (h : OkA S) {v : Int32} (c : wi v 0 3 = true) : rwOk (S.2.1 v.toInt.toNat) := by
  have := of_decide_eq_true c
  exact h.1.1.2 _ (by omega)
theorem ok_row {S : SstT} (h : OkA S) (v1 v2 : Int32) : OkA (sp_row v1 v2 S).2 := by
  unfold sp_row
  split
  · next c =>
    split
    · next d => exact h.row _ ⟨by show -1 ≤ v2.toInt; omega, c.2⟩
    · exact h
  · exact h
theorem ok_text {S : SstT} (h : OkA S) (v1 v2 : Int32) : OkA (sp_text v1 v2 S).2 := by
  unfold sp_text
  split
  · next c =>
    split
    · next d => exact h.txt _ ⟨by show -1 ≤ v2.toInt; omega, c.2⟩
    · exact h
  · exact h
theorem ok_at {S : SstT} (h : OkA S) (v1 v2 : Int32) : OkA (sp_at v1 v2 S).2 := by
  unfold sp_at rOk
  simp only
  repeat' split
  all_goals exact h
theorem ok_lay {S : SstT} (h : OkA S) (v1 v2 v3 : Int32) : OkA (sp_lay v1 v2 v3 S).2 := by
  unfold sp_lay rOk
  simp only
  split
  · next c =>
    split
    · exact h
    · split
      · exact (h.row _ (rw_in h c).same).tell _
      · exact h
  · exact h
theorem ok_tear {S : SstT} (h : OkA S) (v1 : Int32) : OkA (sp_tear v1 S).2 := by
  unfold sp_tear rOk
  split
  · split
    · exact h
    · exact h.row _ ⟨by show (-1 : Int) ≤ -1; omega, by show (-1 : Int) ≤ 60; omega⟩
  · exact h
theorem ok_mean {S : SstT} (h : OkA S) (v1 : Int32) : OkA (sp_mean v1 S).2 := by
  unfold sp_mean rOk
  simp only
  repeat' split
  all_goals exact h
theorem ok_put {S : SstT} (h : OkA S) (v1 v2 v3 : Int32) : OkA (sp_put v1 v2 v3 S).2 := by
  unfold sp_put
  split
  · next c =>
    split
    · exact h
    · split
      · exact h.txt _ (tx_in h c).same
      · exact h
  · exact h
theorem ok_house {S : SstT} (h : OkA S) (v1 v2 : Int32) : OkA (sp_house v1 v2 S).2 := by
  unfold sp_house
  repeat' split
  all_goals exact h
theorem ok_mark {S : SstT} (h : OkA S) (v1 v2 : Int32) : OkA (sp_mark v1 v2 S).2 := by
  unfold sp_mark
  repeat' split
  all_goals exact h
theorem ok_sill {S : SstT} (h : OkA S) (v1 v2 : Int32) : OkA (sp_sill v1 v2 S).2 := by
  unfold sp_sill
  split
  · next c =>
    have hv := of_decide_eq_true c.2
    have hk := h.1.sill (i := v1.toInt.toNat) (v := v2.toInt) (by omega)
    refine h.str hk.2.1 ⟨rfl, rfl, fun _ => rfl, fun _ => rfl, fun _ => rfl⟩ (fun i hi => ?_)
    show fu S.2.2.2.1.1.2.2.2.2.2.1 v1.toInt.toNat v2.toInt i ≤ 20
    by_cases z : i = v1.toInt.toNat
    · subst z; rw [fu_at]; omega
    · rw [fu_ne z]; exact h.2.1 i hi
  · exact h
theorem ok_flow {S : SstT} (h : OkA S) (v1 : Int32) : OkA (sp_flow v1 S).2 := by
  unfold sp_flow
  split
  · next c =>
    split
    · have hv := of_decide_eq_true c
      obtain ⟨⟨b1, b2, b3, b4⟩, o2, o3, o4, o7, o8⟩ := h.1.2.1
      exact h.str (x := (bFlow S.2.2.2.1.1 v1.toInt, S.2.2.2.1.2)) ⟨⟨b1, ⟨by show 0 ≤ v1.toInt; omega, by show v1.toInt ≤ 9; omega⟩, b3, b4⟩, fun _ => by show 1 ≤ v1.toInt; omega, o3, o4, o7, o8⟩ ⟨rfl, rfl, fun _ => rfl, fun _ => rfl, fun _ => rfl⟩ h.2.1
    · exact h
  · exact h
theorem ok_shut {S : SstT} (h : OkA S) (v1 v2 : Int32) : OkA (sp_shut v1 v2 S).2 := by
  unfold sp_shut
  split
  · next c =>
    split
    · have hv := of_decide_eq_true c.2
      obtain ⟨⟨b1, b2, b3, b4⟩, o2, o3, o4, o7, o8⟩ := h.1.2.1
      refine h.str (x := (bShut S.2.2.2.1.1 v1.toInt.toNat v2.toInt, S.2.2.2.1.2)) ⟨⟨b1, b2, b3, fun i hi => ?_⟩, o2, o3, o4, o7, o8⟩ ⟨rfl, rfl, fun _ => rfl, fun _ => rfl, fun _ => rfl⟩ h.2.1
      obtain ⟨c1, c2, c3, c4, c5⟩ := b4 i hi
      refine ⟨c1, c2, c3, c4, ?_⟩
      show fu S.2.2.2.1.1.2.2.2.2.2.2.2 v1.toInt.toNat v2.toInt i = 0 ∨ fu S.2.2.2.1.1.2.2.2.2.2.2.2 v1.toInt.toNat v2.toInt i = 1
      by_cases z : i = v1.toInt.toNat
      · subst z; rw [fu_at]; omega
      · rw [fu_ne z]; exact c5
    · exact h
  · exact h
theorem ok_pump {S : SstT} (h : OkA S) (v1 : Int32) : OkA (sp_pump v1 S).2 := by
  unfold sp_pump
  split
  · next c =>
    obtain ⟨o1, o2, o3, ⟨⟨w1, w2, w3, w4⟩, o5, o6⟩, o7, o8⟩ := h.1.2.1
    refine h.str (x := (S.2.2.2.1.1, wPump S.2.2.2.1.2.1 v1.toInt.toNat, S.2.2.2.1.2.2)) ⟨o1, o2, o3, ⟨⟨w1, fun i hi => ⟨(w2 i hi).1, ?_, (w2 i hi).2.2⟩, fun i hi => ?_, w4⟩, o5, o6⟩, o7, o8⟩ (sameBed.refl _) h.2.1
    · show fu S.2.2.2.1.2.1.2.1 v1.toInt.toNat 0 i = 0
      by_cases z : i = v1.toInt.toNat
      · subst z; rw [fu_at]
      · rw [fu_ne z]; exact (w2 i hi).2.1
    · show 0 ≤ fu S.2.2.2.1.2.1.2.1 v1.toInt.toNat 0 i ∧ fu S.2.2.2.1.2.1.2.1 v1.toInt.toNat 0 i ≤ rR S.2.2.2.1.1 i
      have := (o1.2.2.2 i hi).2.2.2.1
      by_cases z : i = v1.toInt.toNat
      · subst z; rw [fu_at]; omega
      · rw [fu_ne z]; exact w3 i hi
  · exact h
theorem ok_hour {S : SstT} (h : OkA S) (v1 : Int32) : OkA (sp_hour v1 S).2 := by
  unfold sp_hour
  split
  · next c =>
    split
    · next d =>
      split
      · next g =>
        have hv := of_decide_eq_true c
        exact (h.str (hourStr_ok h.1.2.1 d g (by omega)) (sameBed.refl _) h.2.1).tell _
      · exact h
    · exact h
  · exact h
theorem ok_undo {S : SstT} (h : OkA S) (v1 : Int32) : OkA (sp_undo v1 S).2 := by
  unfold sp_undo
  split
  · next c =>
    have hv := of_decide_eq_true c
    obtain ⟨o1, o2, o3, o4, o7, o8⟩ := h.1.2.1
    unfold backStr
    split
    · next d =>
      refine h.str (x := (S.2.2.2.1.1, S.2.2.2.1.2.2.2.1 v1.toInt.toNat, v1.toInt.toNat, S.2.2.2.1.2.2.2)) ⟨o1, o2, by show v1.toInt.toNat ≤ 60; omega, (o7 _ d).1, fun t ht => o7 t (Nat.lt_trans ht d), fun q => ?_⟩ (sameBed.refl _) h.2.1
      have := o8 q
      show v1.toInt.toNat = 0
      omega
    · exact h.str h.1.2.1 (sameBed.refl _) h.2.1
  · exact h
theorem ok_water {S : SstT} (h : OkA S) : OkA (sp_water S).2 := h
theorem ok_keep {S : SstT} (h : OkA S) (v1 : Int32) : OkA (sp_keep v1 S).2 := by
  unfold sp_keep
  split
  · split
    · next d =>
      refine ⟨⟨h.1.1, h.1.2.1, fun k hk q => ?_⟩, h.2.1, fun k hk q => ?_⟩
      · revert q
        show (fu S.2.2.2.2 v1.toInt.toNat (true, S.2.2.2.1) k).1 = true → StrOk (fu S.2.2.2.2 v1.toInt.toNat (true, S.2.2.2.1) k).2 ∧ sameBed (fu S.2.2.2.2 v1.toInt.toNat (true, S.2.2.2.1) k).2.1 S.2.2.2.1.1 ∧ 0 < S.2.2.2.1.1.1
        by_cases z : k = v1.toInt.toNat
        · rw [z, fu_at]; exact fun _ => ⟨h.1.2.1, sameBed.refl _, d⟩
        · rw [fu_ne z]; exact h.1.2.2 k hk
      · revert q
        show (fu S.2.2.2.2 v1.toInt.toNat (true, S.2.2.2.1) k).1 = true → ∀ i, i < (fu S.2.2.2.2 v1.toInt.toNat (true, S.2.2.2.1) k).2.1.1 → sS (fu S.2.2.2.2 v1.toInt.toNat (true, S.2.2.2.1) k).2.1 i ≤ 20
        by_cases z : k = v1.toInt.toNat
        · rw [z, fu_at]; exact fun _ => h.2.1
        · rw [fu_ne z]; exact h.2.2 k hk
    · exact h
  · exact h
theorem ok_on {S : SstT} (h : OkA S) (v1 : Int32) : OkA (sp_on v1 S).2 := by
  unfold sp_on
  split
  · next c =>
    have hv := of_decide_eq_true c
    split
    · next d =>
      obtain ⟨a, b, e⟩ := h.1.2.2 v1.toInt.toNat (by omega) d
      exact h.str a b.symm (h.2.2 v1.toInt.toNat (by omega) d)
    · exact h
  · exact h
theorem ok_asked {S : SstT} (h : OkA S) : OkA (sp_asked S).2 := h
theorem ok_finding {S : SstT} (h : OkA S) : OkA (sp_finding S).2 := h
theorem ok_findings {S : SstT} (h : OkA S) (v1 : Int32) : OkA (sp_findings v1 S).2 := by
  unfold sp_findings
  repeat' split
  all_goals exact h
theorem ok_count {S : SstT} (h : OkA S) (v1 : Int32) : OkA (sp_count v1 S).2 := by
  unfold sp_count
  repeat' split
  all_goals exact h
theorem ok_harm {S : SstT} (h : OkA S) (v1 : Int32) : OkA (sp_harm v1 S).2 := by
  unfold sp_harm
  repeat' split
  all_goals exact h
theorem ok_wet {S : SstT} (h : OkA S) (v1 : Int32) : OkA (sp_wet v1 S).2 := by
  unfold sp_wet
  repeat' split
  all_goals exact h
theorem ok_stands {S : SstT} (h : OkA S) (v1 : Int32) : OkA (sp_stands v1 S).2 := by
  unfold sp_stands
  repeat' split
  all_goals exact h
theorem ok_when {S : SstT} (h : OkA S) (v1 v2 : Int32) : OkA (sp_when v1 v2 S).2 := by
  unfold sp_when
  split
  · exact h
  · exact h
theorem ok_cut {S : SstT} (h : OkA S) (v1 v2 : Int32) : OkA (sp_cut v1 v2 S).2 := by
  unfold sp_cut
  repeat' split
  all_goals exact h
theorem ok_boat {S : SstT} (h : OkA S) (v1 v2 v3 v4 : Int32) : OkA (sp_boat v1 v2 v3 v4 S).2 := by
  unfold sp_boat
  split
  · exact h
  · exact h
theorem ok_trade {S : SstT} (h : OkA S) (v1 : Int32) : OkA (sp_trade v1 S).2 := by
  unfold sp_trade
  repeat' split
  all_goals exact h
theorem ok_marks {S : SstT} (h : OkA S) (v1 v2 : Int32) : OkA (sp_marks v1 v2 S).2 := by
  unfold sp_marks
  have h8 := h.1.2.1.1.1
  split
  · split
    · exact h.row _ ⟨by show (-1 : Int) ≤ ((S.2.2.2.1.1.1 : Nat) : Int); omega, by show ((S.2.2.2.1.1.1 : Nat) : Int) ≤ 60; omega⟩
    · exact h
  · exact h
theorem ok_tuesday {S : SstT} (h : OkA S) (v1 : Int32) : OkA (sp_tuesday v1 S).2 := by
  unfold sp_tuesday
  split
  · split
    · next d =>
      split
      · next g =>
        have e := (strN_e S.2.2.2.1 v1.toInt.toNat 8).1
        refine h.str (strN_ok h.1.2.1 d _ 8 (by omega)) ?_ ?_
        · rw [e]; exact sameBed.refl _
        · rw [e]; exact h.2.1
      · exact h
    · exact h
  · exact h
theorem ok_optA {S : SstT} (h : OkA S) (o : Option Nat) (x : Int32) {f : Nat → Int32 × SstT} (hf : ∀ b, OkA (f b).2) : OkA (optA o (x, S) f).2 := by
  cases o with
  | none => exact h
  | some b => exact hf b
theorem ok_most {S : SstT} (h : OkA S) (v1 : Int32) : OkA (sp_most v1 S).2 := by
  unfold sp_most
  split
  · split
    · exact ok_optA h _ _ (fun b => h)
    · exact h
  · exact h
theorem ok_least {S : SstT} (h : OkA S) (v1 : Int32) : OkA (sp_least v1 S).2 := by
  unfold sp_least
  split
  · split
    · exact ok_optA h _ _ (fun b => h)
    · exact h
  · exact h
theorem ok_dry {S : SstT} (h : OkA S) : OkA (sp_dry S).2 := by
  unfold sp_dry
  split
  · exact ok_optA h _ _ (fun b => h)
  · exact h
theorem ok_whose {S : SstT} (h : OkA S) (v1 : Int32) : OkA (sp_whose v1 S).2 := by
  unfold sp_whose
  repeat' split
  all_goals exact h
theorem ok_calendar {S : SstT} (h : OkA S) (v1 v2 v3 v4 : Int32) : OkA (sp_calendar v1 v2 v3 v4 S).2 := by
  unfold sp_calendar
  split
  · split
    · exact h
    · split
      · exact h
      · exact h
  · exact h
theorem ok_years {S : SstT} (h : OkA S) (v1 v2 : Int32) : OkA (sp_years v1 v2 S).2 := by
  unfold sp_years
  repeat' split
  all_goals exact h
theorem ok_copy {S : SstT} (h : OkA S) (v1 v2 v3 v4 v5 : Int32) : OkA (sp_copy v1 v2 v3 v4 v5 S).2 := by
  unfold sp_copy
  split
  · next c =>
    split
    · exact h
    · split
      · exact h
      · split
        · exact h.row _ (rw_in h c.2).same
        · exact h
  · exact h
