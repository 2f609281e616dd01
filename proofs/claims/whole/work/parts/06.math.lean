/-! Math.max, min, floorMod -/
def imax (x y : Int32) : Int32 := if x < y then y else x
def imin (x y : Int32) : Int32 := if y < x then y else x
def lmin (x y : Int64) : Int64 := if y < x then y else x
def fmodI (x y : Int32) : Int32 := if x % y < 0 then x % y + y else x % y
section MathG
variable {Γ : GmT} {own : String} {cc : ByteArray} {nL fr : Nat} {rt : Option FieldType} {r : Option Value} {D' : Dt} {G : Dt → Nat → List (Nat × Value) → List Value → Prop} {D : Dt} {pc ix : Nat} {lv lv' : List (Nat × Value)} {st0 : List Value}
theorem mcode1 : Cond.code Lib.Math.max.name Lib.Math.max.code 2 (some .int) ∈ GW := by
  have h : Lib.Math.max.code = b_J_max := by decide +kernel
  rw [h]
  exact ok_J_max.2.2.1
theorem mcode2 : Cond.code Lib.Math.min.name Lib.Math.min.code 2 (some .int) ∈ GW := by
  have h : Lib.Math.min.code = b_J_min := by decide +kernel
  rw [h]
  exact ok_J_min.2.2.1
theorem mcode3 : Cond.code Lib.MathLoose.min_long.x Lib.MathLoose.min_long.code 4 (some .long) ∈ GW := by
  have h : Lib.MathLoose.min_long.code = b_J_minL := by decide +kernel
  rw [h]
  exact ok_J_minL.2.2.1
theorem r_mmax (C : Cx Γ own cc nL fr rt r D' G) {x y : Int32} (hw : Cond.methodLink own ix y_J_max ∈ GW) (hfr : 1 ≤ fr) (hloc : (st0.map fun v => v.category).sum + 13 ≤ 40 * fr) (d : decode cc pc = .ok (.invokestatic ix, 3)) (k : G D (pc + 3) lv (.int (imax x y) :: st0)) : G D pc lv (.int y :: .int x :: st0) := by
  obtain ⟨p, e, s, m, args, below, meth, c, hx, hb, hml, hr, hlk, hown, hts, hSt, rfl⟩ := C
  intro H locs ls hP hS hl
  exact va_mmax hx hb (hml.trans hl.1.symm) hown (hts _ hw) (hts _ ok_J_max.1) (hts _ ok_J_max.2.1) (hts _ mcode1) hfr hloc (Nat.le_refl 0) (Nat.le_refl 0) d (k H locs ls hP hS hl)
theorem r_mmin (C : Cx Γ own cc nL fr rt r D' G) {x y : Int32} (hw : Cond.methodLink own ix y_J_min ∈ GW) (hfr : 1 ≤ fr) (hloc : (st0.map fun v => v.category).sum + 13 ≤ 40 * fr) (d : decode cc pc = .ok (.invokestatic ix, 3)) (k : G D (pc + 3) lv (.int (imin x y) :: st0)) : G D pc lv (.int y :: .int x :: st0) := by
  obtain ⟨p, e, s, m, args, below, meth, c, hx, hb, hml, hr, hlk, hown, hts, hSt, rfl⟩ := C
  intro H locs ls hP hS hl
  exact va_mmin hx hb (hml.trans hl.1.symm) hown (hts _ hw) (hts _ ok_J_min.1) (hts _ ok_J_min.2.1) (hts _ mcode2) hfr hloc (Nat.le_refl 0) (Nat.le_refl 0) d (k H locs ls hP hS hl)
theorem r_mminl (C : Cx Γ own cc nL fr rt r D' G) {x y : Int64} (hw : Cond.methodLink own ix y_J_minL ∈ GW) (hfr : 1 ≤ fr) (hloc : (st0.map fun v => v.category).sum + 15 ≤ 40 * fr) (d : decode cc pc = .ok (.invokestatic ix, 3)) (k : G D (pc + 3) lv (.long (lmin x y) :: st0)) : G D pc lv (.long y :: .long x :: st0) := by
  obtain ⟨p, e, s, m, args, below, meth, c, hx, hb, hml, hr, hlk, hown, hts, hSt, rfl⟩ := C
  intro H locs ls hP hS hl
  exact va_mmin_long hx hb (hml.trans hl.1.symm) hown (hts _ hw) (hts _ ok_J_minL.1) (hts _ ok_J_minL.2.1) (hts _ mcode3) hfr hloc (Nat.le_refl 0) (Nat.le_refl 0) d (k H locs ls hP hS hl)
theorem r_fmod (C : Cx Γ own cc nL fr rt r D' G) {α : Type} {T : Option α} {z : α} {x y : Int32} (hw : Cond.methodLink own ix y_J_floorMod ∈ GW) (hfr : 1 ≤ fr) (hloc : (st0.map fun v => v.category).sum + 14 ≤ 40 * fr) (d : decode cc pc = .ok (.invokestatic ix, 3)) (hf : (if 0 < y then T else none) = some z) (k : T = some z → G D (pc + 3) lv (.int (fmodI x y) :: st0)) : G D pc lv (.int y :: .int x :: st0) := by
  sorry
end MathG
