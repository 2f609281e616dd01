/-! what Math.floorMod answers, as its bytecode goes (to stand before r_fmod in 06 once its contract is written) -/
def f_J_floorMod (v0 : Int32) (v1 : Int32) (D : Dt) : Option (Int32 × Dt) :=
  (if v1 = 0 then none else (if 0 ≤ (v0 ^^^ v1) then some (v0 % v1, D) else (if (v0 % v1) = 0 then some (v0 % v1, D) else some ((v0 % v1) + v1, D))))
theorem i32_msb (x : Int32) : x.toBitVec.msb = decide (x.toInt < 0) := by
  rw [BitVec.msb_eq_toInt]; rfl
theorem xor_ge {x y : Int32} (hy : 0 < y) : (0 ≤ (x ^^^ y)) ↔ 0 ≤ x := by
  have h0 : (0 : Int32).toInt = 0 := by decide
  rw [Int32.lt_iff_toInt_lt, h0] at hy
  rw [Int32.le_iff_toInt_le, Int32.le_iff_toInt_le, h0]
  have e := i32_msb (x ^^^ y)
  rw [Int32.toBitVec_xor, BitVec.msb_xor, i32_msb x, i32_msb y, show decide (y.toInt < 0) = false from decide_eq_false (by omega), Bool.xor_false] at e
  have := decide_eq_decide.mp e
  omega
theorem f_fmod {x y : Int32} (hy : 0 < y) (D : Dt) : f_J_floorMod x y D = some (fmodI x y, D) := by
  have h0 : (0 : Int32).toInt = 0 := by decide
  have hy1 := hy
  rw [Int32.lt_iff_toInt_lt, h0] at hy1
  have ym : 0 < y.toInt := hy1
  have em : (x % y).toInt = x.toInt.tmod y.toInt := Int32.toInt_mod x y
  unfold f_J_floorMod fmodI
  rw [if_neg (fun q => by rw [q, h0] at ym; omega)]
  by_cases c : 0 ≤ x
  · rw [if_pos ((xor_ge hy).mpr c), if_neg]
    rw [Int32.lt_iff_toInt_lt, em, h0]
    rw [Int32.le_iff_toInt_le, h0] at c
    have := Int.tmod_nonneg y.toInt c
    omega
  · rw [if_neg (fun q => c ((xor_ge hy).mp q))]
    rw [Int32.le_iff_toInt_le, h0] at c
    have h1 := Int.tmod_nonneg y.toInt (show 0 ≤ -x.toInt by omega)
    rw [Int.neg_tmod] at h1
    by_cases d : x % y = 0
    · rw [if_pos d, if_neg]
      rw [d]; decide
    · have d' : (x % y).toInt ≠ 0 := fun q => d (Int32.toInt_inj.mp (by rw [q, h0]))
      rw [if_neg d, if_pos]
      rw [Int32.lt_iff_toInt_lt, h0]
      omega
