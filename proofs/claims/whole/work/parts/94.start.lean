/-! the start: what both hold when they are made -/
def B00 : BedT := (0, 0, 0, fun _ => 0, fun _ => 0, fun _ => 0, fun _ => 0, fun _ => 0)
def X00 : StrT := (B00, W0, 0, fun _ => W0, fun _ => 0)
def S00 : SstT := (fun _ => (-1, fun _ => 0), fun _ => (-1, fun _ => 0), (0, fun _ => 0, 0), X00, fun _ => (false, X00))
theorem d0_row : ∀ r, r < 6 → D0 (111 + 2 * r) 1 = zI (-1) := by decide +kernel
theorem d0_txt : ∀ t, t < 4 → D0 (123 + 2 * t) 1 = zI (-1) := by decide +kernel
theorem d0_ms : ∀ r, r < 6 → D0 178 r = zI (-1) := by decide +kernel
theorem d0_mt : ∀ r, r < 4 → D0 181 r = zI (-1) := by decide +kernel
theorem d0_fd : ∀ f, f < 6 → D0 110 f = 0 ∧ D0 177 f = 0 := by decide +kernel
theorem d0_kp : ∀ k, k < 3 → D0 19 k = zI 0 ∧ D0 199 k = 0 := by decide +kernel
theorem d0_wt : ∀ j, j < 8 → D0 (3 + 7 + 1) j = zI 0 ∧ D0 (3 + 7 + 2) j = zI 0 ∧ D0 (3 + 7 + 3) j = zI 0 := by decide +kernel
theorem d0_mw : ∀ j, j < 8 → D0 189 (0 + j) = zI 0 ∧ D0 189 (0 + 8 + j) = zI 0 ∧ D0 189 (0 + 16 + j) = zI 0 := by decide +kernel
theorem d0_td : ∀ j, j < 8 → D0 37 j = 0 := by decide +kernel
theorem ok_B00 : BOk B00 := ⟨by decide, ⟨by decide, by decide⟩, ⟨by decide, by decide⟩, fun i hi => absurd hi (Nat.not_lt_zero i)⟩
theorem ok_W00 : WOk B00 W0 0 := ⟨fun i => Int.le_refl 0, fun i _ => ⟨rfl, rfl, rfl⟩, fun i hi => absurd hi (Nat.not_lt_zero i), by decide +kernel⟩
theorem ok_X00 : StrOk X00 := ⟨ok_B00, fun h => absurd h (Nat.lt_irrefl 0), by decide, ⟨ok_W00, by decide, by decide⟩, fun h hh => absurd hh (Nat.not_lt_zero h), fun _ => rfl⟩
theorem ok_S00 : OkA S00 := ⟨⟨⟨fun r _ => ⟨(by decide : (-1 : Int) ≤ -1), (by decide : (-1 : Int) ≤ 60)⟩, fun t _ => ⟨(by decide : (-1 : Int) ≤ -1), (by decide : (-1 : Int) ≤ 60)⟩⟩, ok_X00, fun k _ h => by cases h⟩, fun i hi => absurd hi (Nat.not_lt_zero i), fun k _ h => by cases h⟩
theorem c_S00 : CRep D0 S00 := by
  refine ⟨fun r hr => ⟨d0_row r hr, fun i hi => ?_⟩, fun t ht => ⟨d0_txt t ht, fun i hi => ?_⟩, ⟨by decide +kernel, fun f hf => (d0_fd f hf).1, by decide +kernel⟩, ⟨⟨by decide +kernel, fun h => absurd h (Nat.lt_irrefl 0), fun j _ h => absurd h (Nat.not_lt_zero j)⟩, ⟨by decide +kernel, by decide +kernel, d0_wt⟩, by decide +kernel, fun h hh => absurd hh (Nat.not_lt_zero h)⟩, fun k hk => ⟨(d0_kp k hk).1, fun h => (by cases h)⟩, by decide +kernel, by decide +kernel, d0_td⟩
  · have hi : (i : Int) < -1 := hi
    omega
  · have hi : (i : Int) < -1 := hi
    omega
theorem m_S00 : MRep D0 S00 := by
  refine ⟨fun r hr => ⟨d0_ms r hr, fun i hi => ?_⟩, fun t ht => ⟨d0_mt t ht, fun i hi => ?_⟩, ⟨by decide +kernel, fun f hf => (d0_fd f hf).2, by decide +kernel⟩, ⟨⟨by decide +kernel, by decide +kernel, by decide +kernel, fun j _ h => absurd h (Nat.not_lt_zero j)⟩, ⟨by decide +kernel, by decide +kernel, d0_mw⟩, by decide +kernel, fun h hh => absurd hh (Nat.not_lt_zero h)⟩, fun k hk => ⟨fun h => (by cases h), fun _ => Or.inl (d0_kp k hk).2, Or.inl (d0_kp k hk).2⟩⟩
  · have hi : (i : Int) < -1 := hi
    omega
  · have hi : (i : Int) < -1 := hi
    omega
theorem inv_D0 : Inv D0 := ⟨S00, ok_S00, c_S00, m_S00⟩
