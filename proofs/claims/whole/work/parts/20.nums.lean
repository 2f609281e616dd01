/-! numbers: an Int32 by the Int that it is -/
def zI (z : Int) : Int32 := Int32.ofInt z
theorem zI_toInt {z : Int} (h1 : -2147483648 ≤ z) (h2 : z < 2147483648) : (zI z).toInt = z := Int32.toInt_ofInt_of_le (by omega) (by omega)
theorem zI_self (x : Int32) : zI x.toInt = x := Int32.ofInt_toInt x
theorem zI_add (a b : Int) : zI a + zI b = zI (a + b) := (Int32.ofInt_add a b).symm
theorem zI_sub (a b : Int) : zI a - zI b = zI (a - b) := (Int32.ofInt_sub a b).symm
theorem zI_mul (a b : Int) : zI a * zI b = zI (a * b) := (Int32.ofInt_mul a b).symm
theorem zI_neg (a : Int) : -zI a = zI (-a) := (Int32.ofInt_neg a).symm
theorem zI_le {a b : Int} (h1 : -2147483648 ≤ a) (h2 : a < 2147483648) (h3 : -2147483648 ≤ b) (h4 : b < 2147483648) : zI a ≤ zI b ↔ a ≤ b := by rw [Int32.le_iff_toInt_le, zI_toInt h1 h2, zI_toInt h3 h4]
theorem zI_lt {a b : Int} (h1 : -2147483648 ≤ a) (h2 : a < 2147483648) (h3 : -2147483648 ≤ b) (h4 : b < 2147483648) : zI a < zI b ↔ a < b := by rw [Int32.lt_iff_toInt_lt, zI_toInt h1 h2, zI_toInt h3 h4]
theorem zI_eq {a b : Int} (h1 : -2147483648 ≤ a) (h2 : a < 2147483648) (h3 : -2147483648 ≤ b) (h4 : b < 2147483648) : zI a = zI b ↔ a = b := by rw [← Int32.toInt_inj, zI_toInt h1 h2, zI_toInt h3 h4]
theorem zI_clamp {a : Int} (h1 : -2147483648 ≤ a) (h2 : a < 2147483648) : (zI a).toNatClampNeg = a.toNat := by
  show (zI a).toInt.toNat = a.toNat
  rw [zI_toInt h1 h2]
theorem zI_nat {i : Nat} (h : i < 2147483648) : (zI (i : Int)).toNatClampNeg = i := by rw [zI_clamp (by omega) (by omega)]; rfl
theorem inb_z {a : Int} {n : Nat} (h1 : -2147483648 ≤ a) (h2 : a < 2147483648) : inb (zI a) n = decide (0 ≤ a ∧ a < n) := by
  have e : (¬ (zI a < 0 ∨ n ≤ (zI a).toNatClampNeg)) ↔ (0 ≤ a ∧ a < n) := by
    rw [zI_clamp h1 h2, show (0 : Int32) = zI 0 from rfl, zI_lt h1 h2 (by omega) (by omega)]
    omega
  unfold inb
  exact decide_eq_decide.mpr e
theorem inb_t {a : Int} {n : Nat} (h0 : 0 ≤ a) (h1 : a < n) (h2 : a < 2147483648) : inb (zI a) n = true := by rw [inb_z (by omega) h2]; simp [h0, h1]
theorem imax_z {a b : Int} (h1 : -2147483648 ≤ a) (h2 : a < 2147483648) (h3 : -2147483648 ≤ b) (h4 : b < 2147483648) : imax (zI a) (zI b) = zI (max a b) := by
  unfold imax
  by_cases h : a < b
  · rw [if_pos ((zI_lt h1 h2 h3 h4).mpr h), Int.max_eq_right (by omega)]
  · rw [if_neg (fun q => h ((zI_lt h1 h2 h3 h4).mp q)), Int.max_eq_left (by omega)]
theorem imin_z {a b : Int} (h1 : -2147483648 ≤ a) (h2 : a < 2147483648) (h3 : -2147483648 ≤ b) (h4 : b < 2147483648) : imin (zI a) (zI b) = zI (min a b) := by
  unfold imin
  by_cases h : b < a
  · rw [if_pos ((zI_lt h3 h4 h1 h2).mpr h), Int.min_eq_right (by omega)]
  · rw [if_neg (fun q => h ((zI_lt h3 h4 h1 h2).mp q)), Int.min_eq_left (by omega)]
theorem zI_div {a b : Int} (h1 : 0 ≤ a) (h2 : a < 2147483648) (h3 : 0 < b) (h4 : b < 2147483648) : zI a / zI b = zI (a / b) := by
  have hq : a / b ≤ a := Int.ediv_le_self b h1
  have hq0 : 0 ≤ a / b := Int.ediv_nonneg h1 (by omega)
  apply Int32.toInt_inj.mp
  rw [Int32.toInt_div, zI_toInt (by omega) h2, zI_toInt (by omega) h4, zI_toInt (by omega) (by omega), Int.tdiv_eq_ediv_of_nonneg h1]
  exact Int.bmod_eq_of_le (by omega) (by omega)
theorem zI_mod {a b : Int} (h1 : 0 ≤ a) (h2 : a < 2147483648) (h3 : 0 < b) (h4 : b < 2147483648) : zI a % zI b = zI (a % b) := by
  have hq : a % b < b := Int.emod_lt_of_pos a h3
  have hq0 : 0 ≤ a % b := Int.emod_nonneg a (by omega)
  apply Int32.toInt_inj.mp
  rw [Int32.toInt_mod, zI_toInt (by omega) h2, zI_toInt (by omega) h4, zI_toInt (by omega) (by omega), Int.tmod_eq_emod_of_nonneg h1]
/-- written numbers -/
theorem zl : ((0 : Int32) = zI 0) ∧ ((1 : Int32) = zI 1) ∧ ((2 : Int32) = zI 2) ∧ ((3 : Int32) = zI 3) ∧ ((4 : Int32) = zI 4) ∧ ((5 : Int32) = zI 5) ∧ ((6 : Int32) = zI 6) ∧ ((7 : Int32) = zI 7) ∧ ((8 : Int32) = zI 8) ∧ ((9 : Int32) = zI 9) ∧ ((10 : Int32) = zI 10) ∧ ((16 : Int32) = zI 16) ∧ ((20 : Int32) = zI 20) ∧ ((24 : Int32) = zI 24) ∧ ((25 : Int32) = zI 25) ∧ ((26 : Int32) = zI 26) ∧ ((27 : Int32) = zI 27) ∧ ((30 : Int32) = zI 30) ∧ ((31 : Int32) = zI 31) ∧ ((32 : Int32) = zI 32) ∧ ((40 : Int32) = zI 40) ∧ ((48 : Int32) = zI 48) ∧ ((57 : Int32) = zI 57) ∧ ((60 : Int32) = zI 60) ∧ ((64 : Int32) = zI 64) ∧ ((99 : Int32) = zI 99) ∧ ((113 : Int32) = zI 113) ∧ ((255 : Int32) = zI 255) ∧ ((256 : Int32) = zI 256) ∧ ((257 : Int32) = zI 257) ∧ ((720 : Int32) = zI 720) ∧ ((999 : Int32) = zI 999) ∧ ((1000 : Int32) = zI 1000) ∧ ((1620 : Int32) = zI 1620) ∧ ((9999 : Int32) = zI 9999) ∧ ((99999 : Int32) = zI 99999) ∧ ((1000000000 : Int32) = zI 1000000000) ∧ ((2147483646 : Int32) = zI 2147483646) ∧ ((-1 : Int32) = zI (-1)) ∧ ((-2 : Int32) = zI (-2)) ∧ ((-3 : Int32) = zI (-3)) ∧ ((-4 : Int32) = zI (-4)) ∧ ((-6 : Int32) = zI (-6)) ∧ ((-9 : Int32) = zI (-9)) := by
  refine ⟨rfl, rfl, rfl, rfl, rfl, rfl, rfl, rfl, rfl, rfl, rfl, rfl, rfl, rfl, rfl, rfl, rfl, rfl, rfl, rfl, rfl, rfl, rfl, rfl, rfl, rfl, rfl, rfl, rfl, rfl, rfl, rfl, rfl, rfl, rfl, rfl, rfl, rfl, rfl, rfl, rfl, rfl, rfl, rfl⟩
/-! the world's numbers: reading behind writing -/
theorem st_at (D : Dt) (a : Nat) (f : Nat → Int32) : st D a f a = f := if_pos rfl
theorem st_ne {D : Dt} {a b : Nat} {f : Nat → Int32} (h : b ≠ a) : st D a f b = D b := if_neg h
theorem wr_at (D : Dt) (a i : Nat) (v : Int32) : wr D a i v a = upd (D a) i v := if_pos rfl
theorem wr_ne {D : Dt} {a b i : Nat} {v : Int32} (h : b ≠ a) : wr D a i v b = D b := if_neg h
theorem upd_at (f : Nat → Int32) (i : Nat) (v : Int32) : upd f i v i = v := if_pos rfl
theorem upd_ne {f : Nat → Int32} {i j : Nat} {v : Int32} (h : j ≠ i) : upd f i v j = f j := if_neg h
theorem bnd_s {α β γ : Type} (a : α) (b : β) (k : α → β → Option γ) : bnd (some (a, b)) k = k a b := rfl
theorem nm_s {α β : Type} (v : α) (k : α → β) : nm v k = k v := rfl
theorem itr_s {τ : Type} (bot : τ) (F : τ → τ) (n : Nat) : itr bot F (n + 1) = F (itr bot F n) := rfl
theorem FU_eq {n : Nat} (h : n ≤ 4096) : ∃ m, FU = m + n := ⟨4096 - n, by unfold FU; omega⟩
/-- a loop that goes through n states -/
theorem itr_run {τ ρ σ : Type} (bot : τ) (F : τ → τ) (ap : σ → τ → ρ) (n : Nat) (Rel : Nat → σ → Prop) (h : ∀ i, i < n → ∀ x, Rel i x → ∃ y, Rel (i + 1) y ∧ ∀ k : τ, ap x (F k) = ap y k) : ∀ x, Rel 0 x → ∃ y, Rel n y ∧ ∀ m, ap x (itr bot F (m + n)) = ap y (itr bot F m) := by
  induction n with
  | zero => intro x hx; exact ⟨x, hx, fun m => rfl⟩
  | succ n ih =>
    intro x hx
    obtain ⟨y, hy, ey⟩ := ih (fun i hi => h i (by omega)) x hx
    obtain ⟨z, hz, ez⟩ := h n (by omega) y hy
    refine ⟨z, hz, fun m => ?_⟩
    rw [show m + (n + 1) = (m + 1) + n by omega, ey (m + 1), itr_s, ez]
theorem tl : ((0 : Int32).toInt = 0) ∧ ((1 : Int32).toInt = 1) ∧ ((2 : Int32).toInt = 2) ∧ ((3 : Int32).toInt = 3) ∧ ((4 : Int32).toInt = 4) ∧ ((5 : Int32).toInt = 5) ∧ ((6 : Int32).toInt = 6) ∧ ((7 : Int32).toInt = 7) ∧ ((8 : Int32).toInt = 8) ∧ ((9 : Int32).toInt = 9) ∧ ((10 : Int32).toInt = 10) ∧ ((16 : Int32).toInt = 16) ∧ ((20 : Int32).toInt = 20) ∧ ((24 : Int32).toInt = 24) ∧ ((25 : Int32).toInt = 25) ∧ ((26 : Int32).toInt = 26) ∧ ((27 : Int32).toInt = 27) ∧ ((30 : Int32).toInt = 30) ∧ ((31 : Int32).toInt = 31) ∧ ((32 : Int32).toInt = 32) ∧ ((40 : Int32).toInt = 40) ∧ ((48 : Int32).toInt = 48) ∧ ((57 : Int32).toInt = 57) ∧ ((60 : Int32).toInt = 60) ∧ ((64 : Int32).toInt = 64) ∧ ((99 : Int32).toInt = 99) ∧ ((113 : Int32).toInt = 113) ∧ ((255 : Int32).toInt = 255) ∧ ((256 : Int32).toInt = 256) ∧ ((257 : Int32).toInt = 257) ∧ ((720 : Int32).toInt = 720) ∧ ((999 : Int32).toInt = 999) ∧ ((1000 : Int32).toInt = 1000) ∧ ((1620 : Int32).toInt = 1620) ∧ ((9999 : Int32).toInt = 9999) ∧ ((99999 : Int32).toInt = 99999) ∧ ((1000000000 : Int32).toInt = 1000000000) ∧ ((2147483646 : Int32).toInt = 2147483646) ∧ ((-1 : Int32).toInt = (-1)) ∧ ((-2 : Int32).toInt = (-2)) ∧ ((-3 : Int32).toInt = (-3)) ∧ ((-4 : Int32).toInt = (-4)) ∧ ((-6 : Int32).toInt = (-6)) ∧ ((-9 : Int32).toInt = (-9)) := by
  refine ⟨by decide, by decide, by decide, by decide, by decide, by decide, by decide, by decide, by decide, by decide, by decide, by decide, by decide, by decide, by decide, by decide, by decide, by decide, by decide, by decide, by decide, by decide, by decide, by decide, by decide, by decide, by decide, by decide, by decide, by decide, by decide, by decide, by decide, by decide, by decide, by decide, by decide, by decide, by decide, by decide, by decide, by decide, by decide, by decide⟩
/-- the same loop, its state told by the step's number -/
theorem itr_go {τ ρ σ : Type} (bot : τ) (F : τ → τ) (ap : Nat → σ → τ → ρ) (n : Nat) (Rel : Nat → σ → Prop) (h : ∀ i, i < n → ∀ x, Rel i x → ∃ y, Rel (i + 1) y ∧ ∀ k : τ, ap i x (F k) = ap (i + 1) y k) : ∀ x, Rel 0 x → ∃ y, Rel n y ∧ ∀ m, ap 0 x (itr bot F (m + n)) = ap n y (itr bot F m) := by
  induction n with
  | zero => intro x hx; exact ⟨x, hx, fun m => rfl⟩
  | succ n ih =>
    intro x hx
    obtain ⟨y, hy, ey⟩ := ih (fun i hi => h i (by omega)) x hx
    obtain ⟨z, hz, ez⟩ := h n (by omega) y hy
    refine ⟨z, hz, fun m => ?_⟩
    rw [show m + (n + 1) = (m + 1) + n by omega, ey (m + 1), itr_s, ez]
