/-! years -/
theorem zL_mod {a b : Int} (h1 : 0 ≤ a) (h2 : a < 9223372036854775808) (h3 : 0 < b) (h4 : b < 9223372036854775808) : zL a % zL b = zL (a % b) := by
  have hq : a % b < b := Int.emod_lt_of_pos a h3
  have hq0 : 0 ≤ a % b := Int.emod_nonneg a (by omega)
  apply Int64.toInt_inj.mp
  rw [Int64.toInt_mod, zL_toInt (by omega) h2, zL_toInt (by omega) h4, zL_toInt (by omega) (by omega), Int.tmod_eq_emod_of_nonneg h1]
theorem zL_i32 {a : Int} (h1 : 0 ≤ a) (h2 : a < 2147483648) : (zL a).toInt32 = zI a := by
  apply Int32.toInt_inj.mp
  rw [Int64.toInt_toInt32, zL_toInt (by omega) (by omega), zI_toInt (by omega) h2]
  exact Int.bmod_eq_of_le (by omega) (by omega)
def lotN (s : Int) : Nat → Int
  | 0 => s
  | k + 1 => (lotN s k * 48271) % 2147483647
theorem lotN_b {s : Int} (hs : 0 ≤ s ∧ s < 2147483647) : ∀ k, 0 ≤ lotN s k ∧ lotN s k < 2147483647 := by
  intro k
  cases k with
  | zero => exact hs
  | succ k =>
    exact ⟨Int.emod_nonneg _ (by omega), Int.emod_lt_of_pos _ (by omega)⟩
def yP (s : Int) (k : Nat) : Nat := (lotN s (k + 1) % 256).toNat
theorem yP_z {s : Int} (hs : 0 ≤ s ∧ s < 2147483647) (k : Nat) : yP s k < 256 ∧ zL (lotN s k) * 48271 % 2147483647 = zL (lotN s (k + 1)) ∧ 48271 * zL (lotN s k) % 2147483647 = zL (lotN s (k + 1)) ∧ (zL (lotN s (k + 1)) % 256).toInt32 = zI (yP s k : Nat) := by
  have b := lotN_b hs k
  have b1 := lotN_b hs (k + 1)
  have m0 : 0 ≤ lotN s (k + 1) % 256 := Int.emod_nonneg _ (by omega)
  have m1 : lotN s (k + 1) % 256 < 256 := Int.emod_lt_of_pos _ (by omega)
  have e : zL (lotN s k) * 48271 % 2147483647 = zL (lotN s (k + 1)) := by
    rw [show (48271 : Int64) = zL 48271 from rfl, show (2147483647 : Int64) = zL 2147483647 from rfl, zL_mul, zL_mod (by omega) (by omega) (by omega) (by omega)]
    rfl
  refine ⟨by unfold yP; omega, e, by rw [← e, Int64.mul_comm], ?_⟩
  rw [show (256 : Int64) = zL 256 from rfl, zL_mod (by omega) (by omega) (by omega) (by omega), zL_i32 m0 (by omega)]
  unfold yP
  congr 1
  omega
def emW (W : WatT) : WatT := (W.1, fun _ => 0, W.2.2.1, W.2.2.2.1, W.2.2.2.2)
def yrW (B : BedT) (s : Int) : Nat → WatT
  | 0 => W0
  | k + 1 => tdW B (yP s k) (emW (yrW B s k)) 8
def yrH (B : BedT) (s : Int) : Nat → Int
  | 0 => 0
  | k + 1 => yrH B s k + tdH B (yP s k) (emW (yrW B s k)) 8
def yrC (B : BedT) (s : Int) : Nat → Nat → Int
  | 0, _ => 0
  | k + 1, i => yrC B s k i + (if (tdB B (yP s k) (emW (yrW B s k)) 8).testBit i = true then 1 else 0)
theorem emW_ok {B : BedT} {W : WatT} {T : Int} (hB : BOk B) (h : WOk B W T) : WOk B (emW W) T := by
  obtain ⟨h1, h2, h3, h4⟩ := h
  exact ⟨h1, fun i hi => ⟨(h2 i hi).1, rfl, (h2 i hi).2.2⟩, fun i hi => by have := (hB.2.2.2 i hi).2.2.2.1; exact ⟨Int.le_refl _, this.1⟩, h4⟩
theorem yrW_ok {B : BedT} (hB : BOk B) (hn : 0 < B.1) (s : Int) : ∀ k : Nat, WOk B (yrW B s k) (72 * k) := by
  intro k
  induction k with
  | zero => exact ⟨fun _ => Int.le_refl _, fun _ _ => ⟨rfl, rfl, rfl⟩, fun i hi => by have := (hB.2.2.2 i hi).2.2.2.1; exact ⟨Int.le_refl _, this.1⟩, by show sum8 (fun _ => 0) ≤ _; unfold sum8; simp only; omega⟩
  | succ k ih => exact (td_ok hB hn (emW_ok hB ih) (yP s k) 8).mono (by omega)
theorem yrC_b {B : BedT} (s : Int) (i : Nat) : ∀ k : Nat, 0 ≤ yrC B s k i ∧ yrC B s k i ≤ k := by
  intro k
  induction k with
  | zero => show 0 ≤ (0 : Int) ∧ (0 : Int) ≤ _; omega
  | succ k ih =>
    show 0 ≤ yrC B s k i + (if (tdB B (yP s k) (emW (yrW B s k)) 8).testBit i = true then 1 else 0) ∧ yrC B s k i + (if (tdB B (yP s k) (emW (yrW B s k)) 8).testBit i = true then 1 else 0) ≤ _
    by_cases c : (tdB B (yP s k) (emW (yrW B s k)) 8).testBit i = true
    · rw [if_pos c]; omega
    · rw [if_neg c]; omega
theorem tdB_out {B : BedT} {p : Nat} {W : WatT} {i : Nat} (hi : B.1 ≤ i) : ∀ h, (tdB B p W h).testBit i = false := by
  intro h
  induction h with
  | zero => exact Nat.zero_testBit i
  | succ h ih =>
    show (tdB B p W h ||| snkN B (bt p h) (tdW B p W h) B.1).testBit i = false
    rw [Nat.testBit_or, ih]
    unfold snkN
    rw [orN_tb, show decide (i < B.1) = false from decide_eq_false (by omega)]; rfl
theorem yrC_out {B : BedT} {s : Int} {i : Nat} (hi : B.1 ≤ i) : ∀ k, yrC B s k i = 0 := by
  intro k
  induction k with
  | zero => rfl
  | succ k ih =>
    show yrC B s k i + (if (tdB B (yP s k) (emW (yrW B s k)) 8).testBit i = true then 1 else 0) = 0
    rw [tdB_out hi, ih]; rfl
def moP (f : Nat → Int) : Nat → Int × Int
  | 0 => (-9, 0)
  | i + 1 => if (moP f i).2 < f i then (i, f i) else moP f i
theorem moP_n {f : Nat → Int} {n : Nat} (hn : n ≤ 8) (h0 : ∀ i, 0 ≤ f i) (h : ∀ i, n ≤ i → f i = 0) : moP f 8 = moP f n := by
  have nn : ∀ i, 0 ≤ (moP f i).2 := by
    intro i
    induction i with
    | zero => exact Int.le_refl _
    | succ i ih =>
      by_cases c : (moP f i).2 < f i
      · rw [show moP f (i + 1) = ((i : Int), f i) from if_pos c]; exact h0 i
      · rw [show moP f (i + 1) = moP f i from if_neg c]; exact ih
  have go : ∀ k, moP f (n + k) = moP f n := by
    intro k
    induction k with
    | zero => rfl
    | succ k ih =>
      show (if (moP f (n + k)).2 < f (n + k) then _ else moP f (n + k)) = _
      have := nn (n + k)
      rw [h (n + k) (by omega), if_neg (by omega), ih]
  have := go (8 - n)
  rw [show n + (8 - n) = 8 by omega] at this
  exact this
theorem moP_b {f : Nat → Int} {c : Int} (hc : 0 ≤ c) (hf : ∀ i, 0 ≤ f i ∧ f i ≤ c) : ∀ i, (0 ≤ (moP f i).2 ∧ (moP f i).2 ≤ c) ∧ (((moP f i).1 = -9 ∧ (moP f i).2 = 0) ∨ (0 ≤ (moP f i).1 ∧ (moP f i).1 < i ∧ (moP f i).2 = f (moP f i).1.toNat)) := by
  intro i
  induction i with
  | zero => exact ⟨⟨Int.le_refl _, hc⟩, Or.inl ⟨rfl, rfl⟩⟩
  | succ i ih =>
    by_cases t : (moP f i).2 < f i
    · rw [show moP f (i + 1) = ((i : Int), f i) from if_pos t]
      exact ⟨hf i, Or.inr ⟨by show (0 : Int) ≤ (i : Int); omega, by show (i : Int) < ((i + 1 : Nat) : Int); omega, rfl⟩⟩
    · rw [show moP f (i + 1) = moP f i from if_neg t]
      refine ⟨ih.1, ?_⟩
      rcases ih.2 with q | ⟨q1, q2, q3⟩
      · exact Or.inl q
      · exact Or.inr ⟨q1, by omega, q3⟩
def sp_years (v1 v2 : Int32) (S : SstT) : Int32 × SstT := if wi v1 1 40 = true ∧ wi v2 1 2147483646 = true then (if 0 < S.2.2.2.1.1.1 then (zI (yrH S.2.2.2.1.1 v2.toInt v1.toInt.toNat), sTell S (zI (moP (yrC S.2.2.2.1.1 v2.toInt v1.toInt.toNat) S.2.2.2.1.1.1).1)) else (-4, S)) else (-1, S)
theorem c_countBits {D : Dt} {x : Nat} (hx : x < 256) {f : Nat → Int} (hf : ∀ i, i < 8 → D 109 i = zI (f i)) : ∃ D1, f_Root_countBits (zI x) D = some ((), D1) ∧ (∀ i, i < 8 → D1 109 i = zI (f i + (if x.testBit i = true then 1 else 0))) ∧ ∀ k, k ≠ 109 → D1 k = D k := by
  unfold f_Root_countBits lp_Root_countBits_2
  obtain ⟨m, hm⟩ := FU_eq (n := 9) (by omega)
  rw [hm, show m + 9 = (m + 1) + 8 by omega]
  obtain ⟨K, ⟨k1, k2, k3⟩, e⟩ := itr_go (fun _ _ _ => none) s_Root_countBits_2 (fun i (K : Dt) k => k (zI x) (zI i) K) 8 (fun i (K : Dt) => (∀ j, j < i → K 109 j = zI (f j + (if x.testBit j = true then 1 else 0))) ∧ (∀ j, i ≤ j → j < 8 → K 109 j = zI (f j)) ∧ ∀ k, k ≠ 109 → K k = D k)
    (fun i hi K z => by
      obtain ⟨z1, z2, z3⟩ := z
      have hin : inb (zI (i : Int)) 8 = true := inb_t (by omega) (by omega) (by omega)
      by_cases c : x.testBit i = true
      · refine ⟨wr K 109 i (zI (f i + 1)), ⟨fun j hj => ?_, fun j hj hj8 => by rw [wr_at, upd_ne (by omega)]; exact z2 j (by omega) hj8, fun k hk => by rw [wr_ne hk, z3 k hk]⟩, fun k => ?_⟩
        · rw [wr_at]
          by_cases g : j = i
          · subst g; rw [upd_at, if_pos c]
          · rw [upd_ne g]; exact z1 j (by omega)
        · unfold s_Root_countBits_2 b_Root_countBits_26
          rw [if_neg (by rw [show (8 : Int32) = zI 8 from rfl, zI_le (by omega) (by omega) (by omega) (by omega)]; omega), c_hasBit hx hi, bnd_s, zo_if, if_pos c, if_pos hin, if_pos hin, nm_s, zI_nat (by omega), z2 i (Nat.le_refl _) hi, show zI (f i) + 1 = zI (f i + 1) from by rw [show (1 : Int32) = zI 1 from rfl, zI_add], zI_s]
      · refine ⟨K, ⟨fun j hj => ?_, fun j hj hj8 => z2 j (by omega) hj8, z3⟩, fun k => ?_⟩
        · by_cases g : j = i
          · subst g; rw [if_neg c, Int.add_zero]; exact z2 j (Nat.le_refl _) hi
          · exact z1 j (by omega)
        · unfold s_Root_countBits_2 b_Root_countBits_26
          rw [if_neg (by rw [show (8 : Int32) = zI 8 from rfl, zI_le (by omega) (by omega) (by omega) (by omega)]; omega), c_hasBit hx hi, bnd_s, zo_if, if_neg c, zI_s])
    D ⟨fun j hj => by omega, fun j _ hj => hf j hj, fun _ _ => rfl⟩
  refine ⟨K, ?_, k1, k3⟩
  refine (e (m + 1)).trans ?_
  rw [itr_s]
  unfold s_Root_countBits_2
  rw [if_pos (by decide)]
theorem c_mostOften {D : Dt} {f : Nat → Int} (hf : ∀ i, i < 8 → D 109 i = zI (f i)) (hb : ∀ i, 0 ≤ f i ∧ f i ≤ 100) : f_Root_mostOften D = some (zI (moP f 8).1, D) := by
  unfold f_Root_mostOften lp_Root_mostOften_7
  obtain ⟨m, hm⟩ := FU_eq (n := 9) (by omega)
  rw [hm, show m + 9 = (m + 1) + 8 by omega]
  obtain ⟨U, -, e⟩ := itr_go (fun _ _ _ _ => none) s_Root_mostOften_7 (fun i (U : Unit) k => k (zI (moP f i).1) (zI (moP f i).2) (zI i) D) 8 (fun i U => True)
    (fun i hi U _ => ⟨(), trivial, fun k => by
      have hin : inb (zI (i : Int)) 8 = true := inb_t (by omega) (by omega) (by omega)
      have b1 := (moP_b (c := 100) (by omega) hb i).1
      have b2 := hb i
      unfold s_Root_mostOften_7 b_Root_mostOften_32
      rw [if_neg (by rw [show (8 : Int32) = zI 8 from rfl, zI_le (by omega) (by omega) (by omega) (by omega)]; omega), if_pos hin, if_pos hin, zI_nat (by omega), hf i hi, zI_s, if_cg (zI_le (by omega) (by omega) (by omega) (by omega))]
      by_cases c : (moP f i).2 < f i
      · rw [if_neg (by omega), show moP f (i + 1) = ((i : Int), f i) from if_pos c]
      · rw [if_pos (by omega), show moP f (i + 1) = moP f i from if_neg c]⟩)
    () trivial
  refine (e (m + 1)).trans ?_
  rw [itr_s]
  unfold s_Root_mostOften_7
  rw [if_pos (by decide)]
theorem c_empty {D : Dt} {w : Nat} {W : WatT} (hw : kd w = 7) (h : WRep D w W) : ∃ D1, f_Waters_emptyCellars w D = some ((), D1) ∧ WRep D1 w (emW W) ∧ ∀ k, k ≠ w + 2 → D1 k = D k := by
  have l2 := (kq_Waters_below hw).2
  unfold f_Waters_emptyCellars
  obtain ⟨E, e1, e2, e3⟩ := fillI_ok (w + 2) 0 D (by omega)
  rw [e1, bnd_s]
  refine ⟨E, rfl, ⟨by rw [e3 w (by omega)]; exact h.1, by rw [e3 w (by omega)]; exact h.2.1, fun j hj => ⟨by rw [e3 _ (by omega)]; exact (h.2.2 j hj).1, by rw [e2, l2, if_pos hj]; rfl, by rw [e3 _ (by omega)]; exact (h.2.2 j hj).2.2⟩⟩, e3⟩
theorem k_years {D : Dt} {S : SstT} (h : CRep D S) (ho : Ok S) (v1 v2 : Int32) : CDo (f_Root_years v1 v2 D) D (sp_years v1 v2 S).1 (sp_years v1 v2 S).2 := by
  have h8 := ho.2.1.1.1
  have hB := ho.2.1.1
  unfold f_Root_years sp_years
  rw [c_isWithin, bnd_s, zo_if, c_isWithin, bnd_s, zo_if, c_hasHouses h ho, bnd_s, zo_if]
  simp only [tl]
  by_cases c1 : wi v1 1 40 = true
  · by_cases c2 : wi v2 1 2147483646 = true
    · rw [if_pos c1, if_pos c2, if_pos (And.intro c1 c2)]
      by_cases d : 0 < S.2.2.2.1.1.1
      · rw [if_pos d, if_pos d]
        have hv2 := of_decide_eq_true c2
        have hs : 0 ≤ v2.toInt ∧ v2.toInt < 2147483647 := by omega
        obtain ⟨n, hn, hn1, rfl⟩ := wi_nat c1 (by omega)
        have l109 : ln 109 = 8 := by decide +kernel
        obtain ⟨E0, a1, a2, a3⟩ := fillI_ok 109 0 D (by omega)
        obtain ⟨E, b1, b2, b3⟩ := c_wBegin (D := E0) (w := 26) (by decide +kernel)
        rw [a1, bnd_s, b1, bnd_s, zI_toInt (show -2147483648 ≤ (n : Int) by omega) (show (n : Int) < 2147483648 by omega), Int.toNat_natCast, show v2.toInt64 = zL (lotN v2.toInt 0) from by
          apply Int64.toInt_inj.mp
          rw [i64_i, zL_toInt (by show _ ≤ v2.toInt; omega) (by show v2.toInt < _; omega)]; rfl]
        unfold lp_Root_years_57
        obtain ⟨m, hm⟩ := FU_eq (n := n + 1) (by omega)
        rw [hm, show m + (n + 1) = (m + 1) + n by omega]
        obtain ⟨F, ⟨f1, f2, f3, f4⟩, e⟩ := itr_go (fun _ _ _ _ _ => none) s_Root_years_57 (fun i (F : Dt) k => k (zI n) (zL (lotN v2.toInt i)) (zI (yrH S.2.2.2.1.1 v2.toInt i)) (zI i) F) n (fun i (F : Dt) => CRep F S ∧ WRep F 26 (yrW S.2.2.2.1.1 v2.toInt i) ∧ (∀ j, j < 8 → F 109 j = zI (yrC S.2.2.2.1.1 v2.toInt i j)) ∧ FrC D F)
          (fun i hi F z => by
            obtain ⟨z1, z2, z3, z4⟩ := z
            obtain ⟨y1, y2, y3, y4⟩ := yP_z hs i
            have hw := emW_ok hB (yrW_ok hB d v2.toInt i)
            obtain ⟨G, g1, g2, g3⟩ := c_empty (w := 26) (by decide +kernel) z2
            obtain ⟨H, k1, k2, k3⟩ := c_begin (D := G) (v := 26) (B := S.2.2.2.1.1) (by omega) g2 (by rw [g3 34 (by omega)]; exact z1.2.2.2.2.2.1) (by rw [g3 35 (by omega)]; exact z1.2.2.2.2.2.2.1) (fun j hj => by rw [g3 37 (by omega)]; exact z1.2.2.2.2.2.2.2 j hj)
            obtain ⟨L, l1, l2, l3, l4⟩ := c_lead (b := 3 + 1) (z1.2.2.2.1.1.congr (fun k a b => by rw [k3 k (by omega), g3 k (by omega)])) hB d (by omega) hw (by omega) (by omega) y1 k2
            have Lk : ∀ k, (k < 32 ∨ 99 < k) → k ≠ 28 → L k = F k := fun k a b => by rw [l4 k a, k3 k a, g3 k b]
            have hcr : CRep L S := l3.crep z1 (fun k hc a b c => Lk k (by
              simp only [cIds, Bool.or_eq_true, Bool.and_eq_true, decide_eq_true_eq, beq_iff_eq] at hc
              omega) (fun q => by subst q; revert hc; decide))
            obtain ⟨M, m1, m2, m3⟩ := c_countBits (D := L) (x := tdB S.2.2.2.1.1 (yP v2.toInt i) (emW (yrW S.2.2.2.1.1 v2.toInt i)) 8) (f := yrC S.2.2.2.1.1 v2.toInt i) (tdB_lt h8 _ _ _) (fun j hj => by rw [Lk 109 (by omega) (by omega)]; exact z3 j hj)
            obtain ⟨N, n1, n2, n3⟩ := c_wTake (D := M) (w := 26) (v := 46 + 6 * 8) (((l2 8 (by omega)).1).congr (fun k a b => m3 k (by omega))) (by omega)
            refine ⟨N, ⟨hcr.congr (fun k hc => by
              have hc' := hc
              simp only [cIds, Bool.or_eq_true, Bool.and_eq_true, decide_eq_true_eq, beq_iff_eq] at hc'
              rw [n3 k (by omega), m3 k (fun q => by subst q; revert hc; decide)]), n2, fun j hj => by rw [n3 109 (by omega)]; exact m2 j hj, fun k hk => by rw [n3 k (by omega), m3 k (by omega), Lk k (by omega) (by omega), z4 k hk]⟩, fun k => ?_⟩
            unfold s_Root_years_57
            rw [if_neg (by rw [zI_le (by omega) (by omega) (by omega) (by omega)]; omega), if_neg (by decide), g1, bnd_s, k1, bnd_s, if_neg (by decide), y2, y4, l1, bnd_s, c_harmDone l2, bnd_s, if_pos (by decide), tc8, (l2 8 (by omega)).2.2.1, m1, bnd_s, if_pos (by decide), n1, bnd_s, zI_add, zI_s]
            rfl)
          E ⟨h.congr (fun k hc => by
            have hc' := hc
            simp only [cIds, Bool.or_eq_true, Bool.and_eq_true, decide_eq_true_eq, beq_iff_eq] at hc'
            rw [b3 k (by omega), a3 k (fun q => by subst q; revert hc; decide)]), b2, fun j hj => by rw [b3 109 (by omega), a2, l109, if_pos hj]; rfl, fun k hk => by rw [b3 k (by omega), a3 k (by omega)]⟩
        have e := e (m + 1)
        refine (show CDo (itr (fun _ _ _ _ _ => none) s_Root_years_57 (m + 1 + n) (zI n) (zL (lotN v2.toInt 0)) (zI (yrH S.2.2.2.1.1 v2.toInt 0)) (zI ((0 : Nat) : Int)) E) D _ _ from ?_)
        rw [e, itr_s]
        unfold s_Root_years_57
        rw [if_pos ((zI_le (by omega) (by omega) (by omega) (by omega)).mpr (by omega)), c_mostOften f3 (fun i => by have := yrC_b (B := S.2.2.2.1.1) v2.toInt i n; omega), bnd_s, moP_n h8 (fun i => (yrC_b v2.toInt i n).1) (fun i hi => yrC_out hi n)]
        exact (c_tell f1 _ _).bind f4
      · rw [if_neg d, if_neg d]
        exact CDo.same h _
    · rw [if_pos c1, if_neg c2, if_neg (fun q => c2 q.2)]
      exact CDo.same h _
  · rw [if_neg c1, if_neg (fun q => c1 q.1)]
    exact CDo.same h _
