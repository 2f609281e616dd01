/-! copy, mean -/
theorem i64_i (a : Int32) : a.toInt64.toInt = a.toInt := Int32.toInt_toInt64 a
theorem i64_add (a b : Int32) : (a.toInt64 + b.toInt64).toInt = a.toInt + b.toInt := by
  have h1 := Int32.le_toInt a
  have h2 := Int32.toInt_lt a
  have h3 := Int32.le_toInt b
  have h4 := Int32.toInt_lt b
  rw [Int64.toInt_add, i64_i, i64_i]
  exact Int.bmod_eq_of_le (by omega) (by omega)
theorem lg_gt (x y : Int64) : (0 < lg_cmp x y) ↔ y.toInt < x.toInt := by
  unfold lg_cmp
  by_cases h : x > y
  · rw [if_pos h]
    have := Int64.lt_iff_toInt_lt.mp h
    exact ⟨fun _ => this, fun _ => by decide⟩
  · rw [if_neg h]
    have h' : ¬ y.toInt < x.toInt := fun q => h (Int64.lt_iff_toInt_lt.mpr q)
    by_cases h2 : x = y
    · rw [if_pos h2]; exact ⟨fun q => absurd q (by decide), fun q => absurd q h'⟩
    · rw [if_neg h2]; exact ⟨fun q => absurd q (by decide), fun q => absurd q h'⟩
theorem lg_le (x y : Int64) : (lg_cmp x y ≤ 0) ↔ x.toInt ≤ y.toInt := by
  have h := lg_gt x y
  have e : (lg_cmp x y ≤ 0) ↔ ¬ (0 < lg_cmp x y) := Int32.not_lt.symm
  rw [e, h]; omega
def sCpy (f g : Nat → Int32) (i j n : Nat) : Nat → Int32 := va_cpy f g i j n
def sp_copy (v1 v2 v3 v4 v5 : Int32) (S : SstT) : Int32 × SstT :=
  if wi v1 0 5 = true ∧ wi v3 0 5 = true then
    (if v5.toInt < 0 then (-3, sFind S 5) else if (S.1 v1.toInt.toNat).1 = -1 ∨ (S.1 v3.toInt.toNat).1 = -1 then (-3, sFind S 1)
      else if 0 ≤ v2.toInt ∧ v2.toInt + v5.toInt ≤ (S.1 v1.toInt.toNat).1 ∧ 0 ≤ v4.toInt ∧ v4.toInt + v5.toInt ≤ (S.1 v3.toInt.toNat).1 then (1, sRow S v3.toInt.toNat ((S.1 v3.toInt.toNat).1, va_cpy (S.1 v1.toInt.toNat).2 (S.1 v3.toInt.toNat).2 v2.toInt.toNat v4.toInt.toNat v5.toInt.toNat)) else (-3, sFind S 2))
  else (-1, S)
theorem c_isThere {D : Dt} {S : SstT} (h : CRep D S) (ho : Ok1 S) {r : Nat} (hr : r < 6) : f_Row_isThere (111 + 2 * r) D = some (if (S.1 r).1 = -1 then 0 else 1, D) := by
  unfold f_Row_isThere
  have h1 := (ho.1 r hr).1
  have h2 := (ho.1 r hr).2
  rw [(h.1 r hr).1, show (-1 : Int32) = zI (-1) from rfl]
  by_cases e : (S.1 r).1 = -1
  · rw [if_pos (by rw [e]), if_pos e]
  · rw [if_neg (by rw [zI_eq (by omega) (by omega) (by omega) (by omega)]; exact e), if_neg e]
theorem c_hasRun {D : Dt} {S : SstT} (h : CRep D S) (ho : Ok1 S) {r : Nat} (hr : r < 6) (v w : Int32) : f_Row_hasRun (111 + 2 * r) v w D = some (if 0 ≤ v.toInt ∧ v.toInt ≤ (S.1 r).1 ∧ w.toInt ≤ (S.1 r).1 - v.toInt then 1 else 0, D) := by
  unfold f_Row_hasRun
  have h1 := (ho.1 r hr).1
  have h2 := (ho.1 r hr).2
  rw [(h.1 r hr).1]
  simp only [Int32.lt_iff_toInt_lt, tl, zI_toInt (show -2147483648 ≤ (S.1 r).1 by omega) (show (S.1 r).1 < 2147483648 by omega)]
  by_cases c1 : v.toInt < 0
  · rw [if_pos c1, if_neg (by omega)]
  · rw [if_neg c1]
    by_cases c2 : (S.1 r).1 < v.toInt
    · rw [if_pos c2, if_neg (by omega)]
    · rw [if_neg c2]
      have e : (zI (S.1 r).1 - v).toInt = (S.1 r).1 - v.toInt := by
        conv => lhs; rw [← zI_self v, zI_sub]
        exact zI_toInt (by omega) (by omega)
      rw [e]
      by_cases c3 : (S.1 r).1 - v.toInt < w.toInt
      · rw [if_pos c3, if_neg (by omega)]
      · rw [if_neg c3, if_pos (by omega)]
theorem zo_if2 {α : Type} {p : Prop} [Decidable p] (A B : α) : (if (if p then (0 : Int32) else 1) = 0 then A else B) = if p then A else B := by
  by_cases h : p
  · simp [h]
  · simp [h]
theorem k_copy {D : Dt} {S : SstT} (h : CRep D S) (ho : Ok1 S) (v1 v2 v3 v4 v5 : Int32) : CDo (f_Root_copy v1 v2 v3 v4 v5 D) D (sp_copy v1 v2 v3 v4 v5 S).1 (sp_copy v1 v2 v3 v4 v5 S).2 := by
  unfold f_Root_copy sp_copy b_Root_copy_51 b_Root_copy_88
  simp only [c_isRow, bnd_s, zo_if]
  by_cases h1 : wi v1 0 5 = true
  · by_cases h3 : wi v3 0 5 = true
    · obtain ⟨r, hr, -, rfl⟩ := wi_nat h1 (by omega)
      obtain ⟨t, ht, -, rfl⟩ := wi_nat h3 (by omega)
      have hr : r < 6 := by omega
      have ht : t < 6 := by omega
      have hr2 := (ho.1 r hr).2
      have ht2 := (ho.1 t ht).2
      simp only [h1, h3, and_self, if_true, inb_t (show (0 : Int) ≤ (r : Int) by omega) (show (r : Int) < (6 : Nat) by omega) (by omega), inb_t (show (0 : Int) ≤ (t : Int) by omega) (show (t : Int) < (6 : Nat) by omega) (by omega), zI_nat (show r < 2147483648 by omega), zI_nat (show t < 2147483648 by omega), zI_toInt (show -2147483648 ≤ (r : Int) by omega) (show (r : Int) < 2147483648 by omega), zI_toInt (show -2147483648 ≤ (t : Int) by omega) (show (t : Int) < 2147483648 by omega), Int.toNat_natCast, c_isThere h ho hr, c_isThere h ho ht, c_hasRun h ho hr, c_hasRun h ho ht, bnd_s, zo_if, zo_if2]
      by_cases h5 : v5.toInt < 0
      · rw [if_neg (show ¬ (0 ≤ v5) by rw [Int32.le_iff_toInt_le]; simp only [tl]; omega)]
        simp only [h5, if_true]
        exact (c_find h 5 (by omega)).ret
      · rw [if_pos (show 0 ≤ v5 by rw [Int32.le_iff_toInt_le]; simp only [tl]; omega)]
        simp only [h5, if_false]
        by_cases g1 : (S.1 r).1 = -1
        · simp only [g1, if_true, true_or]
          exact (c_find h 1 (by omega)).ret
        · by_cases g2 : (S.1 t).1 = -1
          · simp only [g1, g2, if_true, if_false, or_true]
            exact (c_find h 1 (by omega)).ret
          · simp only [g1, g2, if_false, or_self]
            by_cases c1 : 0 ≤ v2.toInt ∧ v2.toInt ≤ (S.1 r).1 ∧ v5.toInt ≤ (S.1 r).1 - v2.toInt
            · by_cases c2 : 0 ≤ v4.toInt ∧ v4.toInt ≤ (S.1 t).1 ∧ v5.toInt ≤ (S.1 t).1 - v4.toInt
              · obtain ⟨i, hi⟩ : ∃ i : Nat, v2.toInt = i := ⟨v2.toInt.toNat, by omega⟩
                obtain ⟨j, hj⟩ : ∃ i : Nat, v4.toInt = i := ⟨v4.toInt.toNat, by omega⟩
                obtain ⟨n, hn⟩ : ∃ i : Nat, v5.toInt = i := ⟨v5.toInt.toNat, by omega⟩
                have e2 : v2 = zI i := by rw [← hi, zI_self]
                have e4 : v4 = zI j := by rw [← hj, zI_self]
                have e5 : v5 = zI n := by rw [← hn, zI_self]
                rw [if_pos c1, if_pos c2, if_pos (show 0 ≤ v2.toInt ∧ v2.toInt + v5.toInt ≤ (S.1 r).1 ∧ 0 ≤ v4.toInt ∧ v4.toInt + v5.toInt ≤ (S.1 t).1 by omega)]
                simp only [hi, hj, hn] at c1 c2 ⊢
                subst e2 e4 e5
                rw [zI_nat (by omega), zI_nat (by omega), zI_nat (by omega), if_pos ⟨by rw [show (0 : Int32) = zI 0 from rfl, zI_lt (by omega) (by omega) (by omega) (by omega)]; omega, by rw [show (0 : Int32) = zI 0 from rfl, zI_lt (by omega) (by omega) (by omega) (by omega)]; omega, by rw [show (0 : Int32) = zI 0 from rfl, zI_lt (by omega) (by omega) (by omega) (by omega)]; omega, by omega, by omega⟩, nm_s]
                simp only [Int.toNat_natCast]
                refine ⟨_, rfl, h.setRow ht ⟨by rw [st_ne (by omega)]; exact (h.1 t ht).1, fun k hk => ?_⟩ (fun k a b => by rw [st_ne b]), fun k hk => by rw [st_ne (by omega)]⟩
                rw [st_at]
                simp only at hk
                show _ = va_cpy (S.1 r).2 (S.1 t).2 i j n k
                unfold va_cpy
                by_cases q : j ≤ k ∧ k < j + n
                · rw [if_pos q, if_pos q]; exact (h.1 r hr).2 _ (by omega)
                · rw [if_neg q, if_neg q]; exact (h.1 t ht).2 _ (by omega)
              · rw [if_pos c1, if_neg c2, if_neg (by omega)]
                exact (c_find h 2 (by omega)).ret
            · rw [if_neg c1, if_neg (by omega)]
              exact (c_find h 2 (by omega)).ret
    · simp only [h1, h3, and_false, if_true, if_false, Bool.false_eq_true]
      exact CDo.same h _
  · simp only [h1, false_and, if_false, Bool.false_eq_true]
    exact CDo.same h _
theorem zI_ltl {z : Int} (h1 : -2147483648 ≤ z) (h2 : z < 2147483648) : (zI z < 0) ↔ z < 0 := by rw [show (0 : Int32) = zI 0 from rfl, zI_lt h1 h2 (by omega) (by omega)]
theorem m_copy1 (r i t j n : Nat) (hr : r < 6) (hin : i + n ≤ 60) (D : Dt) : ∃ D1, (∀ m, itr (fun _ _ _ _ _ _ _ => none) s_Model_copy_104 (m + n) (zI r) (zI i) (zI t) (zI j) (zI n) 0 D = itr (fun _ _ _ _ _ _ _ => none) s_Model_copy_104 m (zI r) (zI i) (zI t) (zI j) (zI n) (zI n) D1) ∧ (∀ k, k < n → D1 180 k = D 179 (60 * r + (i + k))) ∧ ∀ k, k ≠ 180 → D1 k = D k := by
  obtain ⟨E, ⟨h1, h3⟩, e⟩ := itr_go (fun _ _ _ _ _ _ _ => none) (s_Model_copy_104) (fun k E q => q (zI r) (zI i) (zI t) (zI j) (zI n) (zI k) E) n (fun k (E : Dt) => (∀ q, q < k → E 180 q = D 179 (60 * r + (i + q))) ∧ ∀ q, q ≠ 180 → E q = D q)
    (fun k hk E ⟨g1, g3⟩ => by
      refine ⟨wr E 180 k (E 179 (60 * r + (i + k))), ⟨fun q hq => ?_, fun q hq => by rw [wr_ne hq]; exact g3 q hq⟩, fun K => ?_⟩
      · rw [wr_at]
        by_cases z : q = k
        · subst z; rw [upd_at, g3 179 (by omega)]
        · rw [upd_ne z]; exact g1 q (by omega)
      · unfold s_Model_copy_104
        rw [if_neg (by rw [zI_le (by omega) (by omega) (by omega) (by omega)]; omega), zI_add, show ((i : Int) + (k : Int)) = ((i + k : Nat) : Int) from rfl, m_rowAt hr (by omega), bnd_s, if_pos (inb_t (by omega) (by omega) (by omega)), nm_s, zI_nat (by omega), zI_s])
    D ⟨fun q hq => by omega, fun q _ => rfl⟩
  exact ⟨E, e, h1, h3⟩
theorem m_copy2 (t j n : Nat) (ht : t < 6) (hjn : j + n ≤ 60) (D : Dt) : ∃ D1, lp_Model_copy_136 FU (zI t) (zI j) (zI n) 0 D = some (1, D1) ∧ (∀ k, k < n → D1 179 (60 * t + j + k) = D 180 k) ∧ (∀ q, (q < 60 * t + j ∨ 60 * t + j + n ≤ q) → D1 179 q = D 179 q) ∧ ∀ k, k ≠ 179 → D1 k = D k := by
  unfold lp_Model_copy_136
  obtain ⟨m, hm⟩ := FU_eq (n := n + 1) (by omega)
  rw [hm, show m + (n + 1) = (m + 1) + n by omega]
  obtain ⟨E, ⟨h1, h2, h3⟩, e⟩ := itr_go (fun _ _ _ _ _ => none) (s_Model_copy_136) (fun k E q => q (zI t) (zI j) (zI n) (zI k) E) n (fun k (E : Dt) => (∀ q, q < k → E 179 (60 * t + j + q) = D 180 q) ∧ (∀ q, (q < 60 * t + j ∨ 60 * t + j + n ≤ q) → E 179 q = D 179 q) ∧ ∀ q, q ≠ 179 → E q = D q)
    (fun k hk E ⟨g1, g2, g3⟩ => by
      refine ⟨wr E 179 (60 * t + j + k) (E 180 k), ⟨fun q hq => ?_, fun q hq => ?_, fun q hq => by rw [wr_ne hq]; exact g3 q hq⟩, fun K => ?_⟩
      · rw [wr_at]
        by_cases z : q = k
        · subst z; rw [upd_at, g3 180 (by omega)]
        · rw [upd_ne (by omega)]; exact g1 q (by omega)
      · rw [wr_at, upd_ne (by omega)]; exact g2 q hq
      · unfold s_Model_copy_136
        rw [if_neg (by rw [zI_le (by omega) (by omega) (by omega) (by omega)]; omega), if_pos (inb_t (by omega) (by omega) (by omega)), zI_p60, zI_add, show (((60 * t + j : Nat) : Int) + (k : Int)) = ((60 * t + j + k : Nat) : Int) from rfl, if_pos (inb_t (by omega) (by omega) (by omega)), nm_s, zI_nat (by omega), zI_nat (by omega), zI_s])
    D ⟨fun q hq => by omega, fun q _ => rfl, fun q _ => rfl⟩
  refine ⟨E, ?_, h1, h2, h3⟩
  refine (e (m + 1)).trans ?_
  rw [itr_s]
  unfold s_Model_copy_136
  rw [if_pos ((zI_le (by omega) (by omega) (by omega) (by omega)).mpr (by omega))]
theorem q_copy {D : Dt} {S : SstT} (h : MRep D S) (ho : Ok1 S) (v1 v2 v3 v4 v5 : Int32) : MDo (f_Model_copy v1 v2 v3 v4 v5 D) D (sp_copy v1 v2 v3 v4 v5 S).1 (sp_copy v1 v2 v3 v4 v5 S).2 := by
  unfold f_Model_copy sp_copy b_Model_copy_45 b_Model_copy_95
  simp only [m_isRow, bnd_s, zo_if]
  by_cases h1 : wi v1 0 5 = true
  · by_cases h3 : wi v3 0 5 = true
    · obtain ⟨r, hr, -, rfl⟩ := wi_nat h1 (by omega)
      obtain ⟨t, ht, -, rfl⟩ := wi_nat h3 (by omega)
      have hr : r < 6 := by omega
      have ht : t < 6 := by omega
      have hr1 := (ho.1 r hr).1
      have ht1 := (ho.1 t ht).1
      have hr2 := (ho.1 r hr).2
      have ht2 := (ho.1 t ht).2
      simp only [h1, h3, and_self, if_true, inb_t (show (0 : Int) ≤ (r : Int) by omega) (show (r : Int) < (6 : Nat) by omega) (by omega), inb_t (show (0 : Int) ≤ (t : Int) by omega) (show (t : Int) < (6 : Nat) by omega) (by omega), zI_nat (show r < 2147483648 by omega), zI_nat (show t < 2147483648 by omega), zI_toInt (show -2147483648 ≤ (r : Int) by omega) (show (r : Int) < 2147483648 by omega), zI_toInt (show -2147483648 ≤ (t : Int) by omega) (show (t : Int) < 2147483648 by omega), Int.toNat_natCast, (h.1 r hr).1, (h.1 t ht).1, zI_ltl (show -2147483648 ≤ (S.1 r).1 by omega) (show (S.1 r).1 < 2147483648 by omega), zI_ge0 (show -2147483648 ≤ (S.1 t).1 by omega) (show (S.1 t).1 < 2147483648 by omega), lg_gt, lg_le, i64_add, i64_i, zI_toInt (show -2147483648 ≤ (S.1 r).1 by omega) (show (S.1 r).1 < 2147483648 by omega), zI_toInt (show -2147483648 ≤ (S.1 t).1 by omega) (show (S.1 t).1 < 2147483648 by omega)]
      simp only [Int32.lt_iff_toInt_lt, Int32.le_iff_toInt_le, tl]
      by_cases h5 : v5.toInt < 0
      · rw [if_neg (show ¬ (0 ≤ v5.toInt) by omega)]
        simp only [h5, if_true]
        exact (m_meets h 5 (by omega)).ret
      · rw [if_pos (show 0 ≤ v5.toInt by omega)]
        simp only [h5, if_false]
        by_cases g1 : (S.1 r).1 = -1
        · rw [if_pos (show (S.1 r).1 < 0 by omega)]
          simp only [g1, if_true, true_or]
          exact (m_meets h 1 (by omega)).ret
        · rw [if_neg (show ¬ (S.1 r).1 < 0 by omega)]
          by_cases g2 : (S.1 t).1 = -1
          · rw [if_neg (show ¬ 0 ≤ (S.1 t).1 by omega)]
            simp only [g2, if_true, or_true]
            exact (m_meets h 1 (by omega)).ret
          · rw [if_pos (show 0 ≤ (S.1 t).1 by omega)]
            simp only [g1, g2, if_false, or_self]
            by_cases cc : 0 ≤ v2.toInt ∧ v2.toInt + v5.toInt ≤ (S.1 r).1 ∧ 0 ≤ v4.toInt ∧ v4.toInt + v5.toInt ≤ (S.1 t).1
            · obtain ⟨i, hi⟩ : ∃ i : Nat, v2.toInt = i := ⟨v2.toInt.toNat, by omega⟩
              obtain ⟨j, hj⟩ : ∃ i : Nat, v4.toInt = i := ⟨v4.toInt.toNat, by omega⟩
              obtain ⟨n, hn⟩ : ∃ i : Nat, v5.toInt = i := ⟨v5.toInt.toNat, by omega⟩
              have e2 : v2 = zI i := by rw [← hi, zI_self]
              have e4 : v4 = zI j := by rw [← hj, zI_self]
              have e5 : v5 = zI n := by rw [← hn, zI_self]
              rw [if_pos cc, if_neg (by omega), if_neg (by omega), if_neg (by omega), if_pos (by omega)]
              simp only [hi, hj, hn] at cc ⊢
              subst e2 e4 e5
              simp only [Int.toNat_natCast]
              unfold lp_Model_copy_104
              obtain ⟨m, hm⟩ := FU_eq (n := n + 1) (by omega)
              obtain ⟨E, e1, e2, e3⟩ := m_copy1 r i t j n hr (by omega) D
              rw [hm, show m + (n + 1) = (m + 1) + n by omega, e1, itr_s]
              unfold s_Model_copy_104
              rw [if_pos ((zI_le (by omega) (by omega) (by omega) (by omega)).mpr (by omega))]
              obtain ⟨F, f1, f2, f3, f4⟩ := m_copy2 t j n ht (by omega) E
              rw [f1]
              have fk : ∀ k, k ≠ 179 → k ≠ 180 → F k = D k := fun k a b => by rw [f4 k a, e3 k b]
              refine ⟨F, rfl, h.setRow ho ⟨by rw [fk 178 (by omega) (by omega)]; exact (h.1 t ht).1, fun k hk => ?_⟩ (fun q _ _ => by rw [fk 178 (by omega) (by omega)]) (fun q k hq hn hk => by rw [f3 _ (by omega), e3 179 (by omega)]) (fun k a b hm => fk k b (fun e => by subst e; revert hm; decide)) (fun k _ => by rw [fk 176 (by omega) (by omega)]), fun k hk => fk k (by omega) (by omega)⟩
              simp only at hk
              show F 179 (60 * t + k) = va_cpy (S.1 r).2 (S.1 t).2 i j n k
              unfold va_cpy
              by_cases q : j ≤ k ∧ k < j + n
              · rw [if_pos q, show 60 * t + k = 60 * t + j + (k - j) by omega, f2 _ (by omega), e2 _ (by omega)]; exact (h.1 r hr).2 _ (by omega)
              · rw [if_neg q, f3 _ (by omega), e3 179 (by omega)]; exact (h.1 t ht).2 _ (by omega)
            · rw [if_neg cc]
              by_cases c1 : v2.toInt < 0
              · rw [if_pos c1]; exact (m_meets h 2 (by omega)).ret
              · rw [if_neg c1]
                by_cases c2 : v4.toInt < 0
                · rw [if_pos c2]; exact (m_meets h 2 (by omega)).ret
                · rw [if_neg c2]
                  by_cases c3 : (S.1 r).1 < v2.toInt + v5.toInt
                  · rw [if_pos c3]; exact (m_meets h 2 (by omega)).ret
                  · rw [if_neg c3, if_neg (by omega)]; exact (m_meets h 2 (by omega)).ret
    · simp only [h1, h3, and_false, if_true, if_false, Bool.false_eq_true]
      exact MDo.same h _
  · simp only [h1, false_and, if_false, Bool.false_eq_true]
    exact MDo.same h _
