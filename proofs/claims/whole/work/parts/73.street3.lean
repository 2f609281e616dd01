theorem tx_c {D : Dt} {S : SstT} (h : CRep D S) {t : Nat} (ht : t < 4) (hz : (S.2.1 t).1 ≠ -1) (ho : Ok1 S) : CTx D (123 + 2 * t) (txN S t) (S.2.1 t).2 ∧ txN S t ≤ 60 ∧ ((txN S t : Nat) : Int) = (S.2.1 t).1 := by
  have hw := ho.2 t ht
  unfold rwOk at hw
  have e : ((txN S t : Nat) : Int) = (S.2.1 t).1 := by show (((S.2.1 t).1.toNat : Nat) : Int) = _; omega
  obtain ⟨g1, g2⟩ := h.2.1 t ht
  refine ⟨⟨by rw [e]; exact g1, fun i hi => g2 i (by omega)⟩, by omega, e⟩
theorem txR_b {S : SstT} {t x : Nat} (hn : txN S t ≤ 60) (h : (txR S t).1 = some x) : x < 1000 := by
  have := stT_b h
  omega
theorem c_scr {D D1 : Dt} {S : SstT} (h : CRep D S) (hk : ∀ k, (k < 20 ∨ 25 < k) → D1 k = D k) : CRep D1 S := h.congr (fun k hc => hk k (by
  simp only [cIds, Bool.or_eq_true, Bool.and_eq_true, decide_eq_true_eq, beq_iff_eq] at hc
  omega))
theorem k_fault {D : Dt} {S : SstT} (h : CRep D S) (ho : Ok S) (v1 : Int32) : CDo (f_Root_fault v1 D) D (sp_fault v1 S).1 (sp_fault v1 S).2 := by
  obtain ⟨r0, r1⟩ := c_refusedText h ho.1 v1
  unfold f_Root_fault sp_fault
  by_cases c : wi v1 0 3 = true
  · obtain ⟨t, ht, -, rfl⟩ := wi_nat c (by omega)
    obtain ⟨r2, r3⟩ := r1 t (by omega) rfl
    rw [if_pos c, zI_toInt (show -2147483648 ≤ (t : Int) by omega) (show (t : Int) < 2147483648 by omega), Int.toNat_natCast]
    by_cases g : (S.2.1 t).1 = -1
    · obtain ⟨E, e1, e2, e3⟩ := r2 g
      rw [if_pos g, e1, bnd_s, if_neg ng3]
      exact ⟨E, rfl, e2, e3⟩
    · obtain ⟨t1, t2, t3⟩ := tx_c h (show t < 4 by omega) g ho.1
      obtain ⟨E, e1, e2, -⟩ := c_readStreet t1 (by omega) t2
      rw [if_neg g, r3 g, bnd_s, if_pos rfl, if_pos (inb_t (by omega) (by omega) (by omega)), zI_nat (by omega), e1, bnd_s]
      exact ⟨E, rfl, c_scr h e2, fun k hk => e2 k (by omega)⟩
  · rw [if_neg c, r0 (Bool.eq_false_iff.mpr c), bnd_s, if_neg ng1]
    exact CDo.same h _
theorem k_street {D : Dt} {S : SstT} (h : CRep D S) (ho : Ok S) (v1 : Int32) : CDo (f_Root_street v1 D) D (sp_street v1 S).1 (sp_street v1 S).2 := by
  obtain ⟨r0, r1⟩ := c_refusedText h ho.1 v1
  unfold f_Root_street sp_street
  by_cases c : wi v1 0 3 = true
  · obtain ⟨t, ht, -, rfl⟩ := wi_nat c (by omega)
    obtain ⟨r2, r3⟩ := r1 t (by omega) rfl
    rw [if_pos c, zI_toInt (show -2147483648 ≤ (t : Int) by omega) (show (t : Int) < 2147483648 by omega), Int.toNat_natCast]
    by_cases g : (S.2.1 t).1 = -1
    · obtain ⟨E, e1, e2, e3⟩ := r2 g
      rw [if_pos g, e1, bnd_s, if_neg ng3]
      exact ⟨E, rfl, e2, e3⟩
    · obtain ⟨t1, t2, t3⟩ := tx_c h (show t < 4 by omega) g ho.1
      obtain ⟨E, e1, e2, e3⟩ := c_readStreet t1 (by omega) t2
      have f9 := ftV_9 (o := (txR S t).1) (fun x hx => txR_b t2 hx)
      have hE : CRep E S := c_scr h e2
      rw [if_neg g, r3 g, bnd_s, if_pos rfl, if_pos (inb_t (by omega) (by omega) (by omega)), zI_nat (by omega), e1, bnd_s, if_cg f9]
      by_cases u : (txR S t).1 = none
      · rw [if_pos u, if_pos u]
        have hb := e3 u
        obtain ⟨so, -, -, -, -, -⟩ := stT_ok u
        have m8 : (txR S t).2 ≤ 8 := so.1
        unfold f_Street_begin
        obtain ⟨F, f1, f2, -, f4⟩ := c_bTake (w := 3 + 1) (v := 20) hb (by omega)
        obtain ⟨G, g1, g2, g3⟩ := c_wBegin (D := F) (w := 3 + 7) (by decide +kernel)
        rw [f1, bnd_s, g1, bnd_s, nm_s, bnd_s]
        generalize hH : wr G 3 4 0 = H
        have Hk : ∀ k, (k < 3 ∨ 13 < k) → H k = E k := fun k hk => by rw [← hH, wr_ne (by omega), g3 k (by omega), f4 k (by omega)]
        have hS : CStr H 3 (bedT (S.2.1 t).2 (txN S t) (txR S t).2, W0, 0, fun _ => W0, fun _ => 0) := by
          refine ⟨f2.congr (fun k a b => by rw [← hH, wr_ne (by omega), g3 k (by omega)]), g2.congr (fun k a b => by rw [← hH, wr_ne (by omega)]), by rw [← hH, wr_at, upd_at]; rfl, fun j hj => absurd hj (Nat.not_lt_zero j)⟩
        have hR := hE.setStr hS (fun k _ hk => Hk k (by omega))
        unfold lp_Root_street_46
        obtain ⟨M, hM⟩ := FU_eq (n := 4) (by omega)
        rw [hM, show M + 4 = (M + 1) + 3 by omega]
        obtain ⟨K, ⟨k1, k2⟩, e⟩ := itr_go (fun _ _ => none) s_Root_street_46 (fun i (K : Dt) k => k (zI i) K) 3 (fun i (K : Dt) => (∀ j, j < i → K 19 j = 0) ∧ ∀ k, k ≠ 19 → K k = H k)
          (fun i hi K z => by
            obtain ⟨z1, z2⟩ := z
            refine ⟨wr K 19 i 0, ⟨fun j hj => ?_, fun k hk => by rw [wr_ne hk, z2 k hk]⟩, fun k => ?_⟩
            · rw [wr_at]
              by_cases cj : j = i
              · subst cj; rw [upd_at]
              · rw [upd_ne cj]; exact z1 j (by omega)
            · unfold s_Root_street_46
              rw [if_neg (by rw [show (3 : Int32) = zI 3 from rfl, zI_le (by omega) (by omega) (by omega) (by omega)]; omega), if_pos (inb_t (by omega) (by omega) (by omega)), nm_s, zI_nat (by omega), show vp_nar .boolean 0 = (0 : Int32) from by decide, zI_s])
          H ⟨fun j hj => by omega, fun _ _ => rfl⟩
        have e := e (M + 1)
        refine (show CDo (itr (fun _ _ => none) s_Root_street_46 (M + 1 + 3) (zI ((0 : Nat) : Int)) H) D _ _ from ?_)
        rw [e, itr_s]
        unfold s_Root_street_46
        rw [if_pos (by decide), k2 (3 + 1) (by omega), hR.2.2.2.1.1.1]
        refine ⟨K, rfl, ?_, fun k hk => by rw [k2 k (by omega), Hk k (by omega), e2 k (by omega)]⟩
        obtain ⟨y1, y2, y3, y4, y5, y6⟩ := hR
        refine ⟨fun r hr => (y1 r hr).congr (k2 _ (by omega)) (k2 _ (by omega)), fun r hr => (y2 r hr).congr (k2 _ (by omega)) (k2 _ (by omega)), ?_, y4.congr (fun k a b => k2 k (by omega)), fun k hk => ⟨k1 k hk, fun q => absurd q (show ¬ false = true by decide)⟩, ?_⟩
        · rw [k2 0 (by omega), k2 110 (by omega)]; exact y3
        · rw [k2 34 (by omega), k2 35 (by omega), k2 37 (by omega)]; exact y6
      · rw [if_neg u, if_neg u]
        exact ⟨E, rfl, hE, fun k hk => e2 k (by omega)⟩
  · rw [if_neg c, r0 (Bool.eq_false_iff.mpr c), bnd_s, if_neg ng1]
    exact CDo.same h _
theorem ok_fault {S : SstT} (h : OkA S) (v1 : Int32) : OkA (sp_fault v1 S).2 := by
  unfold sp_fault
  repeat' split
  all_goals exact h
theorem ok_street {S : SstT} (h : OkA S) (v1 : Int32) : OkA (sp_street v1 S).2 := by
  unfold sp_street
  split
  · split
    · exact h
    · split
      · next u =>
        obtain ⟨so, s1, -, -, -, -⟩ := stT_ok u
        refine ⟨⟨h.1.1, ⟨so, fun _ => s1, Nat.zero_le _, ⟨⟨fun _ => Int.le_refl _, fun _ _ => ⟨rfl, rfl, rfl⟩, fun i hi => ?_, ?_⟩, Int.le_refl _, Int.le_refl _⟩, fun j hj => absurd hj (Nat.not_lt_zero j), fun _ => rfl⟩, fun k _ q => absurd q (show ¬ false = true by decide)⟩, fun i hi => ?_, fun k _ q => absurd q (show ¬ false = true by decide)⟩
        · exact ⟨Int.le_refl _, (so.2.2.2 i hi).2.2.2.1.1⟩
        · show sum8 (fun _ => 0) ≤ _
          unfold sum8
          simp only
          omega
        · show fgT (S.2.1 v1.toInt.toNat).2 (txN S v1.toInt.toNat) _ ≤ 20
          have := (fgT_b (S.2.1 v1.toInt.toNat).2 (txN S v1.toInt.toNat) (psT (S.2.1 v1.toInt.toNat).2 (txN S v1.toInt.toNat) (i0T (S.2.1 v1.toInt.toNat).2 (txN S v1.toInt.toNat)) i + 2)).2.1
          omega
      · exact h
  · exact h
