/-! fault, street: the class -/
theorem c_readHouses {a n i0 : Nat} {c : Nat → Int32} (ha : 100 < a) (hn : n ≤ 60) : ∀ (f i m : Nat) (D : Dt) (N : Nat), f + m = 9 → m ≤ 8 → CTx D a n c → HdC D c n i0 m → i = psT c n i0 m → i ≤ n →
    ∃ D1, itr (fun _ _ _ => none) (s_Bed_readHouses_9 20 a) (N + f + 1) (zI i) (zI m) D = some (zI (ftV (rsT c n f i m).1), D1) ∧ (∀ k, (k < 20 ∨ 24 < k) → D1 k = D k) ∧ (∀ j, 5 < j → D1 20 j = D 20 j) ∧ ((rsT c n f i m).1 = none → HdC D1 c n i0 (rsT c n f i m).2) := by
  intro f
  induction f with
  | zero => intro i m D N h1 h2; omega
  | succ f ih =>
    intro i m D N h1 h2 hc hd hp hi
    have e : rsT c n (f + 1) i m = if n ≤ i then (none, m) else if 8 ≤ m then (some i, m) else nxT c n (hfT c n i) m (rsT c n f (bbT c n (i + 4)) (m + 1)) := rfl
    rw [e, itr_s, show N + (f + 1) = N + f + 1 by omega]
    generalize hkk : itr (fun _ _ _ => none) (s_Bed_readHouses_9 20 a) (N + f + 1) = kk
    unfold s_Bed_readHouses_9
    rw [if_neg (by rw [show (8 : Int32) = zI 8 from rfl, zI_lt (by omega) (by omega) (by omega) (by omega)]; omega), hc.1, if_cg (zI_le (by omega) (by omega) (by omega) (by omega))]
    by_cases c1 : n ≤ i
    · rw [if_pos (by omega), if_pos c1]
      exact ⟨D, rfl, fun _ _ => rfl, fun _ _ => rfl, fun _ => hd⟩
    · rw [if_neg (by omega), if_neg c1]
      obtain ⟨E, e1, e2, e3, e4⟩ := c_readHouse hc ha hn (show i < n by omega) h2 hd hp
      rw [e1, bnd_s]
      by_cases c2 : 8 ≤ m
      · rw [if_pos c2, if_pos c2, if_neg (by rw [show (-9 : Int32) = zI (-9) from rfl, zI_eq (by omega) (by omega) (by omega) (by omega)]; omega)]
        exact ⟨E, rfl, fun k hk => e2 k hk, e3, fun q => by cases q⟩
      · rw [if_neg c2, if_neg c2]
        cases hf : hfT c n i with
        | some x =>
          have hx := hfT_x hf
          rw [if_neg (by show ¬ zI (x : Int) = -9; rw [show (-9 : Int32) = zI (-9) from rfl, zI_eq (by omega) (by omega) (by omega) (by omega)]; omega)]
          exact ⟨E, rfl, fun k hk => e2 k hk, e3, fun q => by cases q⟩
        | none =>
          have h3 := (fgT_b c n (i + 3)).2.2 (hfT_0 hf).2.2.2
          have hcE : CTx E a n c := hc.congr (e2 a (by omega)) (e2 (a + 1) (by omega))
          have bp := bbT_p (c := c) (n := n) (i := i + 4)
          rw [if_pos (by rfl), show zI (i : Int) + 4 = zI ((i + 4 : Nat) : Int) from by rw [show (4 : Int32) = zI 4 from rfl, zI_add]; rfl, c_behind hcE hn (by omega), bnd_s, zI_s, ← hkk]
          obtain ⟨G, g1, g2, g3, g4⟩ := ih (bbT c n (i + 4)) (m + 1) E N (by omega) (by omega) hcE (e4 (by omega) hf) (by rw [hp]; rfl) (bp.2.1 (by omega))
          exact ⟨G, g1, fun k hk => by rw [g2 k hk, e2 k hk], fun j hj => by rw [g3 j hj, e3 j hj], g4⟩
theorem c_readStreet {D : Dt} {a n : Nat} {c : Nat → Int32} (h : CTx D a n c) (ha : 100 < a) (hn : n ≤ 60) : ∃ D1, f_Bed_readStreet 20 a D = some (zI (ftV (stT c n).1), D1) ∧ (∀ k, (k < 20 ∨ 25 < k) → D1 k = D k) ∧ ((stT c n).1 = none → BRep D1 20 (bedT c n (stT c n).2)) := by
  have l25 : ln (20 + 5) = 8 := by decide +kernel
  unfold f_Bed_readStreet
  obtain ⟨E, e1, e2, e3⟩ := fillI_ok (20 + 5) 0 (wr D 20 5 0) (by omega)
  have Ek : ∀ k, (k < 20 ∨ 25 < k) → E k = D k := fun k hk => by rw [e3 k (by omega), wr_ne (by omega)]
  have E20 : E 20 = upd (D 20) 5 0 := by rw [e3 20 (by omega), wr_at]
  have hcE : CTx E a n c := h.congr (Ek a (by omega)) (Ek (a + 1) (by omega))
  have q0 := bbT_p (c := c) (n := n) (i := 0)
  have q1 := q0.2.1 (by omega)
  rw [nm_s, e1, bnd_s, show (0 : Int32) = zI ((0 : Nat) : Int) from rfl, c_behind hcE hn (by omega), bnd_s, hcE.1, if_cg (zI_le (by omega) (by omega) (by omega) (by omega))]
  generalize hq : bbT c n 0 = q at *
  have z1 : zI (q : Int) + 1 = zI ((q + 1 : Nat) : Int) := zI_s q
  have z2 : zI (q : Int) + 2 = zI ((q + 2 : Nat) : Int) := by rw [show (2 : Int32) = zI 2 from rfl, zI_add]; rfl
  have z3 : zI (q : Int) + 3 = zI ((q + 3 : Nat) : Int) := by rw [show (3 : Int32) = zI 3 from rfl, zI_add]; rfl
  have est : stT c n = if n ≤ q ∨ ¬ c q = 113 then (some q, 0) else if fgT c n (q + 1) < 1 then (some (q + 1), 0) else if fgT c n (q + 2) = -1 then (some (q + 2), 0) else rsT c n 9 (bbT c n (q + 3)) 0 := by unfold stT; rw [hq]
  rw [z1, z2, z3]
  by_cases c1 : n ≤ q
  · rw [if_pos (by omega), est, if_pos (Or.inl c1)]
    exact ⟨E, rfl, Ek, fun z => by cases z⟩
  · rw [if_neg (by omega), if_pos (inb_t (by omega) (by omega) (by omega)), zI_nat (by omega), hcE.2 q (by omega)]
    by_cases c2 : c q = 113
    · have hno : ¬ (n ≤ q ∨ ¬ c q = 113) := fun z => by rcases z with z | z; exact c1 z; exact z c2
      rw [if_pos c2, c_figure hcE hn (by omega), bnd_s, nm_s, wr_at, upd_at]
      have b1 := fgT_b c n (q + 1)
      have b2 := fgT_b c n (q + 2)
      rw [if_cg (show (1 : Int32) ≤ zI (fgT c n (q + 1)) ↔ 1 ≤ fgT c n (q + 1) from by rw [show (1 : Int32) = zI 1 from rfl, zI_le (by omega) (by omega) (by omega) (by omega)])]
      generalize hF : wr E 20 6 (zI (fgT c n (q + 1))) = F
      have Fk : ∀ k, k ≠ 20 → F k = E k := fun k hk => by rw [← hF, wr_ne hk]
      have hcF : CTx F a n c := hcE.congr (Fk a (by omega)) (Fk (a + 1) (by omega))
      by_cases c3 : fgT c n (q + 1) < 1
      · rw [if_neg (by omega), est, if_neg hno, if_pos c3]
        exact ⟨F, rfl, fun k hk => by rw [Fk k (by omega), Ek k hk], fun z => by cases z⟩
      · rw [if_pos (by omega), c_figure hcF hn (by omega), bnd_s, nm_s, wr_at, upd_at, show (-1 : Int32) = zI (-1) from rfl, if_cg (zI_eq (by omega) (by omega) (by omega) (by omega))]
        generalize hG : wr F 20 7 (zI (fgT c n (q + 2))) = G
        have Gk : ∀ k, k ≠ 20 → G k = F k := fun k hk => by rw [← hG, wr_ne hk]
        have hcG : CTx G a n c := hcF.congr (Gk a (by omega)) (Gk (a + 1) (by omega))
        by_cases c4 : fgT c n (q + 2) = -1
        · rw [if_pos c4, est, if_neg hno, if_neg c3, if_pos c4]
          exact ⟨G, rfl, fun k hk => by rw [Gk k (by omega), Fk k (by omega), Ek k hk], fun z => by cases z⟩
        · rw [if_neg c4]
          have hes : stT c n = rsT c n 9 (bbT c n (q + 3)) 0 := by rw [est, if_neg hno, if_neg c3, if_neg c4]
          have h2 := b2.2.2 c4
          have bp := bbT_p (c := c) (n := n) (i := q + 3)
          unfold f_Bed_readHouses
          rw [c_behind hcG hn (by omega), bnd_s]
          unfold lp_Bed_readHouses_9
          obtain ⟨M, hM⟩ := FU_eq (n := 10) (by omega)
          obtain ⟨H, h1, h3, h4, h5⟩ := c_readHouses (i0 := bbT c n (q + 3)) ha hn 9 (bbT c n (q + 3)) 0 G M (by omega) (by omega) hcG ⟨by rw [← hG, wr_at, upd_ne (by omega), ← hF, wr_at, upd_ne (by omega), E20, upd_at]; rfl, fun j hj => by omega⟩ rfl (bp.2.1 (by omega))
          rw [hM, show M + 10 = M + 9 + 1 by omega, show (0 : Int32) = zI ((0 : Nat) : Int) from rfl, h1, bnd_s, hes]
          refine ⟨H, rfl, fun k hk => by rw [h3 k (by omega), Gk k (by omega), Fk k (by omega), Ek k hk], fun z => ?_⟩
          obtain ⟨y1, y2⟩ := h5 z
          have H20 : ∀ j, 5 < j → H 20 j = G 20 j := h4
          unfold bedT
          rw [hq]
          refine ⟨y1, fun _ => ⟨?_, ?_⟩, fun j hj hm => ?_⟩
          · rw [H20 6 (by omega), ← hG, wr_at, upd_ne (by omega), ← hF, wr_at, upd_at]
          · rw [H20 7 (by omega), ← hG, wr_at, upd_at]
          · obtain ⟨x1, x2, x3, x4⟩ := y2 j hm
            refine ⟨?_, ?_, ?_, ?_, ?_⟩
            · exact (show H 21 j = _ from x1).trans (by rw [show i0T c n = bbT c n (q + 3) from by show bbT c n (bbT c n 0 + 3) = _; rw [hq]])
            · exact (show H 22 j = _ from x2).trans (by rw [show i0T c n = bbT c n (q + 3) from by show bbT c n (bbT c n 0 + 3) = _; rw [hq]])
            · exact (show H 23 j = _ from x3).trans (by rw [show i0T c n = bbT c n (q + 3) from by show bbT c n (bbT c n 0 + 3) = _; rw [hq]])
            · exact (show H 24 j = _ from x4).trans (by rw [show i0T c n = bbT c n (q + 3) from by show bbT c n (bbT c n 0 + 3) = _; rw [hq]])
            · rw [h3 (20 + 5) (by omega), Gk _ (by omega), Fk _ (by omega), e2, l25, if_pos hj]; rfl
    · rw [if_neg c2, est, if_pos (Or.inr c2)]
      exact ⟨E, rfl, Ek, fun z => by cases z⟩
abbrev txN (S : SstT) (t : Nat) : Nat := (S.2.1 t).1.toNat
abbrev txR (S : SstT) (t : Nat) : Option Nat × Nat := stT (S.2.1 t).2 (txN S t)
def newS (S : SstT) (t : Nat) : SstT := sKep (sStr S (bedT (S.2.1 t).2 (txN S t) (txR S t).2, W0, 0, fun _ => W0, fun _ => 0)) (fun k => (false, (S.2.2.2.2 k).2))
def sp_fault (v1 : Int32) (S : SstT) : Int32 × SstT := if wi v1 0 3 = true then (if (S.2.1 v1.toInt.toNat).1 = -1 then (-3, sFind S 1) else (zI (ftV (txR S v1.toInt.toNat).1), S)) else (-1, S)
def sp_street (v1 : Int32) (S : SstT) : Int32 × SstT := if wi v1 0 3 = true then (if (S.2.1 v1.toInt.toNat).1 = -1 then (-3, sFind S 1) else if (txR S v1.toInt.toNat).1 = none then (zI ((txR S v1.toInt.toNat).2 : Nat), newS S v1.toInt.toNat) else (-4, S)) else (-1, S)
theorem rsT_b {c : Nat → Int32} {n : Nat} : ∀ f i m x, i ≤ n → (rsT c n f i m).1 = some x → x ≤ n := by
  intro f
  induction f with
  | zero => intro i m x _ h; cases h
  | succ f ih =>
    intro i m x hi
    have e : rsT c n (f + 1) i m = if n ≤ i then (none, m) else if 8 ≤ m then (some i, m) else nxT c n (hfT c n i) m (rsT c n f (bbT c n (i + 4)) (m + 1)) := rfl
    rw [e]
    by_cases c1 : n ≤ i
    · rw [if_pos c1]; intro q; cases q
    · rw [if_neg c1]
      by_cases c2 : 8 ≤ m
      · rw [if_pos c2]
        intro q
        have : i = x := by injection q
        omega
      · rw [if_neg c2]
        cases hc : hfT c n i with
        | some y =>
          intro q
          have q : y = x := by injection q
          subst q
          unfold hfT at hc
          by_cases d1 : kdT (c i) = -1
          · rw [if_pos d1] at hc
            have : i = y := by injection hc
            omega
          · rw [if_neg d1] at hc
            by_cases d2 : fgT c n (i + 1) = -1
            · rw [if_pos d2] at hc
              have : i + 1 = y := by injection hc
              omega
            · rw [if_neg d2] at hc
              have b2 := (fgT_b c n (i + 1)).2.2 d2
              by_cases d3 : fgT c n (i + 2) = -1
              · rw [if_pos d3] at hc
                have : i + 2 = y := by injection hc
                omega
              · rw [if_neg d3] at hc
                have b3 := (fgT_b c n (i + 2)).2.2 d3
                by_cases d4 : fgT c n (i + 3) = -1
                · rw [if_pos d4] at hc
                  have : i + 3 = y := by injection hc
                  omega
                · rw [if_neg d4] at hc; cases hc
        | none =>
          have h3 := (fgT_b c n (i + 3)).2.2 (hfT_0 hc).2.2.2
          have bp := bbT_p (c := c) (n := n) (i := i + 4)
          exact ih (bbT c n (i + 4)) (m + 1) x (bp.2.1 (by omega))
theorem stT_b {c : Nat → Int32} {n x : Nat} (h : (stT c n).1 = some x) : x ≤ n := by
  have q0 := bbT_p (c := c) (n := n) (i := 0)
  have q1 := q0.2.1 (by omega)
  have b1 := fgT_b c n (bbT c n 0 + 1)
  have b2 := fgT_b c n (bbT c n 0 + 2)
  unfold stT at h
  by_cases c1 : n ≤ bbT c n 0 ∨ ¬ c (bbT c n 0) = 113
  · rw [if_pos c1] at h
    have : bbT c n 0 = x := by injection h
    omega
  · rw [if_neg c1] at h
    have c1a : ¬ n ≤ bbT c n 0 := fun q => c1 (Or.inl q)
    by_cases c2 : fgT c n (bbT c n 0 + 1) < 1
    · rw [if_pos c2] at h
      have : bbT c n 0 + 1 = x := by injection h
      omega
    · rw [if_neg c2] at h
      have d1 := b1.2.2 (by omega)
      by_cases c3 : fgT c n (bbT c n 0 + 2) = -1
      · rw [if_pos c3] at h
        have : bbT c n 0 + 2 = x := by injection h
        omega
      · rw [if_neg c3] at h
        have d2 := b2.2.2 c3
        have bp := bbT_p (c := c) (n := n) (i := bbT c n 0 + 3)
        exact rsT_b 9 _ 0 x (bp.2.1 (by omega)) h
theorem ftV_9 {o : Option Nat} (h : ∀ x, o = some x → x < 1000) : (zI (ftV o) = -9) ↔ o = none := by
  cases o with
  | none => exact ⟨fun _ => rfl, fun _ => rfl⟩
  | some x =>
    have := h x rfl
    refine ⟨fun q => ?_, fun q => by cases q⟩
    have q : zI (x : Int) = zI (-9) := q
    rw [zI_eq (by omega) (by omega) (by omega) (by omega)] at q
    omega
