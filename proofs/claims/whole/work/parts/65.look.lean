/-! look: the class -/
theorem mk_b {S : SstT} (ho : Ok S) (hn : 0 < S.2.2.2.1.1.1) {i : Nat} (hi : i < 8) (p : Nat) : 0 ≤ mkF S i p ∧ mkF S i p ≤ 612 := by
  obtain ⟨o1, o2, o3, ⟨o4, o5, o6⟩, o7, o8⟩ := ho.2.1
  have := tdM_ok o1 hn o4 (by omega) p hi 8
  show 0 ≤ tdM S.2.2.2.1.1 p S.2.2.2.1.2.1 8 i ∧ tdM S.2.2.2.1.1 p S.2.2.2.1.2.1 8 i ≤ 612
  omega
theorem c_tally {D : Dt} {S : SstT} {L : List Nat} {i n : Nat} (hL : L.length ≤ 256) (hf : FitR D S L) (h8 : S.2.2.2.1.1.1 ≤ 8) (hi : i < S.2.2.2.1.1.1) (hn : n < L.length) (hb : ∀ p, 0 ≤ mkF S i p ∧ mkF S i p ≤ 612) : f_Fits_tallyPlace (zI n) (zI i) D = some (zI (mkF S i (lat L n)), D) := by
  have hb := hb (lat L n)
  unfold f_Fits_tallyPlace
  have e8 : zI (n : Int) * 8 + zI (i : Int) = zI ((8 * n + i : Nat) : Int) := by rw [show (8 : Int32) = zI 8 from rfl, zI_mul, zI_add]; congr 1; omega
  rw [e8, if_pos (inb_t (by omega) (by omega) (by omega)), zI_nat (by omega), (hf.2 n hn).2 i hi, show (0 : Int32) = zI 0 from rfl, show (999 : Int32) = zI 999 from rfl]
  generalize mkF S i (lat L n) = z at hb
  rw [imax_z (by omega) (by omega) (by omega) (by omega), imin_z (by omega) (by omega) (by omega) (by omega), show min (max z 0) 999 = z by omega]
theorem c_mostAlike {D : Dt} {S : SstT} {L : List Nat} {i : Nat} (hL : L.length ≤ 256) (hf : FitR D S L) (h8 : S.2.2.2.1.1.1 ≤ 8) (hi : i < S.2.2.2.1.1.1) (hb : ∀ p, 0 ≤ mkF S i p ∧ mkF S i p ≤ 612) : ∃ (v : Nat) (D1 : Dt), f_Fits_mostAlike (zI i) D = some (zI v, D1) ∧ MAl (mkF S i) L v ∧ ∀ k, k ≠ 103 → D1 k = D k := by
  unfold f_Fits_mostAlike lp_Fits_mostAlike_2
  obtain ⟨m, hm⟩ := FU_eq (n := L.length + 1) (by omega)
  rw [hm, show m + (L.length + 1) = (m + 1) + L.length by omega]
  have hfr : ∀ F : Dt, (∀ k, k ≠ 103 → F k = D k) → FitR F S L := fun F hF => hf.congr (hF 100 (by omega)) (hF 101 (by omega)) (hF 102 (by omega))
  obtain ⟨E, ⟨e1, e2⟩, e⟩ := itr_go (fun _ _ _ => none) s_Fits_mostAlike_2 (fun n (F : Dt) k => k (zI i) (zI n) F) L.length (fun n (F : Dt) => (∀ j, j < n → F 103 (mkF S i (lat L j)).toNat = 0) ∧ ∀ k, k ≠ 103 → F k = D k)
    (fun n hn F z => by
      obtain ⟨z1, z2⟩ := z
      have hbn := hb (lat L n)
      refine ⟨wr F 103 (mkF S i (lat L n)).toNat 0, ⟨fun j hj => ?_, fun k hk => by rw [wr_ne hk, z2 k hk]⟩, fun k => ?_⟩
      · rw [wr_at]
        by_cases c : (mkF S i (lat L j)).toNat = (mkF S i (lat L n)).toNat
        · rw [c, upd_at]
        · rw [upd_ne c]
          by_cases d : j = n
          · subst d; exact absurd rfl c
          · exact z1 j (by omega)
      · unfold s_Fits_mostAlike_2
        rw [(hfr F z2).1, if_neg (by rw [zI_le (by omega) (by omega) (by omega) (by omega)]; omega), c_tally hL (hfr F z2) h8 hi hn hb, bnd_s, if_pos (inb_t (by omega) (by omega) (by omega)), nm_s, zI_clamp (by omega) (by omega), zI_s])
    D ⟨fun j hj => by omega, fun _ _ => rfl⟩
  have e := e (m + 1)
  refine (show ∃ (v : Nat) (D1 : Dt), itr (fun _ _ _ => none) s_Fits_mostAlike_2 (m + 1 + L.length) (zI i) (zI ((0 : Nat) : Int)) D = some (zI v, D1) ∧ _ from ?_)
  rw [e, itr_s]
  unfold s_Fits_mostAlike_2
  rw [(hfr E e2).1, if_pos ((zI_le (by omega) (by omega) (by omega) (by omega)).mpr (by omega))]
  unfold lp_Fits_mostAlike_32
  rw [hm, show m + (L.length + 1) = (m + 1) + L.length by omega]
  obtain ⟨⟨F, v⟩, ⟨f1, f2, f3⟩, e⟩ := itr_go (fun _ _ _ _ => none) s_Fits_mostAlike_32 (fun n (F : Dt × Nat) k => k (zI i) (zI (F.2 : Nat)) (zI n) F.1) L.length (fun n (F : Dt × Nat) => (∀ p, p ∈ L → F.1 103 (mkF S i p).toNat = zI (cnL (mkF S i) (L.take n) (mkF S i p) : Nat)) ∧ MAl (mkF S i) (L.take n) F.2 ∧ ∀ k, k ≠ 103 → F.1 k = D k)
    (fun n hn F z => by
      obtain ⟨z1, z2, z3⟩ := z
      have hbn := hb (lat L n)
      have ht := take_s hn
      have hv := z2.le
      have hlt : (L.take n).length ≤ 256 := by rw [List.length_take]; omega
      have hc := cnL_le (mkF S i) (L.take n) (mkF S i (lat L n))
      have hcs := cnL_s (mkF S i) (L.take n) (lat L n) (mkF S i (lat L n))
      rw [if_pos rfl] at hcs
      refine ⟨(wr F.1 103 (mkF S i (lat L n)).toNat (zI (cnL (mkF S i) (L.take (n + 1)) (mkF S i (lat L n)) : Nat)), max F.2 (cnL (mkF S i) (L.take (n + 1)) (mkF S i (lat L n)))), ⟨fun p hp => ?_, by rw [ht]; exact z2.step _, fun k hk => by show wr F.1 103 _ _ k = _; rw [wr_ne hk, z3 k hk]⟩, fun k => ?_⟩
      · show wr F.1 103 _ _ 103 _ = _
        rw [wr_at]
        have hbp := hb p
        by_cases c : mkF S i p = mkF S i (lat L n)
        · rw [c, upd_at]
        · rw [upd_ne (by omega), z1 p hp, ht, cnL_s, if_neg (fun q => c q.symm), Nat.add_zero]
      · show s_Fits_mostAlike_32 k (zI i) (zI (F.2 : Nat)) (zI n) F.1 = k (zI i) (zI ((max F.2 (cnL (mkF S i) (L.take (n + 1)) (mkF S i (lat L n))) : Nat) : Int)) (zI ((n + 1 : Nat) : Int)) _
        unfold s_Fits_mostAlike_32
        have hin : inb (zI (mkF S i (lat L n))) 1000 = true := inb_t (by omega) (by omega) (by omega)
        rw [(hfr F.1 z3).1, if_neg (by rw [zI_le (by omega) (by omega) (by omega) (by omega)]; omega), c_tally hL (hfr F.1 z3) h8 hi hn hb, bnd_s, if_pos hin, if_pos hin, nm_s, if_pos hin, zI_clamp (by omega) (by omega), z1 _ (lat_mem hn), zI_s, ← hcs, ← ht, wr_at, upd_at, nm_s, imax_z (by omega) (by omega) (by omega) (by rw [ht]; omega), zI_s, show (((max F.2 (cnL (mkF S i) (L.take (n + 1)) (mkF S i (lat L n)))) : Nat) : Int) = max (F.2 : Int) (cnL (mkF S i) (L.take (n + 1)) (mkF S i (lat L n)) : Nat) by omega])
    (E, 0) ⟨fun p hp => by
      obtain ⟨j, hj, rfl⟩ := mem_lat hp
      exact e1 j hj, MAl.nil _, e2⟩
  have e := e (m + 1)
  refine (show ∃ (v : Nat) (D1 : Dt), itr (fun _ _ _ _ => none) s_Fits_mostAlike_32 (m + 1 + L.length) (zI i) (zI ((0 : Nat) : Int)) (zI ((0 : Nat) : Int)) E = some (zI v, D1) ∧ _ from ?_)
  refine ⟨v, F, ?_, ?_, f3⟩
  · refine e.trans ?_
    rw [itr_s]
    show s_Fits_mostAlike_32 (itr (fun _ _ _ _ => none) s_Fits_mostAlike_32 m) (zI i) (zI ((v : Nat) : Int)) (zI (L.length : Nat)) F = _
    unfold s_Fits_mostAlike_32
    rw [(hfr F f3).1, if_pos ((zI_le (by omega) (by omega) (by omega) (by omega)).mpr (by omega))]
  · rw [List.take_length] at f2; exact f2
def lkz (o : Option (Nat × Nat)) : Int := match o with
  | none => -9
  | some (b, _) => b
def lkw (o : Option (Nat × Nat)) (d : Nat) : Nat := match o with
  | none => d
  | some (_, w) => w
theorem lkB_s (u : Nat → Bool) (l : Nat → Nat) (n : Nat) : lkB u l (n + 1) = if u n = true then (match lkB u l n with
      | none => some (n, l n)
      | some (b, w) => if l n < w then some (n, l n) else some (b, w)) else lkB u l n := rfl
theorem k_look {D : Dt} {S : SstT} (h : CRep D S) (ho : Ok S) (v1 : Int32) : CDo (f_Root_look v1 D) D (sp_look v1 S).1 (sp_look v1 S).2 := by
  have h8 := ho.2.1.1.1
  obtain ⟨E, e1, e2, e3⟩ := c_refusedMarks h ho v1
  unfold f_Root_look sp_look
  rw [e1, bnd_s]
  by_cases c : (rfMk v1 S).1 = 0
  · obtain ⟨q1, q2, q3, q4⟩ := rfMk_0 c
    rw [if_pos c, if_pos c]
    have e2x : CRep E S := by rw [q1] at e2; exact e2
    obtain ⟨r, hr, -, rfl⟩ := wi_nat q2 (by omega)
    have er : (zI (r : Int)).toInt.toNat = r := by rw [zI_toInt (by omega) (by omega), Int.toNat_natCast]
    have eL : ftL S (zI (r : Int)) = fitL (ftB S r) PL := by show fitL (ftB S (zI (r : Int)).toInt.toNat) PL = _; rw [er]
    rw [er] at q4
    obtain ⟨F, f1, f2, f3, f4⟩ := c_gather e2x ho q3 (show r < 6 by omega) q4
    have hp := fit_perm (ftB S r) PL_e
    have hl : (fitC (ftB S r) PL).length ≤ 256 := fitC_len _ _
    have hl2 : (fitL (ftB S r) PL).length ≤ 256 := fitL_len _ _
    have hin : inb (zI (r : Int)) 6 = true := inb_t (by omega) (by omega) (by omega)
    rw [if_pos hin, zI_nat (by omega), f1, bnd_s, f4.1, eL, er, show (0 : Int32) = zI ((0 : Nat) : Int) from rfl, if_cg (zI_eqn (by omega) (by omega)), hp.length_eq]
    by_cases g : (fitL (ftB S r) PL).length = 0
    · rw [if_pos g, if_pos g]
      exact (c_find f2 4 (by omega)).bind (fun k hk => by rw [f3 k hk, e3 k hk])
    · rw [if_neg g, if_neg g]
      generalize hl' : (fun i => moR (mkF S i) (fitL (ftB S r) PL)) = l
      have hl3 : ∀ i, l i ≤ 256 := fun i => by
        rw [← hl']
        exact Nat.le_trans (moR_ok (mkF S i) (fitL (ftB S r) PL)).le hl2
      unfold lp_Root_look_49
      obtain ⟨m, hm⟩ := FU_eq (n := S.2.2.2.1.1.1 + 1) (by omega)
      rw [hm, show m + (S.2.2.2.1.1.1 + 1) = (m + 1) + S.2.2.2.1.1.1 by omega]
      obtain ⟨K, ⟨k1, k2, k3⟩, e⟩ := itr_go (fun _ _ _ _ _ => none) s_Root_look_49 (fun i (K : Dt) k => k (zI r) (zI (lkz (lkB (unB S r) l i))) (zI (lkw (lkB (unB S r) l i) 257 : Nat)) (zI i) K) S.2.2.2.1.1.1 (fun i (K : Dt) => CRep K S ∧ FitR K S (fitC (ftB S r) PL) ∧ FrC D K)
        (fun i hi K z => by
          obtain ⟨z1, z2, z3⟩ := z
          obtain ⟨g1, g2⟩ := z1.1 r (by omega)
          have hw : lkw (lkB (unB S r) l i) 257 ≤ 257 := by
            cases hc : lkB (unB S r) l i with
            | none => exact Nat.le_refl _
            | some x =>
              obtain ⟨b, w⟩ := x
              have := (lkB_ok hl3 i b w hc).2
              show w ≤ 257
              omega
          have i60 : inb (zI (i : Int)) 60 = true := inb_t (by omega) (by omega) (by omega)
          have ngt : ¬ zI (S.2.2.2.1.1.1 : Nat) ≤ zI (i : Int) := by rw [zI_le (by omega) (by omega) (by omega) (by omega)]; omega
          by_cases u : (S.1 r).2 i = -9
          · obtain ⟨v, L, l1, l2, l3⟩ := c_mostAlike hl z2 h8 hi (fun p => mk_b ho q3 (by omega) p)
            have hv : v = l i := by
              rw [← hl']
              exact (l2.perm hp).uniq (moR_ok _ _)
            subst hv
            have hli := hl3 i
            refine ⟨L, ⟨z1.congr (fun k hk => l3 k (fun q => by subst q; revert hk; decide)), z2.congr (l3 100 (by omega)) (l3 101 (by omega)) (l3 102 (by omega)), fun k hk => by rw [l3 k (by omega), z3 k hk]⟩, fun k => ?_⟩
            unfold s_Root_look_49 b_Root_look_96 b_Root_look_112
            rw [z1.2.2.2.1.1.1, if_neg ngt, if_pos hin, if_pos i60, zI_nat (by omega), zI_nat (by omega), g2 i (by omega), if_pos u, l1, bnd_s, zI_s, if_cg (zI_le (by omega) (by omega) (by omega) (by omega)), lkB_s, if_pos (show unB S r i = true from decide_eq_true u)]
            cases hc : lkB (unB S r) l i with
            | none =>
              rw [show lkw none 257 = 257 from rfl, if_neg (by omega)]
              rfl
            | some x =>
              obtain ⟨b, w⟩ := x
              rw [show lkw (some (b, w)) 257 = w from rfl]
              refine (show _ = k (zI r) (zI (lkz (if l i < w then some (i, l i) else some (b, w)))) (zI (lkw (if l i < w then some (i, l i) else some (b, w)) 257 : Nat)) (zI ((i + 1 : Nat) : Int)) L from ?_)
              by_cases t : l i < w
              · rw [if_neg (by omega), if_pos t]; rfl
              · rw [if_pos (by omega), if_neg t]; rfl
          · refine ⟨K, ⟨z1, z2, z3⟩, fun k => ?_⟩
            unfold s_Root_look_49 b_Root_look_96 b_Root_look_112
            rw [z1.2.2.2.1.1.1, if_neg ngt, if_pos hin, if_pos i60, zI_nat (by omega), zI_nat (by omega), g2 i (by omega), if_neg u, zI_s, lkB_s, if_neg (show ¬ unB S r i = true from fun q => u (of_decide_eq_true q)), if_pos (by rw [show (257 : Int32) = zI ((257 : Nat) : Int) from rfl, zI_le (by omega) (by omega) (by omega) (by omega)]; omega)])
        F ⟨f2, f4, fun k hk => by rw [f3 k hk, e3 k hk]⟩
      have e := e (m + 1)
      refine (show CDo (itr (fun _ _ _ _ _ => none) s_Root_look_49 (m + 1 + S.2.2.2.1.1.1) (zI r) (zI (lkz (lkB (unB S r) l 0))) (zI (lkw (lkB (unB S r) l 0) 257 : Nat)) (zI ((0 : Nat) : Int)) F) D _ _ from ?_)
      rw [e, itr_s]
      unfold s_Root_look_49
      rw [k1.2.2.2.1.1.1, if_pos ((zI_le (by omega) (by omega) (by omega) (by omega)).mpr (by omega))]
      cases hc : lkB (unB S r) l S.2.2.2.1.1.1 with
      | none =>
        rw [if_pos (by rfl)]
        exact ⟨K, rfl, k1, k3⟩
      | some x =>
        obtain ⟨b, w⟩ := x
        have hbw := lkB_ok hl3 _ b w hc
        rw [if_neg (by show ¬ zI (b : Int) = -9; rw [show (-9 : Int32) = zI (-9) from rfl, zI_eq (by omega) (by omega) (by omega) (by omega)]; omega)]
        exact (c_tell k1 _ _).bind k3
  · rw [if_neg c, if_neg c]
    exact ⟨E, rfl, e2, e3⟩
