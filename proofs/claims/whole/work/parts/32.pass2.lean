theorem c_rdLoop {D : Dt} {b w : Nat} {B : BedT} {x0 : RdT} (hb : BRep D b B) (hB : BOk B) (hd : w + 5 < b ∨ b + 5 < w) (hx : RRep D w 0 x0) (h0 : ∀ j, 0 ≤ x0.1 j) (hz : ∀ j, B.1 ≤ j → x0.1 j = 0) (hs : sum8 x0.1 < 900000) :
    ∃ D1, (∀ m, itr (fun _ _ => none) (s_Waters_pass_33 w b) (m + B.1) 0 D = itr (fun _ _ => none) (s_Waters_pass_33 w b) m (zI B.1) D1) ∧ RRep D1 w B.1 (rdN B B.1 x0) ∧ D1 w 5 = D w 5 ∧ ∀ k, k ≠ w → k ≠ w + 1 → k ≠ w + 3 → k ≠ w + 4 → D1 k = D k := by
  have h8 := hB.1
  obtain ⟨E, ⟨r1, r2, r3⟩, e⟩ := itr_go (fun _ _ => none) (s_Waters_pass_33 w b) (fun i E k => k (zI i) E) B.1 (fun i (E : Dt) => RRep E w i (rdN B i x0) ∧ E w 5 = D w 5 ∧ ∀ k, k ≠ w → k ≠ w + 1 → k ≠ w + 3 → k ≠ w + 4 → E k = D k)
    (fun i hi E ⟨g1, g2, g3⟩ => by
      have hbE : BRep E b B := hb.congr (fun k a c => g3 k (by omega) (by omega) (by omega) (by omega))
      obtain ⟨⟨o1, o2, o3, o4, o5⟩, -⟩ := rdN_ok (B := B) h8 h0 hz i (by omega)
      have hle : ∀ j, j < 8 → (rdN B i x0).1 j < 900000 := fun j hj => by have := le_sum8 o1 hj; omega
      obtain ⟨F, f1, f2, f3, f4⟩ := c_runDown hbE hB hd g1 hi o1 hle
      refine ⟨F, ⟨f2, f3.trans g2, fun k p0 p1 p3 p4 => (f4 k p0 p1 p3 p4).trans (g3 k p0 p1 p3 p4)⟩, fun k => ?_⟩
      unfold s_Waters_pass_33
      rw [hbE.1, if_neg (by rw [zI_le (by omega) (by omega) (by omega) (by omega)]; omega), f1, bnd_s, zI_s])
    D ⟨hx, rfl, fun _ _ _ _ _ => rfl⟩
  exact ⟨E, e, r1, r2, r3⟩
theorem c_sink {D : Dt} {b w i : Nat} {B : BedT} {a c : Int} (hb : BRep D b B) (hB : BOk B) (hi : i < B.1) (ha : D (w + 1) i = zI a) (hc : D (w + 2) i = zI c) (a0 : 0 ≤ a) (a1 : a < 900000) (c0 : 0 ≤ c) (c1 : c ≤ 9) :
    f_Waters_sinkIntoCellar w b (zI i) D = some ((), wr (wr (wr D (w + 5) i (zI (min (max (a - sS B i) 0) (rR B i - c)))) (w + 1) i (zI (a - min (max (a - sS B i) 0) (rR B i - c)))) (w + 2) i (zI (c + min (max (a - sS B i) 0) (rR B i - c)))) := by
  have h8 := hB.1
  obtain ⟨-, -, s0, r0, -⟩ := hB.2.2.2 i hi
  obtain ⟨-, -, e3, e4, -⟩ := hb.at hB hi
  unfold f_Waters_sinkIntoCellar
  simp only [inb_t (show (0 : Int) ≤ (i : Int) by omega) (show (i : Int) < (8 : Nat) by omega) (by omega), if_true, zI_nat (show i < 2147483648 by omega), nm_s, e3, e4, ha, hc, zI_sub]
  rw [show (0 : Int32) = zI 0 from rfl, imax_z (by omega) (by omega) (by omega) (by omega), imin_z (by omega) (by omega) (by omega) (by omega), wr_ne (show w + 1 ≠ w + 5 by omega), ha, zI_sub, wr_ne (show w + 2 ≠ w + 1 by omega), wr_ne (show w + 2 ≠ w + 5 by omega), hc, zI_add]
/-- the class's hour: pass -/
theorem c_pass {D : Dt} {b w op : Nat} {B : BedT} {W : WatT} {T : Int} (hb : BRep D b B) (hB : BOk B) (hn : 0 < B.1) (hd : w + 5 < b ∨ b + 5 < w) (hW : WRep D w W) (hT : WOk B W T) (hT2 : T < 800000) (hop : op = 0 ∨ op = 1) :
    ∃ D1, f_Waters_pass w b (zI op) D = some ((), D1) ∧ WRep D1 w (hrW B op W) ∧ (∀ j, j < B.1 → D1 (w + 4) j = zI ((rdW B op W).2.2.2 j) ∧ D1 (w + 5) j = zI (gotZ B op W j)) ∧ ∀ k, (k < w ∨ w + 5 < k) → D1 k = D k := by
  have h8 := hB.1
  obtain ⟨w1, w2, w3⟩ := hW
  obtain ⟨p1, p2, p3⟩ := opA_ok (op := op) hB hn hT
  obtain ⟨-, hg9, q1, q2, q3, -, -, -⟩ := hrW_ok (op := op) hB hn hT
  -- the sluice
  have hE : ∃ E, f_Waters_pass w b (zI op) D = b_Waters_pass_31 w b E ∧ RRep E w 0 (opA B op W, W.2.2.1, W.2.2.2.2, fun _ => 0) ∧ E w 5 = zI (if op = 1 then W.2.2.2.1 + B.2.1 else W.2.2.2.1) ∧ E (w + 2) = D (w + 2) ∧ ∀ k, k ≠ w → k ≠ w + 1 → E k = D k := by
    unfold f_Waters_pass
    rcases hop with rfl | rfl
    · refine ⟨D, by rw [if_neg (by decide)], ⟨fun j hj => ?_, fun j hj => (w3 j hj).2.2, w2, fun j hj => by omega⟩, by rw [if_neg (by omega)]; exact w1, rfl, fun _ _ _ => rfl⟩
      show D (w + 1) j = zI (opA B 0 W j)
      unfold opA
      rw [if_neg (by omega)]; exact (w3 j hj).1
    · rw [if_pos (by rfl), if_pos (by decide), if_pos (by decide)]
      simp only [nm_s]
      have e0 : (0 : Int32).toNatClampNeg = 0 := by decide
      rw [e0, (w3 0 (by omega)).1, (hb.2.1 hn).1, zI_add, wr_ne (show w ≠ w + 1 by omega), wr_ne (show b ≠ w + 1 by omega), w1, (hb.2.1 hn).1, zI_add]
      refine ⟨_, rfl, ⟨fun j hj => ?_, fun j hj => ?_, ?_, fun j hj => by omega⟩, ?_, ?_, fun k a c => by rw [wr_ne a, wr_ne c]⟩
      · rw [wr_ne (by omega), wr_at]
        show _ = zI (opA B 1 W j)
        unfold opA
        rw [if_pos rfl]
        exact upd_z (fun j hj => (w3 j hj).1) _ j hj
      · rw [wr_ne (by omega), wr_ne (by omega)]; exact (w3 j hj).2.2
      · rw [wr_at, upd_ne (by omega), wr_ne (by omega)]; exact w2
      · rw [wr_at, upd_at]; simp only [if_true]
      · rw [wr_ne (by omega), wr_ne (by omega)]
  obtain ⟨E, e1, e2, e3, e4, e5⟩ := hE
  rw [e1]
  unfold b_Waters_pass_31 lp_Waters_pass_33
  have hbE : BRep E b B := hb.congr (fun k a c => e5 k (by omega) (by omega))
  obtain ⟨F, f1, f2, f3, f4⟩ := c_rdLoop hbE hB hd e2 p1 p2 (by show sum8 (opA B op W) < 900000; omega)
  obtain ⟨m, hm⟩ := FU_eq (n := B.1 + 1) (by omega)
  rw [hm, show m + (B.1 + 1) = (m + 1) + B.1 by omega, f1, itr_s]
  have hbF : BRep F b B := hbE.congr (fun k a c => f4 k (by omega) (by omega) (by omega) (by omega))
  unfold s_Waters_pass_33
  rw [hbF.1, if_pos ((zI_le (by omega) (by omega) (by omega) (by omega)).mpr (by omega))]
  obtain ⟨g1, g2, g3, g4⟩ := f2
  change ∀ j, j < 8 → F (w + 1) j = zI ((rdW B op W).1 j) at g1
  change ∀ j, j < 8 → F (w + 3) j = zI ((rdW B op W).2.1 j) at g2
  change F w 6 = zI (rdW B op W).2.2.1 at g3
  change ∀ j, j < B.1 → F (w + 4) j = zI ((rdW B op W).2.2.2 j) at g4
  have hF2 : ∀ j, j < 8 → F (w + 2) j = zI (W.2.1 j) := fun j hj => by rw [f4 _ (by omega) (by omega) (by omega) (by omega), e4]; exact (w3 j hj).2.1
  -- the cellars
  unfold lp_Waters_pass_55
  rw [hm, show m + (B.1 + 1) = (m + 1) + B.1 by omega]
  obtain ⟨K, ⟨k1, k2, k5, k6⟩, ke⟩ := itr_go (fun _ _ => none) (s_Waters_pass_55 w b) (fun i E k => k (zI i) E) B.1 (fun i (E : Dt) => (∀ j, j < 8 → E (w + 1) j = zI ((rdW B op W).1 j - if j < i then gotZ B op W j else 0)) ∧ (∀ j, j < 8 → E (w + 2) j = zI (W.2.1 j + if j < i then gotZ B op W j else 0)) ∧ (∀ j, j < i → E (w + 5) j = zI (gotZ B op W j)) ∧ ∀ k, k ≠ w + 1 → k ≠ w + 2 → k ≠ w + 5 → E k = F k)
    (fun i hi E ⟨t1, t2, t5, t6⟩ => by
      have hbE : BRep E b B := hbF.congr (fun k a c => t6 k (by omega) (by omega) (by omega))
      have y1 := t1 i (by omega)
      have y2 := t2 i (by omega)
      rw [if_neg (by omega), Int.sub_zero] at y1
      rw [if_neg (by omega), Int.add_zero] at y2
      have hgi : gotZ B op W i = min (max ((rdW B op W).1 i - sS B i) 0) (rR B i - W.2.1 i) := by unfold gotZ; rw [if_pos hi]
      have hle := le_sum8 q1 (show i < 8 by omega)
      have hcw := hT.2.2.1 i hi
      have hrr := (hB.2.2.2 i hi).2.2.2.1
      have hs := c_sink hbE hB hi y1 y2 (q1 i) (by omega) hcw.1 (by omega)
      rw [← hgi] at hs
      refine ⟨wr (wr (wr E (w + 5) i (zI (gotZ B op W i))) (w + 1) i (zI ((rdW B op W).1 i - gotZ B op W i))) (w + 2) i (zI (W.2.1 i + gotZ B op W i)), ⟨fun j hj => ?_, fun j hj => ?_, fun j hj => ?_, fun k a c d => by rw [wr_ne c, wr_ne a, wr_ne d]; exact t6 k a c d⟩, fun k => by
        unfold s_Waters_pass_55
        rw [hbE.1, if_neg (by rw [zI_le (by omega) (by omega) (by omega) (by omega)]; omega), hs, bnd_s, zI_s]⟩
      · rw [wr_ne (by omega), wr_at]
        by_cases z : j = i
        · subst z; rw [upd_at, if_pos (by omega)]
        · rw [upd_ne z, wr_ne (by omega), t1 j hj]
          by_cases z2 : j < i
          · rw [if_pos z2, if_pos (by omega)]
          · rw [if_neg z2, if_neg (by omega)]
      · rw [wr_at]
        by_cases z : j = i
        · subst z; rw [upd_at, if_pos (by omega)]
        · rw [upd_ne z, wr_ne (by omega), wr_ne (by omega), t2 j hj]
          by_cases z2 : j < i
          · rw [if_pos z2, if_pos (by omega)]
          · rw [if_neg z2, if_neg (by omega)]
      · rw [wr_ne (by omega), wr_ne (by omega), wr_at]
        by_cases z : j = i
        · subst z; rw [upd_at]
        · rw [upd_ne z]; exact t5 j (by omega))
    F ⟨fun j hj => by rw [if_neg (by omega), Int.sub_zero]; exact g1 j hj, fun j hj => by rw [if_neg (by omega), Int.add_zero]; exact hF2 j hj, fun j hj => by omega, fun _ _ _ _ => rfl⟩
  have hbK : BRep K b B := hbF.congr (fun k a c => k6 k (by omega) (by omega) (by omega))
  have hge : ∀ j, B.1 ≤ j → gotZ B op W j = 0 := fun j hj => by unfold gotZ; rw [if_neg (by omega)]
  have hif : ∀ j, (if j < B.1 then gotZ B op W j else 0) = gotZ B op W j := fun j => by
    by_cases z : j < B.1
    · rw [if_pos z]
    · rw [if_neg z, hge j (by omega)]
  refine ⟨K, ?_, ⟨?_, ?_, fun j hj => ⟨?_, ?_, ?_⟩⟩, fun j hj => ⟨?_, k5 j hj⟩, fun k hk => ?_⟩
  · refine (ke (m + 1)).trans ?_
    rw [itr_s]
    unfold s_Waters_pass_55
    rw [hbK.1, if_pos ((zI_le (by omega) (by omega) (by omega) (by omega)).mpr (by omega))]
  · rw [k6 w (by omega) (by omega) (by omega), f3, e3]; rfl
  · rw [k6 w (by omega) (by omega) (by omega)]; exact g3
  · rw [k1 j hj, hif]; rfl
  · rw [k2 j hj, hif]; rfl
  · rw [k6 _ (by omega) (by omega) (by omega)]; exact g2 j hj
  · rw [k6 _ (by omega) (by omega) (by omega)]; exact g4 j hj
  · rw [k6 k (by omega) (by omega) (by omega), f4 k (by omega) (by omega) (by omega) (by omega), e5 k (by omega) (by omega)]
