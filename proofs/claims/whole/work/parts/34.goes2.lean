theorem zI_24 : (24 : Int32) = zI ((24 : Nat) : Int) := rfl
/-- the model's hour: goes -/
theorem m_goes {D : Dt} {f op : Nat} {B : BedT} {W : WatT} {T : Int} (hf : f < 2) (hb : MBed D B) (hB : BOk B) (hn : 0 < B.1) (hW : PRep (D 189) (26 * f) W) (hT : WOk B W T) (hT2 : T < 800000) (hop : op = 0 ∨ op = 1) :
    ∃ D1, f_Model_goes (zI f) (zI op) D = some ((), D1) ∧ PRep (D1 189) (26 * f) (hrW B op W) ∧ (∀ j, j < B.1 → D1 190 j = zI ((rdW B op W).2.2.2 j) ∧ D1 191 j = zI (gotZ B op W j)) ∧ D1 176 25 = zI ((hrW B op W).2.2.2.2 - W.2.2.2.2) ∧
      (∀ q, (q < 26 * f ∨ 26 * f + 26 ≤ q) → D1 189 q = D 189 q) ∧ (∀ j, j ≠ 25 → D1 176 j = D 176 j) ∧ ∀ k, k ≠ 176 → k ≠ 189 → k ≠ 190 → k ≠ 191 → D1 k = D k := by
  have h8 := hB.1
  obtain ⟨w1, w2, w3⟩ := hW
  obtain ⟨p1, p2, p3⟩ := opA_ok (op := op) hB hn hT
  obtain ⟨-, hg9, q1, q2, q3, -, -, -⟩ := hrW_ok (op := op) hB hn hT
  obtain ⟨fl, -⟩ := hb.fl hn
  -- the sluice
  have hE : ∃ E, f_Model_goes (zI f) (zI op) D = lp_Model_goes_32 FU (zI f) 0 E ∧ MRd E (26 * f) 0 (opA B op W, W.2.2.1, W.2.2.2.2, fun _ => 0) (opA B op W, W.2.2.1, W.2.2.2.2, fun _ => 0) ∧ E 189 (26 * f + 24) = zI (if op = 1 then W.2.2.2.1 + B.2.1 else W.2.2.2.1) ∧ (∀ j, j < 8 → E 189 (26 * f + (8 + j)) = zI (W.2.1 j)) ∧ (∀ q, (q < 26 * f ∨ 26 * f + 26 ≤ q) → E 189 q = D 189 q) ∧ (∀ j, j ≠ 25 → E 176 j = D 176 j) ∧ ∀ k, k ≠ 176 → k ≠ 189 → E k = D k := by
    unfold f_Model_goes b_Model_goes_25
    rcases hop with rfl | rfl
    · rw [if_pos (by rfl), nm_s]
      refine ⟨_, rfl, ⟨fun j hj => ?_, fun j hj => ?_, ?_, fun j hj => by omega, ?_⟩, ?_, fun j hj => ?_, fun q hq => by rw [wr_ne (by omega)], fun j hj => by rw [wr_at, upd_ne hj], fun k a b => by rw [wr_ne a]⟩
      · rw [wr_ne (by omega)]
        show _ = zI (opA B 0 W j)
        unfold opA; rw [if_neg (by omega)]; exact (w3 j hj).1
      · rw [wr_ne (by omega), ← Nat.add_assoc]; exact (w3 j hj).2.2
      · rw [wr_ne (by omega)]; exact w2
      · rw [wr_at, upd_at]; show _ = zI (W.2.2.2.2 - W.2.2.2.2); rw [Int.sub_self]; rfl
      · rw [wr_ne (by omega), if_neg (by omega)]; exact w1
      · rw [wr_ne (by omega), ← Nat.add_assoc]; exact (w3 j hj).2.1
    · rw [if_neg (by decide), show (0 : Int32) = zI ((0 : Nat) : Int) from rfl, m_add hf (by omega), bnd_s, zI_24, m_add hf (by omega), bnd_s, nm_s, fl, wr_ne (show (176 : Nat) ≠ 189 by omega), fl]
      have y0 := (w3 0 (by omega)).1
      rw [y0, zI_add]
      have y1 : wr D 189 (26 * f + 0) (zI (W.1 0 + B.2.1)) 189 (26 * f + 24) = zI W.2.2.2.1 := by rw [wr_at, upd_ne (by omega)]; exact w1
      rw [y1, zI_add]
      refine ⟨_, rfl, ⟨fun j hj => ?_, fun j hj => ?_, ?_, fun j hj => by omega, ?_⟩, ?_, fun j hj => ?_, fun q hq => ?_, fun j hj => by rw [wr_at, upd_ne hj, wr_ne (by omega), wr_ne (by omega)], fun k a b => by rw [wr_ne a, wr_ne b, wr_ne b]⟩
      · rw [wr_ne (by omega), wr_at, upd_ne (by omega), wr_at]
        show _ = zI (opA B 1 W j)
        unfold opA; rw [if_pos rfl]
        exact upd_sh (fun j hj => (w3 j hj).1) _ j hj
      · rw [wr_ne (by omega), wr_at, upd_ne (by omega), wr_at, upd_ne (by omega), ← Nat.add_assoc]; exact (w3 j hj).2.2
      · rw [wr_ne (by omega), wr_at, upd_ne (by omega), wr_at, upd_ne (by omega)]; exact w2
      · rw [wr_at, upd_at]; show _ = zI (W.2.2.2.2 - W.2.2.2.2); rw [Int.sub_self]; rfl
      · rw [wr_ne (by omega), wr_at, upd_at]; simp only [if_true]
      · rw [wr_ne (by omega), wr_at, upd_ne (by omega), wr_at, upd_ne (by omega), ← Nat.add_assoc]; exact (w3 j hj).2.1
      · rw [wr_ne (by omega), wr_at, upd_ne (by omega), wr_at, upd_ne (by omega)]
  obtain ⟨E, e1, e2, e3, e4, e5, e6, e7⟩ := hE
  rw [e1]
  have hbE : MBed E B := hb.congr (e6 8 (by omega)) (e6 9 (by omega)) (e6 10 (by omega)) (fun k a b => e7 k (by omega) (by omega))
  unfold lp_Model_goes_32
  obtain ⟨m, hm⟩ := FU_eq (n := B.1 + 1) (by omega)
  rw [hm, show m + (B.1 + 1) = (m + 1) + B.1 by omega]
  obtain ⟨F, ⟨f1, f2⟩, fe⟩ := itr_go (fun _ _ _ => none) s_Model_goes_32 (fun i E k => k (zI f) (zI i) E) B.1 (fun i (K : Dt) => MRd K (26 * f) i (opA B op W, W.2.2.1, W.2.2.2.2, fun _ => 0) (rdN B i (opA B op W, W.2.2.1, W.2.2.2.2, fun _ => 0)) ∧ keepRd E K (26 * f))
    (fun i hi K ⟨g1, g2⟩ => by
      obtain ⟨⟨o1, o2, o3, o4, o5⟩, -⟩ := rdN_ok (B := B) h8 (x0 := (opA B op W, W.2.2.1, W.2.2.2.2, fun _ => 0)) p1 p2 i (by omega)
      have hle : ∀ j, j < 8 → (rdN B i (opA B op W, W.2.2.1, W.2.2.2.2, fun _ => 0)).1 j < 900000 := fun j hj => by
        have := le_sum8 o1 hj
        simp only at o3 o4
        omega
      obtain ⟨K1, k1, k2, k3⟩ := m_rdStep hf (g2.bed hbE) hB g1 hi (rdN_out i hi) o1 hle
      refine ⟨K1, ⟨k1, ⟨fun q hq => (k2.1 q hq).trans (g2.1 q hq), fun j hj => (k2.2.1 j hj).trans (g2.2.1 j hj), fun k a b c => (k2.2.2 k a b c).trans (g2.2.2 k a b c)⟩⟩, k3⟩)
    E ⟨e2, ⟨fun _ _ => rfl, fun _ _ => rfl, fun _ _ _ _ => rfl⟩⟩
  have fe := fe (m + 1)
  rw [itr_s] at fe
  refine (show ∃ D1, itr (fun _ _ _ => none) s_Model_goes_32 (m + 1 + B.1) (zI f) (zI ((0 : Nat) : Int)) E = some ((), D1) ∧ _ from ?_)
  rw [fe]
  obtain ⟨g1, g2, g3, g4, g5⟩ := f1
  have hbF : MBed F B := f2.bed hbE
  unfold s_Model_goes_32
  rw [hbF.1, if_pos ((zI_le (by omega) (by omega) (by omega) (by omega)).mpr (by omega))]
  change ∀ j, j < 8 → F 189 (26 * f + j) = zI ((rdW B op W).1 j) at g1
  change ∀ j, j < 8 → F 189 (26 * f + (16 + j)) = zI ((rdW B op W).2.1 j) at g2
  change F 189 (26 * f + 25) = zI (rdW B op W).2.2.1 at g3
  change ∀ j, j < B.1 → F 190 j = zI ((rdW B op W).2.2.2 j) at g4
  change F 176 25 = zI ((rdW B op W).2.2.1 - W.2.2.2.2) at g5
  have hF2 : ∀ j, j < 8 → F 189 (26 * f + (8 + j)) = zI (W.2.1 j) := fun j hj => by rw [f2.1 _ (by omega)]; exact e4 j hj
  -- the cellars
  unfold lp_Model_goes_135
  rw [hm, show m + (B.1 + 1) = (m + 1) + B.1 by omega]
  obtain ⟨K, ⟨k1, k2, k5, k6, k7⟩, ke⟩ := itr_go (fun _ _ _ => none) s_Model_goes_135 (fun i E k => k (zI f) (zI i) E) B.1 (fun i (E : Dt) => (∀ j, j < 8 → E 189 (26 * f + j) = zI ((rdW B op W).1 j - if j < i then gotZ B op W j else 0)) ∧ (∀ j, j < 8 → E 189 (26 * f + (8 + j)) = zI (W.2.1 j + if j < i then gotZ B op W j else 0)) ∧ (∀ j, j < i → E 191 j = zI (gotZ B op W j)) ∧ (∀ q, (q < 26 * f ∨ 26 * f + 16 ≤ q) → E 189 q = F 189 q) ∧ ∀ k, k ≠ 189 → k ≠ 191 → E k = F k)
    (fun i hi E ⟨t1, t2, t5, t6, t7⟩ => by
      have hbE : MBed E B := hbF.congr (by rw [t7 176 (by omega) (by omega)]) (by rw [t7 176 (by omega) (by omega)]) (by rw [t7 176 (by omega) (by omega)]) (fun k a c => t7 k (by omega) (by omega))
      have y1 := t1 i (by omega)
      have y2 := t2 i (by omega)
      rw [if_neg (by omega), Int.sub_zero] at y1
      rw [if_neg (by omega), Int.add_zero] at y2
      have hgi : gotZ B op W i = min (max ((rdW B op W).1 i - sS B i) 0) (rR B i - W.2.1 i) := by unfold gotZ; rw [if_pos hi]
      have hle := le_sum8 q1 (show i < 8 by omega)
      have hq0 := q1 i
      have hcw := hT.2.2.1 i hi
      obtain ⟨-, -, hss, hrr, -⟩ := hB.2.2.2 i hi
      obtain ⟨-, -, b3, b4, -⟩ := hbE.at hB hi
      refine ⟨wr (wr (wr E 191 i (zI (gotZ B op W i))) 189 (26 * f + i) (zI ((rdW B op W).1 i - gotZ B op W i))) 189 (26 * f + (8 + i)) (zI (W.2.1 i + gotZ B op W i)), ⟨fun j hj => ?_, fun j hj => ?_, fun j hj => ?_, fun q hq => ?_, fun k a c => by rw [wr_ne a, wr_ne a, wr_ne c]; exact t7 k a c⟩, fun k => ?_⟩
      · rw [wr_at, upd_ne (by omega), wr_at]
        by_cases z : j = i
        · subst z; rw [upd_at, if_pos (by omega)]
        · rw [upd_ne (by omega), wr_ne (by omega), t1 j hj]
          by_cases z2 : j < i
          · rw [if_pos z2, if_pos (by omega)]
          · rw [if_neg z2, if_neg (by omega)]
      · rw [wr_at]
        by_cases z : j = i
        · subst z; rw [upd_at, if_pos (by omega)]
        · rw [upd_ne (by omega), wr_at, upd_ne (by omega), wr_ne (by omega), t2 j hj]
          by_cases z2 : j < i
          · rw [if_pos z2, if_pos (by omega)]
          · rw [if_neg z2, if_neg (by omega)]
      · rw [wr_ne (by omega), wr_ne (by omega), wr_at]
        by_cases z : j = i
        · subst z; rw [upd_at]
        · rw [upd_ne z]; exact t5 j (by omega)
      · rw [wr_at, upd_ne (by omega), wr_at, upd_ne (by omega), wr_ne (by omega)]; exact t6 q hq
      · unfold s_Model_goes_135
        rw [hbE.1, if_neg (by rw [zI_le (by omega) (by omega) (by omega) (by omega)]; omega), zI_0p, m_v hf (by omega), bnd_s]
        simp only [inb_t (show (0 : Int) ≤ (i : Int) by omega) (show (i : Int) < (8 : Nat) by omega) (by omega), if_true, zI_nat (show i < 2147483648 by omega), nm_s]
        rw [y1, b3, zI_sub, show (0 : Int32) = zI 0 from rfl, m_greater (by omega) (by omega) (by omega) (by omega), bnd_s, zI_8p, m_v hf (by omega), bnd_s, y2, b4, zI_sub, m_lesser (by omega) (by omega) (by omega) (by omega), bnd_s, Int.max_comm 0, ← hgi, wr_at, upd_at, m_add hf (by omega), bnd_s, wr_ne (show (191 : Nat) ≠ 189 by omega), wr_at, upd_at, m_add hf (by omega), bnd_s, zI_s]
        have v1 : wr E 191 i (zI (gotZ B op W i)) 189 (26 * f + i) + -zI (gotZ B op W i) = zI ((rdW B op W).1 i - gotZ B op W i) := by rw [wr_ne (by omega), y1, zI_neg, zI_add]; rfl
        rw [v1]
        have v2 : wr (wr E 191 i (zI (gotZ B op W i))) 189 (26 * f + i) (zI ((rdW B op W).1 i - gotZ B op W i)) 189 (26 * f + (8 + i)) + zI (gotZ B op W i) = zI (W.2.1 i + gotZ B op W i) := by rw [wr_at, upd_ne (by omega), wr_ne (by omega), y2, zI_add]
        rw [v2])
    F ⟨fun j hj => by rw [if_neg (by omega), Int.sub_zero]; exact g1 j hj, fun j hj => by rw [if_neg (by omega), Int.add_zero]; exact hF2 j hj, fun j hj => by omega, fun _ _ => rfl, fun _ _ _ => rfl⟩
  have hge : ∀ j, B.1 ≤ j → gotZ B op W j = 0 := fun j hj => by unfold gotZ; rw [if_neg (by omega)]
  have hif : ∀ j, (if j < B.1 then gotZ B op W j else 0) = gotZ B op W j := fun j => by
    by_cases z : j < B.1
    · rw [if_pos z]
    · rw [if_neg z, hge j (by omega)]
  have hbK : MBed K B := hbF.congr (by rw [k7 176 (by omega) (by omega)]) (by rw [k7 176 (by omega) (by omega)]) (by rw [k7 176 (by omega) (by omega)]) (fun k a c => k7 k (by omega) (by omega))
  refine ⟨K, ?_, ⟨?_, ?_, fun j hj => ⟨?_, ?_, ?_⟩⟩, fun j hj => ⟨?_, k5 j hj⟩, ?_, fun q hq => ?_, fun j hj => ?_, fun k a b c d => ?_⟩
  · refine (ke (m + 1)).trans ?_
    rw [itr_s]
    unfold s_Model_goes_135
    rw [hbK.1, if_pos ((zI_le (by omega) (by omega) (by omega) (by omega)).mpr (by omega))]
  · rw [k6 _ (by omega), f2.1 _ (by omega), e3]; rfl
  · rw [k6 _ (by omega)]; exact g3
  · rw [k1 j hj, hif]; rfl
  · rw [Nat.add_assoc, k2 j hj, hif]; rfl
  · rw [Nat.add_assoc, k6 _ (by omega)]; exact g2 j hj
  · rw [k7 _ (by omega) (by omega)]; exact g4 j hj
  · rw [k7 _ (by omega) (by omega)]; exact g5
  · rw [k6 q (by omega), f2.1 q (by omega)]; exact e5 q hq
  · rw [k7 176 (by omega) (by omega), f2.2.1 j hj]; exact e6 j hj
  · rw [k7 k b d, f2.2.2 k a b c]; exact e7 k a b
