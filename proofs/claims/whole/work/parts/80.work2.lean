/-! work -/
theorem lat_range {n j : Nat} (h : j < n) : lat (List.range n) j = j := by
  unfold lat
  rw [List.getD_eq_getElem?_getD, List.getElem?_range h]
  rfl
theorem ords_c {n : Nat} (hn : n ≤ 6) : ∃ r, dfsL n n [] = List.range n :: r := by
  have h := (ords_d n (by omega)).2.1
  cases hc : dfsL n n [] with
  | nil => rw [hc] at h; cases h
  | cons L r =>
    rw [hc] at h
    have h : L = List.range n := by
      have h : some L = some (List.range n) := h
      injection h
    rw [h]
    exact ⟨r, rfl⟩
def wkR (S : SstT) (a b : Nat) : Int × List Nat := bsF (jT S a) (jT S b) (99999, []) (dfsL (jN S a) (jN S a) [])
theorem bsF_0 {n : Nat} {tk du : Nat → Int} (hj : JbOk n tk du) : bsF tk du (1000000000, []) (dfsL n n []) = bsF tk du (99999, []) (dfsL n n []) := by
  obtain ⟨r, e⟩ := ords_c hj.1
  have hl := (ords_d n (by have := hj.1; omega)).2.2.2
  rw [e, List.all_cons, Bool.and_eq_true] at hl
  have lb := lt_b hj hl.1
  rw [e]
  show bsF tk du (bsS tk du (1000000000, []) (List.range n)) r = bsF tk du (bsS tk du (99999, []) (List.range n)) r
  unfold bsS
  rw [if_pos (show (ltL tk du (List.range n)).2 < 1000000000 by omega), if_pos (show (ltL tk du (List.range n)).2 < 99999 by omega)]
def sp_work (v1 v2 v3 : Int32) (S : SstT) : Int32 × SstT := if wi v3 0 5 = true then (if (rfJb v1 v2 S).1 = 0 then (zI (wkR S v1.toInt.toNat v2.toInt.toNat).1, sRow S v3.toInt.toNat (((jN S v1.toInt.toNat : Nat) : Int), fun j => zI (lat (wkR S v1.toInt.toNat v2.toInt.toNat).2 j : Nat))) else rfJb v1 v2 S) else (-1, S)
theorem k_work {D : Dt} {S : SstT} (h : CRep D S) (ho : Ok S) (v1 v2 v3 : Int32) : CDo (f_Root_work v1 v2 v3 D) D (sp_work v1 v2 v3 S).1 (sp_work v1 v2 v3 S).2 := by
  obtain ⟨E, e1, e2, e3⟩ := c_refusedJobs h ho v1 v2
  unfold f_Root_work sp_work
  rw [c_isRow, bnd_s, zo_if]
  by_cases c0 : wi v3 0 5 = true
  · rw [if_pos c0, if_pos c0, e1, bnd_s]
    by_cases c : (rfJb v1 v2 S).1 = 0
    · obtain ⟨q1, q2, q3, q4, q5, q6, q7, q8⟩ := rfJb_0 c
      have e2x : CRep E S := by rw [q1] at e2; exact e2
      obtain ⟨a, ha, -, rfl⟩ := wi_nat q2 (by omega)
      obtain ⟨b, hb, -, rfl⟩ := wi_nat q3 (by omega)
      obtain ⟨r, hr, -, rfl⟩ := wi_nat c0 (by omega)
      have ea : (zI (a : Int)).toInt.toNat = a := by rw [zI_toInt (by omega) (by omega), Int.toNat_natCast]
      have eb : (zI (b : Int)).toInt.toNat = b := by rw [zI_toInt (by omega) (by omega), Int.toNat_natCast]
      have er : (zI (r : Int)).toInt.toNat = r := by rw [zI_toInt (by omega) (by omega), Int.toNat_natCast]
      rw [ea] at q4 q5 q6 q7
      rw [eb] at q6 q8
      have hz := ho.1.1 a (by omega)
      unfold rwOk at hz
      have hj := jb_ok q5 q6 q7 q8
      have hn6 : jN S a ≤ 6 := hj.1
      rw [if_pos c, if_pos c, ea, eb, er]
      have i1 : inb (zI (a : Int)) 6 = true := inb_t (by omega) (by omega) (by omega)
      have i2 : inb (zI (b : Int)) 6 = true := inb_t (by omega) (by omega) (by omega)
      have i3 : inb (zI (r : Int)) 6 = true := inb_t (by omega) (by omega) (by omega)
      obtain ⟨F, f1, f2, f3, f4⟩ := c_jTake e2x (show a < 6 by omega) (show b < 6 by omega) (by omega) q5 q6
      rw [if_pos i1, if_pos i2, zI_nat (by omega), zI_nat (by omega), f1, bnd_s]
      obtain ⟨rr, hrr⟩ := ords_c hn6
      obtain ⟨d1, d2, d3, d4⟩ := ords_d (jN S a) (by omega)
      obtain ⟨M, hM⟩ := FU_eq (n := (dfsL (jN S a) (jN S a) []).length + 1) (by omega)
      obtain ⟨G, g1, g2, g3, g4⟩ := c_best hj (dfsL (jN S a) (jN S a) []) (List.range (jN S a)) rr (1000000000, []) F M 0 hrr d1 d4 (by omega) f2 (fun j hj2 => by rw [List.length_range] at hj2; rw [lat_range hj2]; exact f3 j hj2) (Or.inl rfl)
      rw [show M + (dfsL (jN S a) (jN S a) []).length + 1 = M + ((dfsL (jN S a) (jN S a) []).length + 1) by omega, ← hM, bsF_0 hj] at g1
      rw [bsF_0 hj] at g2 g3
      have g1 : f_Jobs_findBestOrder F = some (zI (wkR S a b).1, G) := g1
      have g2 : BsC G (jN S a) (wkR S a b) := g2
      have g3 : (wkR S a b).1 ≠ 1000000000 := g3
      have G4 : G 104 4 = zI (jN S a : Nat) := by rw [g4 104 (by omega) (by omega)]; exact f2.1
      have hG : CRep G S := e2x.congr (fun k hk => by
        simp only [cIds, Bool.or_eq_true, Bool.and_eq_true, decide_eq_true_eq, beq_iff_eq] at hk
        rw [g4 k (by omega) (by omega), f4 k (by omega)])
      rcases g2 with q | ⟨-, -, w3⟩
      · exact absurd q g3
      · have l8 : ln 108 = 6 := by decide +kernel
        obtain ⟨H, h1, h2, h3⟩ := c_rTake hG (r := r) (a := 108) (n := jN S a) (by omega) (by omega) (by omega) (fun j => zI (lat (wkR S a b).2 j : Nat)) w3 (by omega)
        rw [g1, bnd_s, if_pos i3, zI_nat (by omega), G4, h1, bnd_s]
        exact ⟨H, rfl, h2, fun k hk => by rw [h3 k (by omega) (by omega), g4 k (by omega) (by omega), f4 k (by omega), e3 k hk]⟩
    · rw [if_neg c, if_neg c]
      exact ⟨E, rfl, e2, e3⟩
  · rw [if_neg c0, if_neg c0]
    exact CDo.same h _
/-! the model's orders, one deeper each -/
def BsM (D : Dt) (n : Nat) (a : Int × List Nat) : Prop := D 176 55 = zI a.1 ∧ (0 ≤ a.1 ∧ a.1 ≤ 99999) ∧ (a.1 = 99999 ∨ (lenB n a.2 = true ∧ ∀ j, j < n → D 209 j = zI (lat a.2 j : Nat)))
theorem BsM.congr {D D1 : Dt} {n : Nat} {a : Int × List Nat} (h : BsM D n a) (h1 : D1 176 55 = D 176 55) (h2 : D1 209 = D 209) : BsM D1 n a := by
  unfold BsM; rw [h1, h2]; exact h
def inD (u k : Nat) : Int := if u.testBit k = true then 1 else 0
/-- an order begun: so many, which -/
def PrM (n : Nat) (pre : List Nat) (u : Nat) : Prop := u < 64 ∧ (∀ k, k < n → (u.testBit k = true ↔ k ∈ pre)) ∧ (∀ k, k ∈ pre → k < n) ∧ sumN (inD u) n = (pre.length : Int)
theorem PrM.nil (n : Nat) : PrM n [] 0 := by
  refine ⟨by omega, fun k _ => ⟨fun q => (by rw [Nat.zero_testBit] at q; cases q), fun q => (by cases q)⟩, fun k q => (by cases q), ?_⟩
  rw [sumN_c (g := fun _ => 0) (fun i _ => by unfold inD; rw [Nat.zero_testBit]; rfl), sumN_0]; rfl
theorem PrM.add {n : Nat} {pre : List Nat} {u k : Nat} (h : PrM n pre u) (hn : n ≤ 6) (hk : k < n) (hb : ¬ u.testBit k = true) : PrM n (pre ++ [k]) (u ||| 2 ^ k) := by
  obtain ⟨h1, h2, h3, h4⟩ := h
  have e2 : ∀ j, (u ||| 2 ^ k).testBit j = true ↔ (u.testBit j = true ∨ j = k) := fun j => by
    rw [Nat.testBit_or, Nat.testBit_two_pow, Bool.or_eq_true, decide_eq_true_eq]
    exact ⟨fun q => by rcases q with q | q; exact Or.inl q; exact Or.inr q.symm, fun q => by rcases q with q | q; exact Or.inl q; exact Or.inr q.symm⟩
  refine ⟨?_, fun j hj => ?_, fun j hj => ?_, ?_⟩
  · exact Nat.or_lt_two_pow (n := 6) h1 (Nat.pow_lt_pow_right (by omega) (by omega))
  · rw [e2, h2 j hj, List.mem_append, List.mem_singleton]
  · rw [List.mem_append, List.mem_singleton] at hj
    rcases hj with q | q
    · exact h3 j q
    · omega
  · have e : ∀ j, inD (u ||| 2 ^ k) j = fu (inD u) k 1 j := fun j => by
      unfold inD
      by_cases c : j = k
      · subst c; rw [fu_at, if_pos ((e2 j).mpr (Or.inr rfl))]
      · rw [fu_ne c]
        by_cases d : u.testBit j = true
        · rw [if_pos d, if_pos ((e2 j).mpr (Or.inl d))]
        · rw [if_neg d, if_neg (fun q => by rcases (e2 j).mp q with q | q; exact d q; exact c q)]
    rw [sumN_c (g := fu (inD u) k 1) (fun i _ => e i), sumN_fu (show inD u k = 0 from if_neg hb), if_pos hk, h4, List.length_append]
    rfl
theorem PrM.full {n : Nat} {pre : List Nat} {u : Nat} (h : PrM n pre u) (hl : pre.length = n) : ∀ k, k < n → u.testBit k = true := by
  obtain ⟨h1, h2, h3, h4⟩ := h
  have hone : sumN (fun _ => 1) n = (n : Int) := by
    have go : ∀ m : Nat, sumN (fun _ => 1) m = (m : Int) := by
      intro m
      induction m with
      | zero => rfl
      | succ m ih => show sumN (fun _ => 1) m + 1 = _; rw [ih]; rfl
    exact go n
  have := (sumN_same (R := fun _ => 1) (f := inD u) (n := n) (fun i _ => by
    unfold inD
    by_cases c : u.testBit i = true
    · rw [if_pos c]; omega
    · rw [if_neg c]; omega)).2 (by rw [hone, h4, hl]; omega)
  intro k hk
  have e := this k hk
  unfold inD at e
  by_cases c : u.testBit k = true
  · exact c
  · rw [if_neg c] at e; omega
theorem lenB_of {n : Nat} {pre : List Nat} {u : Nat} (h : PrM n pre u) (hl : pre.length = n) : lenB n pre = true := by
  unfold lenB
  rw [Bool.and_eq_true, decide_eq_true_eq, List.all_eq_true]
  exact ⟨hl, fun k hk => decide_eq_true (h.2.2.1 k hk)⟩
/-- what laying orders leaves as it was -/
def LyF (D D1 : Dt) (m : Nat) : Prop := (∀ j, j ≠ 55 → D1 176 j = D 176 j) ∧ (∀ k, k ≠ 176 → k ≠ 208 → k ≠ 209 → D1 k = D k) ∧ ∀ j, j < m → D1 208 j = D 208 j
theorem LyF.refl (D : Dt) (m : Nat) : LyF D D m := ⟨fun _ _ => rfl, fun _ _ _ _ => rfl, fun _ _ => rfl⟩
theorem LyF.trans {D E F : Dt} {m : Nat} (h : LyF D E m) (g : LyF E F m) : LyF D F m := ⟨fun j hj => by rw [g.1 j hj, h.1 j hj], fun k a b c => by rw [g.2.1 k a b c, h.2.1 k a b c], fun j hj => by rw [g.2.2 j hj, h.2.2 j hj]⟩
theorem LyF.jb {D D1 : Dt} {m n : Nat} {tk du : Nat → Int} (h : LyF D D1 m) (hj : JbM D n tk du) : JbM D1 n tk du := by
  unfold JbM
  rw [h.1 50 (by omega), h.2.1 206 (by omega) (by omega) (by omega), h.2.1 207 (by omega) (by omega) (by omega)]; exact hj
theorem bsF_app (tk du : Nat → Int) (a : Int × List Nat) (X Y : List (List Nat)) : bsF tk du a (X ++ Y) = bsF tk du (bsF tk du a X) Y := by
  unfold bsF; rw [List.foldl_append]
theorem m_layOrders {n : Nat} {tk du : Nat → Int} (hj : JbOk n tk du) : ∀ (d : Nat) (pre : List Nat) (u : Nat) (a : Int × List Nat) (D : Dt) (x : Nat), pre.length + d = n → PrM n pre u → JbM D n tk du → BsM D n a → (∀ j, j < pre.length → D 208 j = zI (lat pre j : Nat)) →
    ∃ D1, f_Model_layOrders (x + (d + 1)) (zI (pre.length : Nat)) (zI (u : Nat)) (zI (ltL tk du pre).1) (zI (ltL tk du pre).2) D = some ((), D1) ∧ BsM D1 n (bsF tk du a (dfsL n d pre)) ∧ LyF D D1 pre.length := by
  have h6 := hj.1
  have hltb : ∀ (pre : List Nat), (∀ k, k ∈ pre → k < n) → pre.length ≤ 6 → (0 ≤ (ltL tk du pre).1 ∧ (ltL tk du pre).1 ≤ 144) ∧ 0 ≤ (ltL tk du pre).2 ∧ (ltL tk du pre).2 ≤ 864 := fun pre h1 h2 => by
    have := ltL_b hj h1 pre.length (Nat.le_refl _) h2
    rw [List.take_length] at this
    omega
  intro d
  induction d with
  | zero =>
    intro pre u a D x hd hp hJ hB h208
    have hl : pre.length = n := by omega
    have lb := hltb pre hp.2.2.1 (by omega)
    have full := hp.full hl
    have hbb := hB.2.1
    -- the loop over all that are left: none is
    have loop : ∀ E : Dt, E 176 50 = zI (n : Nat) → b_Model_layOrders_52 (itr (fun _ _ _ _ _ => none) e_Model_layOrders x) (zI (pre.length : Nat)) (zI (u : Nat)) (zI (ltL tk du pre).1) (zI (ltL tk du pre).2) E = some ((), E) := by
      intro E hE
      unfold b_Model_layOrders_52 lp_Model_layOrders_55
      obtain ⟨M, hM⟩ := FU_eq (n := n + 1) (by omega)
      rw [hM, show M + (n + 1) = (M + 1) + n by omega]
      obtain ⟨U, -, e⟩ := itr_go (fun _ _ _ _ _ _ => none) (s_Model_layOrders_55 (itr (fun _ _ _ _ _ => none) e_Model_layOrders x)) (fun i (U : Unit) k => k (zI (pre.length : Nat)) (zI (u : Nat)) (zI (ltL tk du pre).1) (zI (ltL tk du pre).2) (zI i) E) n (fun i U => True)
        (fun i hi U _ => ⟨(), trivial, fun k => by
          unfold s_Model_layOrders_55 b_Model_layOrders_124
          rw [hE, if_neg (by rw [zI_le (by omega) (by omega) (by omega) (by omega)]; omega), m_has (by have := hp.1; omega) (by omega), bnd_s, if_pos (full i hi), if_neg (show ¬ (1 : Int32) = 0 by decide), zI_s]⟩) () trivial
      have e := e (M + 1)
      refine (show itr (fun _ _ _ _ _ _ => none) (s_Model_layOrders_55 (itr (fun _ _ _ _ _ => none) e_Model_layOrders x)) (M + 1 + n) (zI (pre.length : Nat)) (zI (u : Nat)) (zI (ltL tk du pre).1) (zI (ltL tk du pre).2) (zI ((0 : Nat) : Int)) E = _ from e.trans ?_)
      rw [itr_s]
      unfold s_Model_layOrders_55
      rw [hE, if_pos ((zI_le (by omega) (by omega) (by omega) (by omega)).mpr (by omega))]
    show ∃ D1, itr _ e_Model_layOrders (x + 1) (zI (pre.length : Nat)) (zI (u : Nat)) (zI (ltL tk du pre).1) (zI (ltL tk du pre).2) D = _ ∧ _
    rw [itr_s, show bsF tk du a (dfsL n 0 pre) = bsS tk du a pre from rfl]
    generalize itr (fun _ _ _ _ _ => none) e_Model_layOrders x = self at loop ⊢
    unfold bsS
    unfold e_Model_layOrders
    rw [hJ.1, if_pos (by rw [hl]), hB.1, if_cg (zI_le (by omega) (by omega) (by omega) (by omega))]
    by_cases c : (ltL tk du pre).2 < a.1
    · rw [if_neg (by omega), if_pos c, nm_s]
      generalize hE : wr D 176 55 (zI (ltL tk du pre).2) = E
      have E50 : E 176 50 = zI (n : Nat) := by rw [← hE, wr_at, upd_ne (by omega)]; exact hJ.1
      unfold lp_Model_layOrders_26
      obtain ⟨M, hM⟩ := FU_eq (n := n + 1) (by omega)
      rw [hM, show M + (n + 1) = (M + 1) + n by omega]
      obtain ⟨K, ⟨k1, k2⟩, e⟩ := itr_go (fun _ _ _ _ _ _ => none) (s_Model_layOrders_26 self) (fun i (K : Dt) k => k (zI (pre.length : Nat)) (zI (u : Nat)) (zI (ltL tk du pre).1) (zI (ltL tk du pre).2) (zI i) K) n (fun i (K : Dt) => (∀ j, j < i → K 209 j = zI (lat pre j : Nat)) ∧ ∀ k, k ≠ 209 → K k = E k)
        (fun i hi K z => by
          obtain ⟨z1, z2⟩ := z
          have i6 : inb (zI (i : Int)) 6 = true := inb_t (by omega) (by omega) (by omega)
          refine ⟨wr K 209 i (zI (lat pre i : Nat)), ⟨fun j hj => ?_, fun k hk => by rw [wr_ne hk, z2 k hk]⟩, fun k => ?_⟩
          · rw [wr_at]
            by_cases cj : j = i
            · subst cj; rw [upd_at]
            · rw [upd_ne cj]; exact z1 j (by omega)
          · unfold s_Model_layOrders_26
            rw [if_neg (by rw [zI_le (by omega) (by omega) (by omega) (by omega)]; omega), if_pos i6, if_pos i6, nm_s, zI_nat (by omega), z2 208 (by omega), ← hE, wr_ne (show 208 ≠ 176 by omega), h208 i (by omega), zI_s])
        E ⟨fun j hj => by omega, fun _ _ => rfl⟩
      have e := e (M + 1)
      have e : itr (fun _ _ _ _ _ _ => none) (s_Model_layOrders_26 self) (M + 1 + n) (zI (pre.length : Nat)) (zI (u : Nat)) (zI (ltL tk du pre).1) (zI (ltL tk du pre).2) 0 E = _ := e
      rw [e, itr_s]
      have lp := loop K (by rw [k2 176 (by omega)]; exact E50)
      unfold s_Model_layOrders_26
      rw [if_pos (by rw [hl, zI_le (by omega) (by omega) (by omega) (by omega)]; omega), lp]
      refine ⟨K, rfl, ⟨?_, ⟨lb.2.1, by omega⟩, Or.inr ⟨lenB_of hp hl, k1⟩⟩, ⟨fun j hj => ?_, fun k p q r => by rw [k2 k r, ← hE, wr_ne p], fun j _ => by rw [k2 208 (by omega), ← hE, wr_ne (by omega)]⟩⟩
      · rw [k2 176 (by omega), ← hE, wr_at, upd_at]
      · rw [k2 176 (by omega), ← hE, wr_at, upd_ne hj]
    · rw [if_pos (by omega), if_neg c, loop D hJ.1]
      exact ⟨D, rfl, hB, LyF.refl D _⟩
  | succ d ih =>
    intro pre u a D x hd hp hJ hB h208
    have lb := hltb pre hp.2.2.1 (by omega)
    show ∃ D1, itr _ e_Model_layOrders (x + (d + 1) + 1) (zI (pre.length : Nat)) (zI (u : Nat)) (zI (ltL tk du pre).1) (zI (ltL tk du pre).2) D = _ ∧ _
    rw [itr_s]
    show ∃ D1, e_Model_layOrders (f_Model_layOrders (x + (d + 1))) (zI (pre.length : Nat)) (zI (u : Nat)) (zI (ltL tk du pre).1) (zI (ltL tk du pre).2) D = _ ∧ _
    unfold e_Model_layOrders b_Model_layOrders_52 lp_Model_layOrders_55
    rw [hJ.1, if_neg (by rw [zI_eqn (by omega) (by omega)]; omega)]
    obtain ⟨M, hM⟩ := FU_eq (n := n + 1) (by omega)
    rw [hM, show M + (n + 1) = (M + 1) + n by omega]
    generalize hg : (fun k => if k ∈ pre then [] else dfsL n d (pre ++ [k])) = g
    obtain ⟨K, ⟨k1, k2⟩, e⟩ := itr_go (fun _ _ _ _ _ _ => none) (s_Model_layOrders_55 (f_Model_layOrders (x + (d + 1)))) (fun i (K : Dt) k => k (zI (pre.length : Nat)) (zI (u : Nat)) (zI (ltL tk du pre).1) (zI (ltL tk du pre).2) (zI i) K) n (fun i (K : Dt) => BsM K n (bsF tk du a ((List.range i).flatMap g)) ∧ LyF D K pre.length)
      (fun i hi K z => by
        obtain ⟨z1, z2⟩ := z
        have hJK := z2.jb hJ
        have egs : (List.range (i + 1)).flatMap g = (List.range i).flatMap g ++ g i := by
          rw [List.range_succ, List.flatMap_append, List.flatMap_singleton]
        by_cases c : u.testBit i = true
        · have hm : i ∈ pre := (hp.2.1 i hi).mp c
          refine ⟨K, ⟨?_, z2⟩, fun k => ?_⟩
          · rw [egs, ← hg]
            simp only [hm, if_true, List.append_nil]
            rw [hg]; exact z1
          · unfold s_Model_layOrders_55 b_Model_layOrders_124
            rw [hJK.1, if_neg (by rw [zI_le (by omega) (by omega) (by omega) (by omega)]; omega), m_has (by have := hp.1; omega) (by omega), bnd_s, if_pos c, if_neg (show ¬ (1 : Int32) = 0 by decide), zI_s]
        · have hm : ¬ i ∈ pre := fun q => c ((hp.2.1 i hi).mpr q)
          have hp2 := hp.add h6 hi c
          have hb := hj.2 i hi
          have hJE : JbM (wr K 208 pre.length (zI (i : Nat))) n tk du := by
            unfold JbM; rw [wr_ne (by omega), wr_ne (by omega), wr_ne (by omega)]; exact hJK
          obtain ⟨F, f1, f2, f3⟩ := ih (pre ++ [i]) (u ||| 2 ^ i) (bsF tk du a ((List.range i).flatMap g)) (wr K 208 pre.length (zI (i : Nat))) x (by rw [List.length_append]; show pre.length + 1 + d = n; omega) hp2 hJE (z1.congr (by rw [wr_ne (by omega)]) (by rw [wr_ne (by omega)])) (fun j hj2 => by
            rw [List.length_append] at hj2
            have hj2 : j < pre.length + 1 := hj2
            rw [wr_at]
            by_cases cj : j = pre.length
            · subst cj; rw [upd_at, lat_e]
            · rw [upd_ne cj, lat_l (by omega), z2.2.2 j (by omega)]; exact h208 j (by omega))
          refine ⟨F, ⟨?_, ?_⟩, fun k => ?_⟩
          · rw [egs, bsF_app, show g i = dfsL n d (pre ++ [i]) from by rw [← hg]; simp only [hm, if_false]]
            exact f2
          · refine z2.trans ⟨fun j hj2 => by rw [f3.1 j hj2, wr_ne (by omega)], fun k p q r => by rw [f3.2.1 k p q r, wr_ne q], fun j hj2 => ?_⟩
            rw [f3.2.2 j (by rw [List.length_append]; omega), wr_at, upd_ne (by omega)]
          · have i6 : inb (zI (i : Int)) 6 = true := inb_t (by omega) (by omega) (by omega)
            have ip : inb (zI (pre.length : Nat)) 6 = true := inb_t (by omega) (by omega) (by omega)
            have hp6 : 2 ^ i < 256 := Nat.pow_lt_pow_right (n := 8) (by omega) (by omega)
            rw [List.length_append, ltL_s] at f1
            have f1 : f_Model_layOrders (x + (d + 1)) (zI ((pre.length + 1 : Nat) : Int)) (zI ((u ||| 2 ^ i : Nat) : Int)) (zI ((ltL tk du pre).1 + tk i)) (zI ((ltL tk du pre).2 + max ((ltL tk du pre).1 + tk i - du i) 0)) (wr K 208 pre.length (zI (i : Nat))) = some ((), F) := f1
            have hu := hp.1
            unfold s_Model_layOrders_55 b_Model_layOrders_124
            rw [hJK.1, if_neg (by rw [zI_le (by omega) (by omega) (by omega) (by omega)]; omega), m_has (by omega) (by omega), bnd_s, if_neg c, if_pos rfl, if_pos ip, nm_s, if_pos i6, if_pos i6, zI_nat (by omega), zI_nat (by omega), (hJE.2 i hi).1, (hJE.2 i hi).2, zI_add, zI_sub, show (0 : Int32) = zI 0 from rfl, m_greater (by omega) (by omega) (by omega) (by omega), bnd_s, zI_add, shl_d i (by omega), zI_or (by omega) (by omega), zI_s, show max 0 ((ltL tk du pre).1 + tk i - du i) = max ((ltL tk du pre).1 + tk i - du i) 0 by omega, f1, bnd_s, zI_s])
      D ⟨hB, LyF.refl D _⟩
    have e := e (M + 1)
    have e : itr (fun _ _ _ _ _ _ => none) (s_Model_layOrders_55 (f_Model_layOrders (x + (d + 1)))) (M + 1 + n) (zI (pre.length : Nat)) (zI (u : Nat)) (zI (ltL tk du pre).1) (zI (ltL tk du pre).2) 0 D = _ := e
    rw [e, itr_s]
    generalize itr (fun _ _ _ _ _ _ => none) (s_Model_layOrders_55 (f_Model_layOrders (x + (d + 1)))) M = kk
    unfold s_Model_layOrders_55
    rw [(k2.jb hJ).1, if_pos ((zI_le (by omega) (by omega) (by omega) (by omega)).mpr (by omega))]
    refine ⟨K, rfl, ?_, k2⟩
    rw [show dfsL n (d + 1) pre = (List.range n).flatMap (fun k => if k ∈ pre then [] else dfsL n d (pre ++ [k])) from rfl, hg]
    exact k1
