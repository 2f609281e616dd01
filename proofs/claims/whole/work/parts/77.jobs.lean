/-! Monday's jobs: what is refused, what is laid -/
def rfJb (v1 v2 : Int32) (S : SstT) : Int32 × SstT := if wi v1 0 5 = true ∧ wi v2 0 5 = true then (if (S.1 v1.toInt.toNat).1 = -1 ∨ (S.1 v2.toInt.toNat).1 = -1 then (-3, sFind S 1) else if 6 < (S.1 v1.toInt.toNat).1 ∨ ¬ (S.1 v1.toInt.toNat).1 = (S.1 v2.toInt.toNat).1 then (-3, sFind S 5) else if nwB (S.1 v1.toInt.toNat) 1 24 = true ∨ nwB (S.1 v2.toInt.toNat) 0 99 = true then (-3, sFind S 3) else (0, S)) else (-1, S)
theorem rfJb_0 {v1 v2 : Int32} {S : SstT} (h : (rfJb v1 v2 S).1 = 0) : rfJb v1 v2 S = (0, S) ∧ wi v1 0 5 = true ∧ wi v2 0 5 = true ∧ (S.1 v1.toInt.toNat).1 ≠ -1 ∧ (S.1 v1.toInt.toNat).1 ≤ 6 ∧ (S.1 v1.toInt.toNat).1 = (S.1 v2.toInt.toNat).1 ∧ nwB (S.1 v1.toInt.toNat) 1 24 = false ∧ nwB (S.1 v2.toInt.toNat) 0 99 = false := by
  unfold rfJb at h ⊢
  by_cases c1 : wi v1 0 5 = true ∧ wi v2 0 5 = true
  · rw [if_pos c1] at h ⊢
    by_cases c2 : (S.1 v1.toInt.toNat).1 = -1 ∨ (S.1 v2.toInt.toNat).1 = -1
    · rw [if_pos c2] at h; exact absurd h ng3
    · rw [if_neg c2] at h ⊢
      by_cases c3 : 6 < (S.1 v1.toInt.toNat).1 ∨ ¬ (S.1 v1.toInt.toNat).1 = (S.1 v2.toInt.toNat).1
      · rw [if_pos c3] at h; exact absurd h ng3
      · rw [if_neg c3] at h ⊢
        by_cases c4 : nwB (S.1 v1.toInt.toNat) 1 24 = true ∨ nwB (S.1 v2.toInt.toNat) 0 99 = true
        · rw [if_pos c4] at h; exact absurd h ng3
        · rw [if_neg c4]
          exact ⟨rfl, c1.1, c1.2, fun q => c2 (Or.inl q), by omega, by omega, Bool.eq_false_iff.mpr (fun q => c4 (Or.inl q)), Bool.eq_false_iff.mpr (fun q => c4 (Or.inr q))⟩
  · rw [if_neg c1] at h; exact absurd h ng1
theorem rfJb_n {v1 v2 : Int32} {S : SstT} (h : ¬ (rfJb v1 v2 S).1 = 0) : ¬ 0 ≤ (rfJb v1 v2 S).1 := by
  unfold rfJb at h ⊢
  by_cases c1 : wi v1 0 5 = true ∧ wi v2 0 5 = true
  · rw [if_pos c1] at h ⊢
    by_cases c2 : (S.1 v1.toInt.toNat).1 = -1 ∨ (S.1 v2.toInt.toNat).1 = -1
    · rw [if_pos c2]; exact (show ¬ (0 : Int32) ≤ -3 by decide)
    · rw [if_neg c2] at h ⊢
      by_cases c3 : 6 < (S.1 v1.toInt.toNat).1 ∨ ¬ (S.1 v1.toInt.toNat).1 = (S.1 v2.toInt.toNat).1
      · rw [if_pos c3]; exact (show ¬ (0 : Int32) ≤ -3 by decide)
      · rw [if_neg c3] at h ⊢
        by_cases c4 : nwB (S.1 v1.toInt.toNat) 1 24 = true ∨ nwB (S.1 v2.toInt.toNat) 0 99 = true
        · rw [if_pos c4]; exact (show ¬ (0 : Int32) ≤ -3 by decide)
        · rw [if_neg c4] at h; exact absurd rfl h
  · rw [if_neg c1]; exact (show ¬ (0 : Int32) ≤ -1 by decide)
theorem c_refusedJobs {D : Dt} {S : SstT} (h : CRep D S) (ho : Ok S) (v1 v2 : Int32) : CDo (f_Root_refusedJobs v1 v2 D) D (rfJb v1 v2 S).1 (rfJb v1 v2 S).2 := by
  unfold f_Root_refusedJobs b_Root_refusedJobs_40 b_Root_refusedJobs_81 b_Root_refusedJobs_121 b_Root_refusedJobs_122 rfJb
  rw [c_isRow, bnd_s, zo_if, c_isRow, bnd_s, zo_if]
  by_cases c1 : wi v1 0 5 = true
  · by_cases c2 : wi v2 0 5 = true
    · obtain ⟨a, ha, -, rfl⟩ := wi_nat c1 (by omega)
      obtain ⟨b, hb, -, rfl⟩ := wi_nat c2 (by omega)
      have hz1 := ho.1.1 a (by omega)
      have hz2 := ho.1.1 b (by omega)
      unfold rwOk at hz1 hz2
      have ia : inb (zI (a : Int)) 6 = true := inb_t (by omega) (by omega) (by omega)
      have ib : inb (zI (b : Int)) 6 = true := inb_t (by omega) (by omega) (by omega)
      rw [if_pos c1, if_pos c2, if_pos (And.intro c1 c2), zI_toInt (show -2147483648 ≤ (a : Int) by omega) (show (a : Int) < 2147483648 by omega), zI_toInt (show -2147483648 ≤ (b : Int) by omega) (show (b : Int) < 2147483648 by omega), Int.toNat_natCast, Int.toNat_natCast]
      simp only [ia, ib, if_true, zI_nat (show a < 2147483648 by omega), zI_nat (show b < 2147483648 by omega)]
      rw [c_isThere h ho.1 (by omega), bnd_s]
      by_cases d1 : (S.1 a).1 = -1
      · rw [if_pos d1, if_pos rfl, if_pos (Or.inl d1)]
        exact (c_find h 1 (by omega)).ret
      · rw [if_neg d1, if_neg (show ¬ (1 : Int32) = 0 by decide), c_isThere h ho.1 (by omega), bnd_s]
        by_cases d2 : (S.1 b).1 = -1
        · rw [if_pos d2, if_pos rfl, if_pos (Or.inr d2)]
          exact (c_find h 1 (by omega)).ret
        · have hno : ¬ ((S.1 a).1 = -1 ∨ (S.1 b).1 = -1) := fun q => by rcases q with q | q; exact d1 q; exact d2 q
          rw [if_neg d2, if_neg (show ¬ (1 : Int32) = 0 by decide), if_neg hno, (h.1 a (by omega)).1, (h.1 b (by omega)).1, show (6 : Int32) = zI 6 from rfl, if_cg (zI_lt (by omega) (by omega) (by omega) (by omega)), if_cg (zI_eq (by omega) (by omega) (by omega) (by omega))]
          by_cases d3 : 6 < (S.1 a).1
          · rw [if_pos d3, if_pos (Or.inl d3)]
            exact (c_find h 5 (by omega)).ret
          · rw [if_neg d3]
            by_cases d4 : (S.1 a).1 = (S.1 b).1
            · rw [if_pos d4, if_neg (fun q => by rcases q with q | q; exact d3 q; exact q d4), c_allWithin h ho.1 (by omega) (by omega), bnd_s]
              simp only [tl]
              by_cases d5 : nwB (S.1 a) 1 24 = true
              · rw [if_pos d5, if_pos rfl, if_pos (Or.inl d5)]
                exact (c_find h 3 (by omega)).ret
              · rw [if_neg d5, if_neg (show ¬ (1 : Int32) = 0 by decide), c_allWithin h ho.1 (by omega) (by omega), bnd_s]
                simp only [tl]
                by_cases d6 : nwB (S.1 b) 0 99 = true
                · rw [if_pos d6, if_pos rfl, if_pos (Or.inr d6)]
                  exact (c_find h 3 (by omega)).ret
                · rw [if_neg d6, if_neg (show ¬ (1 : Int32) = 0 by decide), if_neg (show ¬ (1 : Int32) = 0 by decide), if_neg (fun q => by rcases q with q | q; exact d5 q; exact d6 q)]
                  exact CDo.same h _
            · rw [if_neg d4, if_pos (Or.inr d4)]
              exact (c_find h 5 (by omega)).ret
    · rw [if_pos c1, if_neg c2, if_neg (fun q => c2 q.2)]
      exact CDo.same h _
  · rw [if_neg c1, if_neg (fun q => c1 q.1)]
    exact CDo.same h _
/-- the jobs of two rows -/
abbrev jN (S : SstT) (a : Nat) : Nat := (S.1 a).1.toNat
abbrev jT (S : SstT) (a k : Nat) : Int := ((S.1 a).2 k).toInt
def JbOk (n : Nat) (tk du : Nat → Int) : Prop := n ≤ 6 ∧ ∀ k, k < n → (1 ≤ tk k ∧ tk k ≤ 24) ∧ 0 ≤ du k ∧ du k ≤ 99
theorem nw_f {w : RwT} {a b : Int} (h : nwB w a b = false) : ∀ k, k < w.1.toNat → a ≤ (w.2 k).toInt ∧ (w.2 k).toInt ≤ b := fun k hk => by
  have := anyB_f (show anyB (fun i => !(wi (w.2 i) a b)) w.1.toNat = false from h) k hk
  have : wi (w.2 k) a b = true := by simpa using this
  exact of_decide_eq_true this
theorem jb_ok {S : SstT} {a b : Nat} (h1 : (S.1 a).1 ≤ 6) (h2 : (S.1 a).1 = (S.1 b).1) (h3 : nwB (S.1 a) 1 24 = false) (h4 : nwB (S.1 b) 0 99 = false) : JbOk (jN S a) (jT S a) (jT S b) := by
  refine ⟨by show (S.1 a).1.toNat ≤ 6; omega, fun k hk => ⟨nw_f h3 k hk, nw_f h4 k (by rw [← h2]; exact hk)⟩⟩
def JbC (D : Dt) (n : Nat) (tk du : Nat → Int) : Prop := D 104 4 = zI (n : Nat) ∧ ∀ k, k < n → D 105 k = zI (tk k) ∧ D 106 k = zI (du k)
theorem c_jTake {D : Dt} {S : SstT} (h : CRep D S) {a b : Nat} (ha : a < 6) (hb : b < 6) (h0 : 0 ≤ (S.1 a).1) (h1 : (S.1 a).1 ≤ 6) (h2 : (S.1 a).1 = (S.1 b).1) : ∃ D1, f_Jobs_takeFrom (111 + 2 * a) (111 + 2 * b) D = some ((), D1) ∧ JbC D1 (jN S a) (jT S a) (jT S b) ∧ (∀ k, k < jN S a → D1 107 k = zI (k : Nat)) ∧ ∀ k, (k < 104 ∨ 107 < k) → D1 k = D k := by
  obtain ⟨a1, a2⟩ := h.1 a ha
  obtain ⟨b1, b2⟩ := h.1 b hb
  have en : ((jN S a : Nat) : Int) = (S.1 a).1 := by show (((S.1 a).1.toNat : Nat) : Int) = _; omega
  unfold f_Jobs_takeFrom
  rw [nm_s, a1, show (6 : Int32) = zI 6 from rfl, imin_z (by omega) (by omega) (by omega) (by omega), show min (S.1 a).1 6 = ((jN S a : Nat) : Int) by omega]
  generalize jN S a = n at *
  generalize hE : wr D 104 4 (zI (n : Nat)) = E
  have Ek : ∀ k, k ≠ 104 → E k = D k := fun k hk => by rw [← hE, wr_ne hk]
  have E4 : E 104 4 = zI (n : Nat) := by rw [← hE, wr_at, upd_at]
  unfold lp_Jobs_takeFrom_15
  obtain ⟨M, hM⟩ := FU_eq (n := n + 1) (by omega)
  rw [hM, show M + (n + 1) = (M + 1) + n by omega]
  obtain ⟨K, ⟨k1, k2⟩, e⟩ := itr_go (fun _ _ => none) (s_Jobs_takeFrom_15 (111 + 2 * a) (111 + 2 * b)) (fun i (K : Dt) k => k (zI i) K) n (fun i (K : Dt) => (∀ j, j < i → K 105 j = (S.1 a).2 j ∧ K 106 j = (S.1 b).2 j ∧ K 107 j = zI (j : Nat)) ∧ ∀ k, (k < 105 ∨ 107 < k) → K k = E k)
    (fun i hi K z => by
      obtain ⟨z1, z2⟩ := z
      refine ⟨wr (wr (wr K 105 i ((S.1 a).2 i)) 106 i ((S.1 b).2 i)) 107 i (zI (i : Nat)), ⟨fun j hj => ?_, fun k hk => by rw [wr_ne (by omega), wr_ne (by omega), wr_ne (by omega), z2 k hk]⟩, fun k => ?_⟩
      · simp (disch := omega) only [wr_ne, wr_at]
        by_cases cj : j = i
        · subst cj; simp only [upd_at]; exact ⟨trivial, trivial, trivial⟩
        · simp only [upd_ne cj]; exact z1 j (by omega)
      · have i60 : inb (zI (i : Int)) 60 = true := inb_t (by omega) (by omega) (by omega)
        have i6 : inb (zI (i : Int)) 6 = true := inb_t (by omega) (by omega) (by omega)
        unfold s_Jobs_takeFrom_15
        rw [z2 104 (by omega), E4, if_neg (by rw [zI_le (by omega) (by omega) (by omega) (by omega)]; omega)]
        simp only [i60, i6, if_true, nm_s, zI_nat (show i < 2147483648 by omega)]
        simp (disch := omega) only [wr_ne]
        rw [z2 (111 + 2 * a + 1) (by omega), z2 (111 + 2 * b + 1) (by omega), Ek (111 + 2 * a + 1) (by omega), Ek (111 + 2 * b + 1) (by omega), a2 i (by omega), b2 i (by omega), zI_s])
    E ⟨fun j hj => by omega, fun _ _ => rfl⟩
  have e := e (M + 1)
  refine ⟨K, ?_, ⟨by rw [k2 104 (by omega)]; exact E4, fun k hk => ⟨?_, ?_⟩⟩, fun k hk => (k1 k hk).2.2, fun k hk => by rw [k2 k (by omega), Ek k (by omega)]⟩
  · refine (show itr (fun _ _ => none) (s_Jobs_takeFrom_15 (111 + 2 * a) (111 + 2 * b)) (M + 1 + n) (zI ((0 : Nat) : Int)) E = _ from e.trans ?_)
    rw [itr_s]
    unfold s_Jobs_takeFrom_15
    rw [k2 104 (by omega), E4, if_pos ((zI_le (by omega) (by omega) (by omega) (by omega)).mpr (by omega))]
  · rw [(k1 k hk).1]; exact (zI_self _).symm
  · rw [(k1 k hk).2.1]; exact (zI_self _).symm
/-! the model -/
theorem anyB_or (f g : Nat → Bool) (n : Nat) : anyB (fun i => f i || g i) n = (anyB f n || anyB g n) := by
  induction n with
  | zero => rfl
  | succ n ih =>
    show (anyB (fun i => f i || g i) n || (f n || g n)) = ((anyB f n || f n) || (anyB g n || g n))
    rw [ih]
    cases anyB f n <;> cases anyB g n <;> cases f n <;> cases g n <;> rfl
def JbM (D : Dt) (n : Nat) (tk du : Nat → Int) : Prop := D 176 50 = zI (n : Nat) ∧ ∀ k, k < n → D 206 k = zI (tk k) ∧ D 207 k = zI (du k)
theorem m_slot50 {D D1 : Dt} {S : SstT} (h : MRep D S) (hs : ∀ j, j < 50 → D1 176 j = D 176 j) (hk : ∀ k, k ≠ 176 → k < 206 → D1 k = D k) : MRep D1 S := m_slot h (fun j hj => hs j (by omega)) (fun k a b => hk k a (by omega))
theorem m_needJobs {D : Dt} {S : SstT} (h : MRep D S) (ho : Ok S) {a b : Nat} (ha : a < 6) (hb : b < 6) : MDo (f_Model_needJobs (zI a) (zI b) D) D (rfJb (zI a) (zI b) S).1 (rfJb (zI a) (zI b) S).2 ∧ ((rfJb (zI a) (zI b) S).1 = 0 → ∃ D1, f_Model_needJobs (zI a) (zI b) D = some (0, D1) ∧ MRep D1 S ∧ FrM D D1 ∧ JbM D1 (jN S a) (jT S a) (jT S b)) := by
  have hz1 := ho.1.1 a ha
  have hz2 := ho.1.1 b hb
  unfold rwOk at hz1 hz2
  obtain ⟨a1, a2⟩ := h.1 a ha
  obtain ⟨b1, b2⟩ := h.1 b hb
  have ia : inb (zI (a : Int)) 6 = true := inb_t (by omega) (by omega) (by omega)
  have ib : inb (zI (b : Int)) 6 = true := inb_t (by omega) (by omega) (by omega)
  have wa : wi (zI (a : Int)) 0 5 = true := decide_eq_true (by rw [zI_toInt (by omega) (by omega)]; omega)
  have wb : wi (zI (b : Int)) 0 5 = true := decide_eq_true (by rw [zI_toInt (by omega) (by omega)]; omega)
  unfold f_Model_needJobs b_Model_needJobs_18 b_Model_needJobs_50 rfJb
  rw [if_pos (And.intro wa wb), zI_toInt (show -2147483648 ≤ (a : Int) by omega) (show (a : Int) < 2147483648 by omega), zI_toInt (show -2147483648 ≤ (b : Int) by omega) (show (b : Int) < 2147483648 by omega), Int.toNat_natCast, Int.toNat_natCast]
  simp only [ia, ib, if_true, zI_nat (show a < 2147483648 by omega), zI_nat (show b < 2147483648 by omega), a1, b1]
  rw [if_cg (zI_ltl (z := (S.1 a).1) (by omega) (by omega)), if_cg (zI_ge0 (z := (S.1 b).1) (by omega) (by omega)), show (6 : Int32) = zI 6 from rfl, if_cg (zI_lt (a := 6) (b := (S.1 a).1) (by omega) (by omega) (by omega) (by omega)), if_cg (zI_eq (a := (S.1 a).1) (b := (S.1 b).1) (by omega) (by omega) (by omega) (by omega))]
  by_cases d1 : (S.1 a).1 = -1
  · rw [if_pos (by omega), if_pos (Or.inl d1)]
    exact ⟨(m_meets h 1 (by omega)).ret, fun q => absurd q ng3⟩
  · rw [if_neg (by omega)]
    by_cases d2 : (S.1 b).1 = -1
    · rw [if_neg (by omega), if_pos (Or.inr d2)]
      exact ⟨(m_meets h 1 (by omega)).ret, fun q => absurd q ng3⟩
    · have hno : ¬ ((S.1 a).1 = -1 ∨ (S.1 b).1 = -1) := fun q => by rcases q with q | q; exact d1 q; exact d2 q
      rw [if_pos (by omega), if_neg hno]
      by_cases d3 : 6 < (S.1 a).1
      · rw [if_pos d3, if_pos (Or.inl d3)]
        exact ⟨(m_meets h 5 (by omega)).ret, fun q => absurd q ng3⟩
      · rw [if_neg d3]
        by_cases d4 : (S.1 a).1 = (S.1 b).1
        · rw [if_pos d4, if_neg (fun q => by rcases q with q | q; exact d3 q; exact q d4)]
          have en : ((jN S a : Nat) : Int) = (S.1 a).1 := by show (((S.1 a).1.toNat : Nat) : Int) = _; omega
          have eany : anyB (fun i => !(wi ((S.1 a).2 i) 1 24) || !(wi ((S.1 b).2 i) 0 99)) (jN S a) = (nwB (S.1 a) 1 24 || nwB (S.1 b) 0 99) := by
            rw [anyB_or]
            unfold nwB
            rw [show (S.1 b).1.toNat = jN S a from by show (S.1 b).1.toNat = (S.1 a).1.toNat; rw [d4]]
          generalize hn : jN S a = n at *
          unfold lp_Model_needJobs_61
          obtain ⟨M, hM⟩ := FU_eq (n := n + 1) (by omega)
          rw [hM, show M + (n + 1) = (M + 1) + n by omega]
          obtain ⟨U, -, e⟩ := itr_go (fun _ _ _ _ _ => none) s_Model_needJobs_61 (fun i (U : Unit) k => k (zI a) (zI b) (if anyB (fun i => !(wi ((S.1 a).2 i) 1 24) || !(wi ((S.1 b).2 i) 0 99)) i = true then 0 else 1) (zI i) D) n (fun i U => True)
            (fun i hi U _ => ⟨(), trivial, fun k => by
              unfold s_Model_needJobs_61 b_Model_needJobs_112 b_Model_needJobs_113
              rw [if_pos ia, zI_nat (by omega), a1, if_neg (by rw [zI_le (by omega) (by omega) (by omega) (by omega)]; omega), m_rowAt ha (by omega), bnd_s, m_in, bnd_s, zo_if, m_rowAt hb (by omega), bnd_s, m_in, bnd_s, zo_if, a2 i (by omega), b2 i (by omega), zI_s, show anyB (fun i => !(wi ((S.1 a).2 i) 1 24) || !(wi ((S.1 b).2 i) 0 99)) (i + 1) = (anyB (fun i => !(wi ((S.1 a).2 i) 1 24) || !(wi ((S.1 b).2 i) 0 99)) i || (!(wi ((S.1 a).2 i) 1 24) || !(wi ((S.1 b).2 i) 0 99))) from rfl]
              simp only [tl]
              generalize anyB (fun i => !(wi ((S.1 a).2 i) 1 24) || !(wi ((S.1 b).2 i) 0 99)) i = A
              generalize wi ((S.1 a).2 i) 1 24 = B1
              generalize wi ((S.1 b).2 i) 0 99 = B2
              cases A <;> cases B1 <;> cases B2 <;> simp⟩) () trivial
          have e := e (M + 1)
          have e : itr (fun _ _ _ _ _ => none) s_Model_needJobs_61 (M + 1 + n) (zI a) (zI b) 1 0 D = _ := e
          rw [e, itr_s]
          unfold s_Model_needJobs_61
          rw [if_pos ia, if_pos ia, zI_nat (by omega), a1, if_pos (by rw [zI_le (by omega) (by omega) (by omega) (by omega)]; omega), eany]
          by_cases d5 : nwB (S.1 a) 1 24 = true ∨ nwB (S.1 b) 0 99 = true
          · rw [if_pos (show (nwB (S.1 a) 1 24 || nwB (S.1 b) 0 99) = true by rw [Bool.or_eq_true]; exact d5), if_pos rfl, if_pos d5]
            exact ⟨(m_meets h 3 (by omega)).ret, fun q => absurd q ng3⟩
          · rw [if_neg (show ¬ (nwB (S.1 a) 1 24 || nwB (S.1 b) 0 99) = true from fun q => d5 (by rw [Bool.or_eq_true] at q; exact q)), if_neg (show ¬ (1 : Int32) = 0 by decide), if_neg d5, nm_s, ← en]
            generalize hE : wr D 176 50 (zI (n : Nat)) = E
            have Ek : ∀ k, k ≠ 176 → E k = D k := fun k hk => by rw [← hE, wr_ne hk]
            have E50 : E 176 50 = zI (n : Nat) := by rw [← hE, wr_at, upd_at]
            unfold lp_Model_needJobs_143
            rw [hM, show M + (n + 1) = (M + 1) + n by omega]
            obtain ⟨K, ⟨k1, k2⟩, e⟩ := itr_go (fun _ _ _ _ => none) s_Model_needJobs_143 (fun i (K : Dt) k => k (zI a) (zI b) (zI i) K) n (fun i (K : Dt) => (∀ j, j < i → K 206 j = (S.1 a).2 j ∧ K 207 j = (S.1 b).2 j) ∧ ∀ k, k ≠ 206 → k ≠ 207 → K k = E k)
              (fun i hi K z => by
                obtain ⟨z1, z2⟩ := z
                refine ⟨wr (wr K 206 i ((S.1 a).2 i)) 207 i ((S.1 b).2 i), ⟨fun j hj => ?_, fun k p q => by rw [wr_ne q, wr_ne p, z2 k p q]⟩, fun k => ?_⟩
                · simp (disch := omega) only [wr_ne, wr_at]
                  by_cases cj : j = i
                  · subst cj; simp only [upd_at]; exact ⟨trivial, trivial⟩
                  · simp only [upd_ne cj]; exact z1 j (by omega)
                · have i6 : inb (zI (i : Int)) 6 = true := inb_t (by omega) (by omega) (by omega)
                  unfold s_Model_needJobs_143
                  rw [z2 176 (by omega) (by omega), E50, if_neg (by rw [zI_le (by omega) (by omega) (by omega) (by omega)]; omega), m_rowAt ha (by omega), bnd_s, if_pos i6, nm_s, m_rowAt hb (by omega), bnd_s, if_pos i6, nm_s, zI_nat (by omega), wr_ne (show 179 ≠ 206 by omega), z2 179 (by omega) (by omega), Ek 179 (by omega), a2 i (by omega), b2 i (by omega), zI_s])
              E ⟨fun j hj => by omega, fun _ _ _ => rfl⟩
            have e := e (M + 1)
            have e : itr (fun _ _ _ _ => none) s_Model_needJobs_143 (M + 1 + n) (zI a) (zI b) 0 E = _ := e
            rw [e, itr_s]
            unfold s_Model_needJobs_143
            rw [k2 176 (by omega) (by omega), E50, if_pos ((zI_le (by omega) (by omega) (by omega) (by omega)).mpr (by omega))]
            have hR : MRep K S := m_slot50 h (fun j hj => by rw [k2 176 (by omega) (by omega), ← hE, wr_at, upd_ne (by omega)]) (fun k p q => by rw [k2 k (by omega) (by omega), Ek k p])
            have fr : FrM D K := fun k hk => by rw [k2 k (by omega) (by omega), Ek k (by omega)]
            refine ⟨⟨K, rfl, hR, fr⟩, fun _ => ⟨K, rfl, hR, fr, ⟨by rw [k2 176 (by omega) (by omega)]; exact E50, fun k hk => ⟨?_, ?_⟩⟩⟩⟩
            · rw [(k1 k hk).1]; exact (zI_self _).symm
            · rw [(k1 k hk).2]; exact (zI_self _).symm
        · rw [if_neg d4, if_pos (Or.inr d4)]
          exact ⟨(m_meets h 5 (by omega)).ret, fun q => absurd q ng3⟩
