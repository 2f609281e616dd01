/-- a Tuesday begun, or led by some plan -/
def TdS (D : Dt) (B : BedT) (W : WatT) : Prop := WRep D 46 W ∧ D 34 0 = 0 ∧ D 35 0 = 0 ∧ (∀ i, i < 8 → D 37 i = 0) ∧ (D 32 5 = 0 ∨ (D 32 5 = 1 ∧ ∃ q : Nat, q < 256 ∧ D 32 4 = zI (q : Int) ∧ TdC D B q W 8))
theorem TdC.zero {D : Dt} {B : BedT} {W : WatT} (h8 : B.1 ≤ 8) (h1 : WRep D 46 W) (h2 : D 34 0 = 0) (h3 : D 35 0 = 0) (h4 : ∀ i, i < 8 → D 37 i = 0) (p : Nat) : TdC D B p W 0 := fun j hj => by
  obtain rfl : j = 0 := by omega
  exact ⟨h1, h2, h3, fun i hi => h4 i (by omega)⟩
/-- leading the hours from t on -/
theorem c_leadFrom {D : Dt} {b p : Nat} {B : BedT} {W : WatT} {T : Int} (hb : BRep D b B) (hB : BOk B) (hn : 0 < B.1) (hbb : b + 5 < 32) (hW : WOk B W T) (hT0 : 0 ≤ T) (hT : T < 100000) (hp : p < 256) (t : Nat) (ht8 : t ≤ 8) (ht : TdC D B p W t) :
    ∃ D1, lp_Tuesday_lead_6 b FU (zI p) (zI (t : Nat)) D = some ((), D1) ∧ TdC D1 B p W 8 ∧ (∀ k, (k < 34 ∨ 99 < k) → k ≠ 32 → D1 k = D k) ∧ D1 37 = D 37 ∧ D1 34 0 = D 34 0 ∧ D1 35 0 = D 35 0 ∧ D1 32 4 = zI p ∧ D1 32 5 = 1 := by
  unfold lp_Tuesday_lead_6
  obtain ⟨m, hm⟩ := FU_eq (n := (8 - t) + 1) (by omega)
  rw [hm, show m + ((8 - t) + 1) = (m + 1) + (8 - t) by omega]
  obtain ⟨K, ⟨k1, k2, k3, k4, k5⟩, e⟩ := itr_go (fun _ _ _ => none) (s_Tuesday_lead_6 b) (fun i (K : Dt) k => k (zI p) (zI ((t + i : Nat) : Int)) K) (8 - t) (fun i (K : Dt) => TdC K B p W (t + i) ∧ (∀ k, (k < 34 ∨ 99 < k) → K k = D k) ∧ K 37 = D 37 ∧ K 34 0 = D 34 0 ∧ K 35 0 = D 35 0)
    (fun i hi K g => by
      obtain ⟨g1, g2, g3, g4, g5⟩ := g
      obtain ⟨L, l1, l2, l3, l4, l5, l6⟩ := c_leadHour (b := b) (hb.congr (fun k x y => g2 k (by omega))) hB hn hbb hW hT0 hT hp (show t + i < 8 by omega) g1
      refine ⟨L, ⟨l2, fun k hk => by rw [l3 k hk, g2 k hk], by rw [l4, g3], by rw [l5, g4], by rw [l6, g5]⟩, fun k => ?_⟩
      unfold s_Tuesday_lead_6
      rw [if_neg (by rw [show (8 : Int32) = zI 8 from rfl, zI_le (by omega) (by omega) (by omega) (by omega)]; omega), l1, bnd_s, zI_s]
      rfl)
    D ⟨ht, fun _ _ => rfl, rfl, rfl, rfl⟩
  have e := e (m + 1)
  rw [show t + (8 - t) = 8 by omega] at e k1
  refine ⟨wr (wr K 32 4 (zI p)) 32 5 1, ?_, fun j hj => ?_, fun k hk h32 => by rw [wr_ne h32, wr_ne h32, k2 k hk], by rw [wr_ne (by omega), wr_ne (by omega), k3], by rw [wr_ne (by omega), wr_ne (by omega), k4], by rw [wr_ne (by omega), wr_ne (by omega), k5], by rw [wr_at, upd_ne (by omega), wr_at, upd_at], by rw [wr_at, upd_at]⟩
  · refine e.trans ?_
    rw [itr_s]
    unfold s_Tuesday_lead_6
    rw [if_pos (by decide), nm_s, nm_s]
  · obtain ⟨u1, u2, u3, u4⟩ := k1 j hj
    simp (disch := omega) only [wr_ne]
    exact ⟨u1.congr (fun k x y => by rw [wr_ne (by omega), wr_ne (by omega)]), u2, u3, u4⟩
theorem c_lead {D : Dt} {b p : Nat} {B : BedT} {W : WatT} {T : Int} (hb : BRep D b B) (hB : BOk B) (hn : 0 < B.1) (hbb : b + 5 < 32) (hW : WOk B W T) (hT0 : 0 ≤ T) (hT : T < 100000) (hp : p < 256) (ht : TdS D B W) :
    ∃ D1, f_Tuesday_lead b (zI p) D = some ((), D1) ∧ TdC D1 B p W 8 ∧ TdS D1 B W ∧ ∀ k, (k < 32 ∨ 99 < k) → D1 k = D k := by
  obtain ⟨t1, t2, t3, t4, t5⟩ := ht
  have h8 := hB.1
  have key : ∃ t, t ≤ 8 ∧ f_Tuesday_hoursAlike (zI p) D = some (zI (t : Nat), D) ∧ TdC D B p W t := by
    rcases t5 with c | ⟨c1, q, c2, c3, c4⟩
    · refine ⟨0, by omega, ?_, TdC.zero h8 t1 t2 t3 t4 p⟩
      unfold f_Tuesday_hoursAlike
      rw [c, if_pos rfl]; rfl
    · obtain ⟨t, a1, a2, a3⟩ := c_alike hp c2 c3 c1
      exact ⟨t, a1, a2, c4.same a1 a3⟩
  obtain ⟨t, a1, a2, a3⟩ := key
  obtain ⟨E, e1, e2, e3, e4, e5, e6, e7, e8⟩ := c_leadFrom hb hB hn hbb hW hT0 hT hp t a1 a3
  unfold f_Tuesday_lead
  rw [a2, bnd_s]
  refine ⟨E, e1, e2, ⟨(e2 0 (by omega)).1, by rw [e5]; exact t2, by rw [e6]; exact t3, fun i hi => by rw [e4]; exact t4 i hi, Or.inr ⟨e8, p, hp, e7, e2⟩⟩, fun k hk => e3 k (by omega) (by omega)⟩
theorem c_begin {D : Dt} {v : Nat} {B : BedT} {W : WatT} (hv : v + 5 < 32) (hW : WRep D v W) (h2 : D 34 0 = 0) (h3 : D 35 0 = 0) (h4 : ∀ i, i < 8 → D 37 i = 0) :
    ∃ D1, f_Tuesday_begin v D = some ((), D1) ∧ TdS D1 B W ∧ ∀ k, (k < 32 ∨ 99 < k) → D1 k = D k := by
  unfold f_Tuesday_begin
  obtain ⟨E, e1, e2, e3⟩ := c_wTake (w := 46) (v := v) hW (by omega)
  rw [if_pos (by decide), tc0, show 46 + 6 * 0 = 46 from rfl, e1, bnd_s, nm_s]
  refine ⟨_, rfl, ⟨e2.congr (fun k x y => wr_ne (by omega)), by rw [wr_ne (by omega), e3 34 (by omega)]; exact h2, by rw [wr_ne (by omega), e3 35 (by omega)]; exact h3, fun i hi => by rw [wr_ne (by omega), e3 37 (by omega)]; exact h4 i hi, Or.inl (by rw [wr_at, upd_at])⟩, fun k hk => by rw [wr_ne (by omega), e3 k (by omega)]⟩
theorem TdS.crep {D D1 : Dt} {S : SstT} {B : BedT} {W : WatT} (h : CRep D S) (ht : TdS D1 B W) (hk : ∀ k, cIds k = true → k ≠ 34 → k ≠ 35 → k ≠ 37 → D1 k = D k) : CRep D1 S := by
  have e : ∀ k, (k = 0 ∨ (3 ≤ k ∧ k ≤ 17) ∨ k = 19 ∨ k = 110 ∨ (111 ≤ k ∧ k < 176)) → D1 k = D k := fun k q => hk k (by simp only [cIds, Bool.or_eq_true, Bool.and_eq_true, decide_eq_true_eq, beq_iff_eq]; omega) (by omega) (by omega) (by omega)
  obtain ⟨h1, h2, h3, h4, h5, h6⟩ := h
  refine ⟨fun r hr => (h1 r hr).congr (e _ (by omega)) (e _ (by omega)), fun t ht => (h2 t ht).congr (e _ (by omega)) (e _ (by omega)), ?_, h4.congr (fun k a b => e k (by omega)), fun k hk => ⟨?_, fun q => ((h5 k hk).2 q).congr (fun j a b => e j (by omega))⟩, ⟨ht.2.1, ht.2.2.1, ht.2.2.2.1⟩⟩
  · rw [e 0 (by omega), e 110 (by omega)]; exact h3
  · rw [e 19 (by omega)]; exact (h5 k hk).1
/-- begin and lead from the water that stands now -/
theorem c_leadAside {D : Dt} {S : SstT} (h : CRep D S) (ho : Ok S) (hn : 0 < S.2.2.2.1.1.1) {p : Nat} (hp : p < 256) :
    ∃ D1, f_Root_leadAside (zI p) D = some ((), D1) ∧ TdC D1 S.2.2.2.1.1 p S.2.2.2.1.2.1 8 ∧ CRep D1 S ∧ ∀ k, (k < 32 ∨ 99 < k) → D1 k = D k := by
  obtain ⟨o1, o2, o3, ⟨o4, o5, o6⟩, o7, o8⟩ := ho.2.1
  obtain ⟨hb, hw, hc, hpp⟩ := h.2.2.2.1
  obtain ⟨z1, z2, z3⟩ := h.2.2.2.2.2
  unfold f_Root_leadAside
  obtain ⟨E, e1, e2, e3⟩ := c_begin (v := 3 + 7) (B := S.2.2.2.1.1) (by omega) hw z1 z2 z3
  obtain ⟨F, f1, f2, f3, f4⟩ := c_lead (b := 3 + 1) (hb.congr (fun k x y => e3 k (by omega))) o1 hn (by omega) o4 (by omega) (by omega) hp e2
  rw [e1, bnd_s, f1, bnd_s]
  have Fk : ∀ k, (k < 32 ∨ 99 < k) → F k = D k := fun k hk => by rw [f4 k hk, e3 k hk]
  refine ⟨F, rfl, f2, f3.crep h (fun k hk a b c => Fk k ?_), Fk⟩
  simp only [cIds, Bool.or_eq_true, Bool.and_eq_true, decide_eq_true_eq, beq_iff_eq] at hk
  omega
theorem c_refusedPlan {D : Dt} {S : SstT} (h : CRep D S) (ho : Ok S) (v : Int32) : f_Root_refusedPlan v D = some (if wi v 0 255 = true then (if 0 < S.2.2.2.1.1.1 then 0 else -4) else -1, D) := by
  unfold f_Root_refusedPlan
  rw [c_isPlan, bnd_s, zo_if, c_hasHouses h ho, bnd_s, zo_if]
  by_cases c : wi v 0 255 = true
  · rw [if_pos c, if_pos c]
    by_cases d : 0 < S.2.2.2.1.1.1
    · rw [if_pos d, if_pos d]
    · rw [if_neg d, if_neg d]
  · rw [if_neg c, if_neg c]
/-! harm, wet, stands: the class -/
abbrev tW (S : SstT) (p h : Nat) : WatT := tdW S.2.2.2.1.1 p S.2.2.2.1.2.1 h
def grdV (S : SstT) (p : Nat) : Int := sum8 (tW S p 8).2.2.1 - sum8 S.2.2.2.1.2.1.2.2.1
def sp_harm (v1 : Int32) (S : SstT) : Int32 × SstT := if wi v1 0 255 = true then (if 0 < S.2.2.2.1.1.1 then (zI (tdH S.2.2.2.1.1 v1.toInt.toNat S.2.2.2.1.2.1 8), sTell S (zI (grdV S v1.toInt.toNat))) else (-4, S)) else (-1, S)
def sp_wet (v1 : Int32) (S : SstT) : Int32 × SstT := if wi v1 0 255 = true then (if 0 < S.2.2.2.1.1.1 then (zI (tdB S.2.2.2.1.1 v1.toInt.toNat S.2.2.2.1.2.1 8 : Nat), sTell S (zI (popc (tdB S.2.2.2.1.1 v1.toInt.toNat S.2.2.2.1.2.1 8) : Nat))) else (-4, S)) else (-1, S)
def sp_stands (v1 : Int32) (S : SstT) : Int32 × SstT := if wi v1 0 255 = true then (if 0 < S.2.2.2.1.1.1 then (zI (sum8 (tW S v1.toInt.toNat 8).1), sTell S (zI ((tW S v1.toInt.toNat 8).2.2.2.2 - S.2.2.2.1.2.1.2.2.2.2))) else (-4, S)) else (-1, S)
theorem c_grindings {D : Dt} {B : BedT} {p : Nat} {W : WatT} (ht : TdC D B p W 8) : f_Tuesday_grindings D = some (zI (sum8 (tdW B p W 8).2.2.1 - sum8 W.2.2.1), D) := by
  unfold f_Tuesday_grindings
  rw [if_pos (by decide), tc8, tc0, c_allFlour (by decide +kernel) (ht 8 (by omega)).1, bnd_s, if_pos (by decide), c_allFlour (by decide +kernel) (ht 0 (by omega)).1, bnd_s, zI_sub]
  rfl
theorem c_harmDone {D : Dt} {B : BedT} {p : Nat} {W : WatT} (ht : TdC D B p W 8) : f_Tuesday_harmDone D = some (zI (tdH B p W 8), D) := by
  unfold f_Tuesday_harmDone
  rw [if_pos (by decide), tc8, (ht 8 (by omega)).2.1]
theorem k_harm {D : Dt} {S : SstT} (h : CRep D S) (ho : Ok S) (v1 : Int32) : CDo (f_Root_harm v1 D) D (sp_harm v1 S).1 (sp_harm v1 S).2 := by
  unfold f_Root_harm sp_harm
  rw [c_refusedPlan h ho, bnd_s]
  by_cases c : wi v1 0 255 = true
  · by_cases d : 0 < S.2.2.2.1.1.1
    · obtain ⟨p, hp, -, rfl⟩ := wi_nat c (by omega)
      obtain ⟨E, e1, e2, e3, e4⟩ := c_leadAside h ho d (show p < 256 by omega)
      simp only [c, d, if_true, zI_toInt (show -2147483648 ≤ (p : Int) by omega) (show (p : Int) < 2147483648 by omega), Int.toNat_natCast]
      rw [e1, bnd_s, c_grindings e2, bnd_s, c_harmDone e2, bnd_s]
      exact (c_tell e3 _ _).bind (fun k hk => e4 k (by omega))
    · simp only [c, d, if_true, if_false]
      rw [if_neg (by decide)]
      exact CDo.same h _
  · simp only [c, if_false, Bool.false_eq_true]
    rw [if_neg (by decide)]
    exact CDo.same h _
theorem k_wet {D : Dt} {S : SstT} (h : CRep D S) (ho : Ok S) (v1 : Int32) : CDo (f_Root_wet v1 D) D (sp_wet v1 S).1 (sp_wet v1 S).2 := by
  unfold f_Root_wet sp_wet
  rw [c_refusedPlan h ho, bnd_s]
  by_cases c : wi v1 0 255 = true
  · by_cases d : 0 < S.2.2.2.1.1.1
    · obtain ⟨p, hp, -, rfl⟩ := wi_nat c (by omega)
      obtain ⟨E, e1, e2, e3, e4⟩ := c_leadAside h ho d (show p < 256 by omega)
      simp only [c, d, if_true, zI_toInt (show -2147483648 ≤ (p : Int) by omega) (show (p : Int) < 2147483648 by omega), Int.toNat_natCast]
      rw [e1, bnd_s, if_pos (by decide), nm_s, tc8, (e2 8 (by omega)).2.2.1, c_bitCount (tdB_lt ho.2.1.1.1 _ _ _), bnd_s]
      exact (c_tell e3 _ _).bind (fun k hk => e4 k (by omega))
    · simp only [c, d, if_true, if_false]
      rw [if_neg (by decide)]
      exact CDo.same h _
  · simp only [c, if_false, Bool.false_eq_true]
    rw [if_neg (by decide)]
    exact CDo.same h _
theorem k_stands {D : Dt} {S : SstT} (h : CRep D S) (ho : Ok S) (v1 : Int32) : CDo (f_Root_stands v1 D) D (sp_stands v1 S).1 (sp_stands v1 S).2 := by
  unfold f_Root_stands sp_stands
  rw [c_refusedPlan h ho, bnd_s]
  by_cases c : wi v1 0 255 = true
  · by_cases d : 0 < S.2.2.2.1.1.1
    · obtain ⟨p, hp, -, rfl⟩ := wi_nat c (by omega)
      obtain ⟨E, e1, e2, e3, e4⟩ := c_leadAside h ho d (show p < 256 by omega)
      simp only [c, d, if_true, zI_toInt (show -2147483648 ≤ (p : Int) by omega) (show (p : Int) < 2147483648 by omega), Int.toNat_natCast]
      unfold f_Tuesday_runOut
      rw [e1, bnd_s, if_pos (by decide), if_pos (by decide), bnd_s, if_pos (by decide), tc8, tc0, c_allAhead (by decide +kernel) (e2 8 (by omega)).1, bnd_s, (e2 8 (by omega)).1.2.1, (e2 0 (by omega)).1.2.1, zI_sub]
      exact (c_tell e3 _ _).bind (fun k hk => e4 k (by omega))
    · simp only [c, d, if_true, if_false]
      rw [if_neg (by decide)]
      exact CDo.same h _
  · simp only [c, if_false, Bool.false_eq_true]
    rw [if_neg (by decide)]
    exact CDo.same h _
