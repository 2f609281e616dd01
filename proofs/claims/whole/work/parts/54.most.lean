/-! most, least, dry -/
def PL : Nat := 256
theorem PL_e : PL = 256 := rfl
abbrev hrm (S : SstT) (p : Nat) : Int := tdH S.2.2.2.1.1 p S.2.2.2.1.2.1 8
theorem hrm_b {S : SstT} (ho : Ok S) (hn : 0 < S.2.2.2.1.1.1) (p : Nat) : 0 ≤ hrm S p ∧ hrm S p ≤ 1152 := by
  obtain ⟨o1, o2, o3, ⟨o4, o5, o6⟩, o7, o8⟩ := ho.2.1
  have := tdH_ok o1 hn o4 p 8
  show 0 ≤ tdH S.2.2.2.1.1 p S.2.2.2.1.2.1 8 ∧ tdH S.2.2.2.1.1 p S.2.2.2.1.2.1 8 ≤ 1152
  omega
theorem td_fl {B : BedT} {W : WatT} {T : Int} (hB : BOk B) (hn : 0 < B.1) (hW : WOk B W T) (hT : T ≤ 540) (p : Nat) (j : Nat) : ∀ h : Nat, h ≤ 8 → W.2.2.1 j ≤ (tdW B p W h).2.2.1 j ∧ (tdW B p W h).2.2.1 j ≤ W.2.2.1 j + 612 * h := by
  intro h
  induction h with
  | zero => intro _; show W.2.2.1 j ≤ W.2.2.1 j ∧ W.2.2.1 j ≤ _; omega
  | succ h ih =>
    intro hh
    have i := ih (by omega)
    obtain ⟨-, -, -, -, -, f, -, -⟩ := hrW_ok (op := bt p h) hB hn (td_ok hB hn hW p h)
    have := f j
    show W.2.2.1 j ≤ (hrW B (bt p h) (tdW B p W h)).2.2.1 j ∧ (hrW B (bt p h) (tdW B p W h)).2.2.1 j ≤ _
    omega
theorem grd_b {S : SstT} (ho : Ok S) (hn : 0 < S.2.2.2.1.1.1) (p : Nat) : 0 ≤ grdV S p ∧ grdV S p ≤ 39168 := by
  obtain ⟨o1, o2, o3, ⟨o4, o5, o6⟩, o7, o8⟩ := ho.2.1
  have f : ∀ j, S.2.2.2.1.2.1.2.2.1 j ≤ (tW S p 8).2.2.1 j ∧ (tW S p 8).2.2.1 j ≤ S.2.2.2.1.2.1.2.2.1 j + 4896 := fun j => by
    have := td_fl o1 hn o4 (by omega) p j 8 (by omega)
    show S.2.2.2.1.2.1.2.2.1 j ≤ (tdW S.2.2.2.1.1 p S.2.2.2.1.2.1 8).2.2.1 j ∧ (tdW S.2.2.2.1.1 p S.2.2.2.1.2.1 8).2.2.1 j ≤ _
    omega
  unfold grdV sum8
  have := f 0; have := f 1; have := f 2; have := f 3; have := f 4; have := f 5; have := f 6; have := f 7
  omega
theorem popc8 {p : Nat} (hp : p < 256) : popc p ≤ 8 := (popc_d p hp).2
def kMost (S : SstT) (p : Nat) : Int := -(grdV S p) * 100000 + hrm S p
def kLeast (S : SstT) (p : Nat) : Int := hrm S p * 100000 + popc p
def kDry (p : Nat) : Int := -(popc p : Int) * 100000 + 0
def pMost (v : Int32) (p : Nat) : Bool := decide ((popc p : Int) = v.toInt)
def pLeast (S : SstT) (v : Int32) (p : Nat) : Bool := decide (v.toInt ≤ grdV S p)
def pDry (S : SstT) (p : Nat) : Bool := decide (hrm S p = 0)
def optA (o : Option Nat) (d : Int32 × SstT) (f : Nat → Int32 × SstT) : Int32 × SstT := match o with
  | none => d
  | some b => f b
def sp_most (v1 : Int32) (S : SstT) : Int32 × SstT := if wi v1 0 8 = true then (if 0 < S.2.2.2.1.1.1 then optA (bsN (pMost v1) (kMost S) PL) (-9, S) (fun b => (zI (b : Nat), sTell S (zI (grdV S b)))) else (-4, S)) else (-1, S)
def sp_least (v1 : Int32) (S : SstT) : Int32 × SstT := if wi v1 0 99 = true then (if 0 < S.2.2.2.1.1.1 then optA (bsN (pLeast S v1) (kLeast S) PL) (-9, S) (fun b => (zI (b : Nat), sTell S (zI (hrm S b)))) else (-4, S)) else (-1, S)
def sp_dry (S : SstT) : Int32 × SstT := if 0 < S.2.2.2.1.1.1 then optA (bsN (pDry S) kDry PL) (-9, S) (fun b => (zI (popc b : Nat), sTell S (zI (b : Nat)))) else (-4, S)
theorem kMost_b {S : SstT} (ho : Ok S) (hn : 0 < S.2.2.2.1.1.1) : ∀ p, p < 256 → -100000000000 ≤ kMost S p ∧ kMost S p ≤ 100000000000 := fun p _ => by
  have := grd_b ho hn p
  have h2 : 0 ≤ hrm S p ∧ hrm S p ≤ 1152 := hrm_b ho hn p
  unfold kMost
  generalize grdV S p = a at *
  generalize hrm S p = b at *
  omega
theorem kLeast_b {S : SstT} (ho : Ok S) (hn : 0 < S.2.2.2.1.1.1) : ∀ p, p < 256 → -100000000000 ≤ kLeast S p ∧ kLeast S p ≤ 100000000000 := fun p hp => by
  have := popc8 hp
  have h2 : 0 ≤ hrm S p ∧ hrm S p ≤ 1152 := hrm_b ho hn p
  unfold kLeast
  generalize hrm S p = b at *
  omega
theorem kDry_b : ∀ p, p < 256 → -100000000000 ≤ kDry p ∧ kDry p ≤ 100000000000 := fun p hp => by
  have := popc8 hp
  unfold kDry
  omega
theorem most_some (v : Int32) (hv : wi v 0 8 = true) (K : Nat → Int) : ∃ b, bsN (pMost v) K PL = some b := by
  obtain ⟨s1, s2⟩ := bsN_spec (pMost v) K PL
  cases hc : bsN (pMost v) K PL with
  | none =>
    obtain ⟨h, hh, -, rfl⟩ := wi_nat hv (by omega)
    have d : ∀ h : Nat, h < 9 → popc (2 ^ h - 1) = h ∧ 2 ^ h - 1 < 256 := by decide +kernel
    have := d h (by omega)
    have := s1 hc (2 ^ h - 1) (by rw [PL_e]; omega)
    unfold pMost at this
    rw [zI_toInt (by omega) (by omega), (d h (by omega)).1] at this
    simp at this
  | some b => exact ⟨b, rfl⟩
/-- a Tuesday led aside among many -/
theorem c_leadOn {D E : Dt} {S : SstT} (h : CRep D S) (ho : Ok S) (hn : 0 < S.2.2.2.1.1.1) {p : Nat} (hp : p < 256) (ht : TdS E S.2.2.2.1.1 S.2.2.2.1.2.1) (hk : ∀ k, (k < 32 ∨ 99 < k) → E k = D k) :
    ∃ D1, f_Tuesday_lead (3 + 1) (zI p) E = some ((), D1) ∧ TdC D1 S.2.2.2.1.1 p S.2.2.2.1.2.1 8 ∧ TdS D1 S.2.2.2.1.1 S.2.2.2.1.2.1 ∧ ∀ k, (k < 32 ∨ 99 < k) → D1 k = D k := by
  obtain ⟨o1, o2, o3, ⟨o4, o5, o6⟩, o7, o8⟩ := ho.2.1
  obtain ⟨F, f1, f2, f3, f4⟩ := c_lead (b := 3 + 1) (h.2.2.2.1.1.congr (fun k x y => hk k (by omega))) o1 hn (by omega) o4 (by omega) (by omega) hp ht
  exact ⟨F, f1, f2, f3, fun k q => by rw [f4 k q, hk k q]⟩
theorem TdS.rep {D E : Dt} {S : SstT} (h : CRep D S) (ht : TdS E S.2.2.2.1.1 S.2.2.2.1.2.1) (hk : ∀ k, (k < 32 ∨ 99 < k) → E k = D k) : CRep E S := ht.crep h (fun k hc a b c => hk k (by
  simp only [cIds, Bool.or_eq_true, Bool.and_eq_true, decide_eq_true_eq, beq_iff_eq] at hc
  omega))
theorem c_tdBegin {D : Dt} {S : SstT} (h : CRep D S) : ∃ D1, f_Tuesday_begin (3 + 7) D = some ((), D1) ∧ TdS D1 S.2.2.2.1.1 S.2.2.2.1.2.1 ∧ ∀ k, (k < 32 ∨ 99 < k) → D1 k = D k :=
  c_begin (v := 3 + 7) (B := S.2.2.2.1.1) (by omega) h.2.2.2.1.2.1 h.2.2.2.2.2.1 h.2.2.2.2.2.2.1 h.2.2.2.2.2.2.2
theorem rk0 (P : Nat → Bool) (K : Nat → Int) : RkI P K 0 1000000000000000 := ⟨Or.inl rfl, fun n hn => by omega, by omega, by omega⟩
theorem k_most {D : Dt} {S : SstT} (h : CRep D S) (ho : Ok S) (v1 : Int32) : CDo (f_Root_most v1 D) D (sp_most v1 S).1 (sp_most v1 S).2 := by
  unfold f_Root_most sp_most
  rw [c_isWithin, bnd_s, zo_if, c_hasHouses h ho, bnd_s, zo_if]
  simp only [tl]
  by_cases c : wi v1 0 8 = true
  · rw [if_pos c, if_pos c]
    by_cases d : 0 < S.2.2.2.1.1.1
    · rw [if_pos d, if_pos d]
      obtain ⟨E, e1, e2, e3⟩ := c_tdBegin h
      rw [e1, bnd_s]
      unfold lp_Root_most_43
      obtain ⟨m, hm⟩ := FU_eq (n := 257) (by omega)
      rw [hm, show m + 257 = (m + 1) + 256 by omega]
      obtain ⟨F, ⟨f1, f2, f3⟩, e⟩ := itr_go (fun _ _ _ _ => none) s_Root_most_43 (fun i (F : Dt × Int) k => k v1 (zL F.2) (zI i) F.1) 256 (fun i (F : Dt × Int) => TdS F.1 S.2.2.2.1.1 S.2.2.2.1.2.1 ∧ (∀ k, (k < 32 ∨ 99 < k) → F.1 k = D k) ∧ RkI (pMost v1) (kMost S) i F.2)
        (fun i hi F z => by
          obtain ⟨z1, z2, z3⟩ := z
          have hmi := (mir_d i hi).1
          have hs := z3.step hi (kMost_b ho d)
          have hpp : (zI (popc (mirH i 8) : Nat) = v1) ↔ pMost v1 (mirH i 8) = true := by
            have := popc8 hmi
            unfold pMost
            rw [← Int32.toInt_inj, zI_toInt (by omega) (by omega), decide_eq_true_eq]
          by_cases g : pMost v1 (mirH i 8) = true
          · obtain ⟨L, l1, l2, l3, l4⟩ := c_leadOn h ho d hmi z1 z2
            rw [if_pos g] at hs
            refine ⟨(L, min F.2 (kMost S (mirH i 8) * 256 + (mirH i 8 : Nat))), ⟨l3, l4, hs⟩, fun k => ?_⟩
            have b1 := grd_b ho d (mirH i 8)
            have b2 : 0 ≤ hrm S (mirH i 8) ∧ hrm S (mirH i 8) ≤ 1152 := hrm_b ho d (mirH i 8)
            have b3 := kMost_b ho d _ hmi
            have b4 := z3.2.2
            unfold s_Root_most_43 b_Root_most_108
            rw [if_neg (by rw [show (256 : Int32) = zI 256 from rfl, zI_le (by omega) (by omega) (by omega) (by omega)]; omega), c_mirrored hi, bnd_s, c_bitCount hmi, bnd_s, if_pos (hpp.mpr g), l1, bnd_s, c_grindings l2, bnd_s, c_harmDone l2, bnd_s, zI_neg, show sum8 (tdW S.2.2.2.1.1 (mirH i 8) S.2.2.2.1.2.1 8).2.2.1 - sum8 S.2.2.2.1.2.1.2.2.1 = grdV S (mirH i 8) from rfl, show tdH S.2.2.2.1.1 (mirH i 8) S.2.2.2.1.2.1 8 = hrm S (mirH i 8) from rfl, c_rank (by omega) (by omega) hmi, bnd_s, show (-(grdV S (mirH i 8)) * 100000 + hrm S (mirH i 8)) = kMost S (mirH i 8) from rfl, zL_min b4 (by omega), zI_s]
          · rw [if_neg g] at hs
            refine ⟨F, ⟨z1, z2, hs⟩, fun k => ?_⟩
            unfold s_Root_most_43 b_Root_most_108
            rw [if_neg (by rw [show (256 : Int32) = zI 256 from rfl, zI_le (by omega) (by omega) (by omega) (by omega)]; omega), c_mirrored hi, bnd_s, c_bitCount hmi, bnd_s, if_neg (fun q => g (hpp.mp q)), zI_s])
        (E, 1000000000000000) ⟨e2, e3, rk0 _ _⟩
      have e := e (m + 1)
      refine (show CDo (itr (fun _ _ _ _ => none) s_Root_most_43 (m + 1 + 256) v1 (zL 1000000000000000) (zI ((0 : Nat) : Int)) E) D _ _ from ?_)
      simp only at e
      rw [e, itr_s]
      obtain ⟨b, hb⟩ := most_some v1 c (kMost S)
      obtain ⟨g1, g2⟩ := RkI.fin PL_e f3 (kMost_b ho d)
      obtain ⟨b1, b2, b3⟩ := g2 b hb
      obtain ⟨L, l1, l2, l3, l4⟩ := c_leadOn h ho d b1 f1 f2
      unfold s_Root_most_43
      rw [if_pos (by decide), c_planOf f3.2.2 b1 _ b3, bnd_s, l1, bnd_s, c_grindings l2, bnd_s, hb]
      exact (c_tell (l3.rep h l4) _ _).bind (fun k hk => l4 k (by omega))
    · rw [if_neg d, if_neg d]
      exact CDo.same h _
  · rw [if_neg c, if_neg c]
    exact CDo.same h _
