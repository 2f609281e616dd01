/-! whose -/
def sSill (S : SstT) (i : Nat) (v : Int) : SstT := sStr S (bSill S.2.2.2.1.1 i v, S.2.2.2.1.2)
theorem fu_back {α : Type} (f : Nat → α) (i : Nat) (v : α) : fu (fu f i v) i (f i) = f := by
  funext j
  by_cases c : j = i
  · subst c; rw [fu_at]
  · rw [fu_ne c, fu_ne c]
theorem sSill_back (S : SstT) (i : Nat) (v : Int) : sSill (sSill S i v) i (sS S.2.2.2.1.1 i) = S := by
  show (S.1, S.2.1, S.2.2.1, ((S.2.2.2.1.1.1, S.2.2.2.1.1.2.1, S.2.2.2.1.1.2.2.1, S.2.2.2.1.1.2.2.2.1, S.2.2.2.1.1.2.2.2.2.1, fu (fu S.2.2.2.1.1.2.2.2.2.2.1 i v) i (S.2.2.2.1.1.2.2.2.2.2.1 i), S.2.2.2.1.1.2.2.2.2.2.2), S.2.2.2.1.2), S.2.2.2.2) = S
  rw [fu_back]
theorem Ok.sill {S : SstT} (ho : Ok S) {i : Nat} {v : Int} (hv : 0 ≤ v ∧ v ≤ 100) : Ok (sSill S i v) := by
  obtain ⟨p1, ⟨o1, o2, o3, o4, o7, o8⟩, p3⟩ := ho
  obtain ⟨b1, b2, b3, b4⟩ := o1
  refine ⟨p1, ⟨⟨b1, b2, b3, fun j hj => ?_⟩, o2, o3, o4, o7, o8⟩, p3⟩
  obtain ⟨c1, c2, c3, c4, c5⟩ := b4 j hj
  refine ⟨c1, c2, ?_, c4, c5⟩
  show 0 ≤ fu S.2.2.2.1.1.2.2.2.2.2.1 i v j ∧ fu S.2.2.2.1.1.2.2.2.2.2.1 i v j ≤ 100
  by_cases c : j = i
  · subst c; rw [fu_at]; exact hv
  · rw [fu_ne c]; exact c3
theorem m_setSill {D : Dt} {S : SstT} (h : MRep D S) (ho : Ok S) {i : Nat} (v : Int) : MRep (wr D 185 i (zI v)) (sSill S i v) := by
  refine h.setStr ⟨mBed_set h.2.2.2.1.1 (fun j _ => by rw [wr_ne (by omega)]) (by rw [wr_ne (by omega)]; exact h.2.2.2.1.1.2.1) rfl rfl (fun j hj hn => ?_), ?_, ?_, ?_⟩ (by rw [wr_ne (by omega)]) (by rw [wr_ne (by omega)]) (fun k _ _ hk => by rw [wr_ne (by omega)])
  · obtain ⟨g1, g2, g3, g4, g5⟩ := h.2.2.2.1.1.at ho.2.1.1 hn
    refine ⟨by rw [wr_ne (by omega)]; exact g1, by rw [wr_ne (by omega)]; exact g2, ?_, by rw [wr_ne (by omega)]; exact g4, by rw [wr_ne (by omega)]; exact g5⟩
    rw [wr_at]
    show _ = zI (fu S.2.2.2.1.1.2.2.2.2.2.1 i v j)
    by_cases z : j = i
    · subst z; rw [upd_at, fu_at]
    · rw [upd_ne z, fu_ne z]; exact g3
  · rw [wr_ne (by omega)]; exact h.2.2.2.1.2.1
  · rw [wr_ne (by omega)]; exact h.2.2.2.1.2.2.1
  · rw [wr_ne (by omega)]; exact h.2.2.2.1.2.2.2
/-- the sills as the calls leave them -/
def SlOk (S : SstT) : Prop := (∀ i, i < S.2.2.2.1.1.1 → sS S.2.2.2.1.1 i ≤ 20) ∧ ∀ k, k < 3 → (S.2.2.2.2 k).1 = true → ∀ i, i < (S.2.2.2.2 k).2.1.1 → sS (S.2.2.2.2 k).2.1 i ≤ 20
def whV (S : SstT) (p i : Nat) : Int := hrm (sSill S i (sS S.2.2.2.1.1 i + 1)) p
def wsB (f : Nat → Int) : Nat → Nat × Int
  | 0 => (0, f 0)
  | h + 1 => if f (h + 1) < (wsB f h).2 then (h + 1, f (h + 1)) else wsB f h
theorem wsB_ok {f : Nat → Int} {n : Nat} (hf : ∀ i, i < n → 0 ≤ f i ∧ f i ≤ 1152) : ∀ h, h < n → 0 ≤ (wsB f h).2 ∧ (wsB f h).2 ≤ 1152 := by
  intro h
  induction h with
  | zero => intro hn; exact hf 0 hn
  | succ h ih =>
    intro hn
    by_cases c : f (h + 1) < (wsB f h).2
    · rw [show wsB f (h + 1) = (h + 1, f (h + 1)) from if_pos c]; exact hf _ hn
    · rw [show wsB f (h + 1) = wsB f h from if_neg c]; exact ih (by omega)
def sp_whose (v1 : Int32) (S : SstT) : Int32 × SstT := if wi v1 0 255 = true then (if 0 < S.2.2.2.1.1.1 then (zI ((wsB (whV S v1.toInt.toNat) (S.2.2.2.1.1.1 - 1)).1 : Nat), sTell S (zI (wsB (whV S v1.toInt.toNat) (S.2.2.2.1.1.1 - 1)).2)) else (-4, S)) else (-1, S)
theorem whV_b {S : SstT} (ho : Ok S) (hs : SlOk S) (p : Nat) : ∀ i, i < S.2.2.2.1.1.1 → 0 ≤ whV S p i ∧ whV S p i ≤ 1152 := fun i hi => by
  have h1 := hs.1 i hi
  have h2 := (ho.2.1.1.2.2.2 i hi).2.2.1
  exact hrm_b (S := sSill S i (sS S.2.2.2.1.1 i + 1)) (ho.sill (by omega)) (show 0 < S.2.2.2.1.1.1 by omega) p
/-- a Tuesday led aside on the trial bed -/
theorem c_leadTrial {D E : Dt} {S : SstT} {B : BedT} (h : CRep D S) (ho : Ok S) (hn : 0 < B.1) (hB : BOk B) (hW : WOk B S.2.2.2.1.2.1 540) (hbE : BRep E 20 B) (hk : ∀ k, (k < 20 ∨ 25 < k) → E k = D k) {p : Nat} (hp : p < 256) :
    ∃ D1 D2, f_Tuesday_begin (3 + 7) E = some ((), D1) ∧ f_Tuesday_lead 20 (zI p) D1 = some ((), D2) ∧ TdC D2 B p S.2.2.2.1.2.1 8 ∧ CRep D2 S ∧ ∀ k, (k < 20 ∨ (25 < k ∧ k < 32) ∨ 99 < k) → D2 k = D k := by
  obtain ⟨E1, e1, e2, e3⟩ := c_begin (D := E) (v := 3 + 7) (B := B) (by omega) (h.2.2.2.1.2.1.congr (fun k a b => hk k (by omega))) (by rw [hk 34 (by omega)]; exact h.2.2.2.2.2.1) (by rw [hk 35 (by omega)]; exact h.2.2.2.2.2.2.1) (fun i hi => by rw [hk 37 (by omega)]; exact h.2.2.2.2.2.2.2 i hi)
  obtain ⟨E2, g1, g2, g3, g4⟩ := c_lead (b := 20) (hbE.congr (fun k a b => e3 k (by omega))) hB hn (by omega) hW (by omega) (by omega) hp e2
  have fr : ∀ k, (k < 20 ∨ (25 < k ∧ k < 32) ∨ 99 < k) → E2 k = D k := fun k hk2 => by rw [g4 k (by omega), e3 k (by omega), hk k (by omega)]
  refine ⟨E1, E2, e1, g1, g2, g3.crep h (fun k hc a b c => fr k ?_), fr⟩
  simp only [cIds, Bool.or_eq_true, Bool.and_eq_true, decide_eq_true_eq, beq_iff_eq] at hc
  omega
theorem c_harmRaised {D : Dt} {S : SstT} (h : CRep D S) (ho : Ok S) (hs : SlOk S) {p i : Nat} (hp : p < 256) (hi : i < S.2.2.2.1.1.1) : ∃ D1, f_Root_harmWithRaised (zI i) (zI p) D = some (zI (whV S p i), D1) ∧ CRep D1 S ∧ FrC D D1 := by
  have h8 := ho.2.1.1.1
  have hs1 := hs.1 i hi
  have hsi := (ho.2.1.1.2.2.2 i hi).2.2.1
  have hok : Ok (sSill S i (sS S.2.2.2.1.1 i + 1)) := ho.sill (by omega)
  unfold f_Root_harmWithRaised
  obtain ⟨E, e1, e2, -, e4⟩ := c_bTake (w := 20) (v := 3 + 1) h.2.2.2.1.1 (by omega)
  have hin : inb (zI (i : Int)) 8 = true := inb_t (by omega) (by omega) (by omega)
  obtain ⟨b1, b2, b3⟩ := e2
  rw [e1, bnd_s, if_pos hin, if_pos hin, nm_s, zI_nat (by omega), (b3 i (by omega) hi).2.2.1, show (1 : Int32) = zI 1 from rfl, zI_add]
  generalize hF : wr E (20 + 3) i (zI (S.2.2.2.1.1.2.2.2.2.2.1 i + 1)) = F
  have hbF : BRep F 20 (bSill S.2.2.2.1.1 i (sS S.2.2.2.1.1 i + 1)) := by
    rw [← hF]
    refine ⟨by rw [wr_ne (by omega)]; exact b1, fun q => by rw [wr_ne (by omega)]; exact b2 q, fun j hj hn => ?_⟩
    obtain ⟨g1, g2, g3, g4, g5⟩ := b3 j hj hn
    refine ⟨by rw [wr_ne (by omega)]; exact g1, by rw [wr_ne (by omega)]; exact g2, ?_, by rw [wr_ne (by omega)]; exact g4, by rw [wr_ne (by omega)]; exact g5⟩
    rw [wr_at]
    show _ = zI (fu S.2.2.2.1.1.2.2.2.2.2.1 i (S.2.2.2.1.1.2.2.2.2.2.1 i + 1) j)
    by_cases z : j = i
    · subst z; rw [upd_at, fu_at]
    · rw [upd_ne z, fu_ne z]; exact g3
  have h60 := hok.2.1.2.2.1
  obtain ⟨G, H, g1, g2, g3, g4, g5⟩ := c_leadTrial (E := F) h ho (B := bSill S.2.2.2.1.1 i (sS S.2.2.2.1.1 i + 1)) (show 0 < S.2.2.2.1.1.1 by omega) hok.2.1.1 (hok.2.1.2.2.2.1.1.mono (by show 9 * ((sSill S i (sS S.2.2.2.1.1 i + 1)).2.2.2.1.2.2.1 : Int) ≤ 540; omega)) hbF (fun k hk => by rw [← hF, wr_ne (by omega), e4 k (by omega)]) hp
  rw [g1, bnd_s, g2, bnd_s, c_harmDone g3, bnd_s]
  exact ⟨H, rfl, g4, fun k hk => g5 k (by omega)⟩
theorem k_whose {D : Dt} {S : SstT} (h : CRep D S) (ho : Ok S) (hs : SlOk S) (v1 : Int32) : CDo (f_Root_whose v1 D) D (sp_whose v1 S).1 (sp_whose v1 S).2 := by
  have h8 := ho.2.1.1.1
  unfold f_Root_whose sp_whose
  rw [c_refusedPlan h ho, bnd_s]
  by_cases c : wi v1 0 255 = true
  · by_cases d : 0 < S.2.2.2.1.1.1
    · obtain ⟨p, hp, -, rfl⟩ := wi_nat c (by omega)
      simp only [c, d, if_true, zI_toInt (show -2147483648 ≤ (p : Int) by omega) (show (p : Int) < 2147483648 by omega), Int.toNat_natCast]
      obtain ⟨E, e1, e2, e3⟩ := c_harmRaised h ho hs (show p < 256 by omega) d
      rw [show (0 : Int32) = zI ((0 : Nat) : Int) from rfl, e1, bnd_s]
      unfold lp_Root_whose_25
      obtain ⟨m, hm⟩ := FU_eq (n := S.2.2.2.1.1.1) (by omega)
      rw [hm, show m + S.2.2.2.1.1.1 = (m + 1) + (S.2.2.2.1.1.1 - 1) by omega]
      obtain ⟨F, ⟨f1, f2⟩, e⟩ := itr_go (fun _ _ _ _ _ => none) s_Root_whose_25 (fun i (F : Dt) k => k (zI p) (zI ((wsB (whV S p) i).1 : Nat)) (zI (wsB (whV S p) i).2) (zI ((i + 1 : Nat) : Int)) F) (S.2.2.2.1.1.1 - 1) (fun i (F : Dt) => CRep F S ∧ FrC D F)
        (fun i hi F z => by
          obtain ⟨z1, z2⟩ := z
          obtain ⟨K, k1, k2, k3⟩ := c_harmRaised z1 ho hs (show p < 256 by omega) (show i + 1 < S.2.2.2.1.1.1 by omega)
          have b1 := wsB_ok (whV_b ho hs p) i (by omega)
          have b2 := whV_b ho hs p (i + 1) (by omega)
          refine ⟨K, ⟨k2, fun k hk => by rw [k3 k hk, z2 k hk]⟩, fun k => ?_⟩
          unfold s_Root_whose_25 b_Root_whose_63
          rw [z1.2.2.2.1.1.1, if_neg (by rw [zI_le (by omega) (by omega) (by omega) (by omega)]; omega), k1, bnd_s, zI_s, if_cg (zI_le (by omega) (by omega) (by omega) (by omega))]
          by_cases t : whV S p (i + 1) < (wsB (whV S p) i).2
          · rw [if_neg (by omega), show wsB (whV S p) (i + 1) = (i + 1, whV S p (i + 1)) from if_pos t]
          · rw [if_pos (by omega), show wsB (whV S p) (i + 1) = wsB (whV S p) i from if_neg t])
        E ⟨e2, e3⟩
      have e := e (m + 1)
      refine (show CDo (itr (fun _ _ _ _ _ => none) s_Root_whose_25 (m + 1 + (S.2.2.2.1.1.1 - 1)) (zI p) (zI ((wsB (whV S p) 0).1 : Nat)) (zI (wsB (whV S p) 0).2) (zI ((0 + 1 : Nat) : Int)) E) D _ _ from ?_)
      rw [e, itr_s]
      unfold s_Root_whose_25
      rw [f1.2.2.2.1.1.1, if_pos (by rw [zI_le (by omega) (by omega) (by omega) (by omega)]; omega)]
      exact (c_tell f1 _ _).bind f2
    · simp only [c, d, if_true, if_false]
      rw [if_neg (by decide)]
      exact CDo.same h _
  · simp only [c, if_false, Bool.false_eq_true]
    rw [if_neg (by decide)]
    exact CDo.same h _
theorem q_whose {D : Dt} {S : SstT} (h : MRep D S) (ho : Ok S) (hs : SlOk S) (v1 : Int32) : MDo (f_Model_whose v1 D) D (sp_whose v1 S).1 (sp_whose v1 S).2 := by
  have h8 := ho.2.1.1.1
  obtain ⟨n1, n2, n3⟩ := m_needTuesday h ho 1 v1
  unfold f_Model_whose sp_whose
  by_cases c : wi v1 0 255 = true
  · by_cases d : 0 < S.2.2.2.1.1.1
    · obtain ⟨E, e1, -, e4, e5⟩ := n3 (by decide) c d
      rw [e1, bnd_s, if_pos ge0_0, if_pos c, if_pos d]
      obtain ⟨p, hp, -, rfl⟩ := wi_nat c (by omega)
      rw [zI_toInt (show -2147483648 ≤ (p : Int) by omega) (show (p : Int) < 2147483648 by omega), Int.toNat_natCast]
      unfold lp_Model_whose_22
      obtain ⟨m, hm⟩ := FU_eq (n := S.2.2.2.1.1.1 + 1) (by omega)
      rw [hm, show m + (S.2.2.2.1.1.1 + 1) = (m + 1) + S.2.2.2.1.1.1 by omega]
      obtain ⟨F, ⟨f1, f2⟩, e⟩ := itr_go (fun _ _ _ _ _ => none) s_Model_whose_22 (fun i (F : Dt) k => k (zI p) (zI (if i = 0 then -9 else ((wsB (whV S p) (i - 1)).1 : Nat))) (zI (if i = 0 then 0 else (wsB (whV S p) (i - 1)).2)) (zI i) F) S.2.2.2.1.1.1 (fun i (F : Dt) => MRep F S ∧ FrM D F)
        (fun i hi F z => by
          obtain ⟨z1, z2⟩ := z
          have hs1 := hs.1 i hi
          have hsi := (ho.2.1.1.2.2.2 i hi).2.2.1
          have hok : Ok (sSill S i (sS S.2.2.2.1.1 i + 1)) := ho.sill (by omega)
          have hin : inb (zI (i : Int)) 8 = true := inb_t (by omega) (by omega) (by omega)
          have g3 := (z1.2.2.2.1.1.at ho.2.1.1 hi).2.2.1
          have hr1 := m_setSill z1 ho (i := i) (sS S.2.2.2.1.1 i + 1)
          obtain ⟨L, l1, l2, l3, l4, -, -⟩ := m_layTuesday hr1 hok (show 0 < S.2.2.2.1.1.1 from d) (show p < 256 by omega)
          have hr2 := m_setSill l3 hok (i := i) (sS S.2.2.2.1.1 i)
          rw [sSill_back] at hr2
          have gL := (l3.2.2.2.1.1.at hok.2.1.1 (show i < S.2.2.2.1.1.1 from hi)).2.2.1
          have gL : L 185 i = zI (sS S.2.2.2.1.1 i + 1) := by
            rw [gL]
            show zI (fu S.2.2.2.1.1.2.2.2.2.2.1 i (S.2.2.2.1.1.2.2.2.2.2.1 i + 1) i) = _
            rw [fu_at]
          have h35 : L 176 35 = zI (whV S p i) := l2.1.2.1
          have b2 := whV_b ho hs p i hi
          refine ⟨wr L 185 i (zI (sS S.2.2.2.1.1 i)), ⟨hr2, fun k hk => by rw [wr_ne (by omega), l4 k hk, wr_ne (by omega), z2 k hk]⟩, fun k => ?_⟩
          unfold s_Model_whose_22 b_Model_whose_73 b_Model_whose_82
          rw [z1.2.2.2.1.1.1, if_neg (by rw [zI_le (by omega) (by omega) (by omega) (by omega)]; omega), if_pos hin, if_pos hin, nm_s, zI_nat (by omega), g3, show zI (S.2.2.2.1.1.2.2.2.2.2.1 i) + 1 = zI (sS S.2.2.2.1.1 i + 1) from by rw [show (1 : Int32) = zI 1 from rfl, zI_add], l1, bnd_s, if_pos hin, if_pos hin, nm_s, gL, show zI (sS S.2.2.2.1.1 i + 1) - 1 = zI (sS S.2.2.2.1.1 i) from by rw [show (1 : Int32) = zI 1 from rfl, zI_sub]; congr 1; omega, wr_ne (show 176 ≠ 185 by omega), h35, zI_s]
          cases i with
          | zero => rw [if_pos (by rfl)]; rfl
          | succ i =>
            have b1 := wsB_ok (whV_b ho hs p) i (by omega)
            rw [if_neg (show ¬ i + 1 = 0 by omega), if_neg (show ¬ i + 1 = 0 by omega), if_neg (show ¬ i + 1 + 1 = 0 by omega), if_neg (show ¬ i + 1 + 1 = 0 by omega), show i + 1 - 1 = i from rfl, show i + 1 + 1 - 1 = i + 1 from rfl]
            have hb1 : ∀ j, (wsB (whV S p) j).1 ≤ j := by
              intro j
              induction j with
              | zero => exact Nat.le_refl _
              | succ j ih =>
                by_cases t : whV S p (j + 1) < (wsB (whV S p) j).2
                · rw [show wsB (whV S p) (j + 1) = (j + 1, whV S p (j + 1)) from if_pos t]; exact Nat.le_refl _
                · rw [show wsB (whV S p) (j + 1) = wsB (whV S p) j from if_neg t]; omega
            have := hb1 i
            rw [if_neg (by rw [show (-9 : Int32) = zI (-9) from rfl, zI_eq (by omega) (by omega) (by omega) (by omega)]; omega), if_cg (zI_le (by omega) (by omega) (by omega) (by omega))]
            by_cases t : whV S p (i + 1) < (wsB (whV S p) i).2
            · rw [if_neg (by omega), show wsB (whV S p) (i + 1) = (i + 1, whV S p (i + 1)) from if_pos t]
            · rw [if_pos (by omega), show wsB (whV S p) (i + 1) = wsB (whV S p) i from if_neg t])
        E ⟨e4, e5⟩
      have e := e (m + 1)
      refine (show MDo (itr (fun _ _ _ _ _ => none) s_Model_whose_22 (m + 1 + S.2.2.2.1.1.1) (zI p) (zI (if 0 = 0 then -9 else ((wsB (whV S p) (0 - 1)).1 : Nat))) (zI (if 0 = 0 then 0 else (wsB (whV S p) (0 - 1)).2)) (zI ((0 : Nat) : Int)) E) D _ _ from ?_)
      rw [e, itr_s]
      unfold s_Model_whose_22
      rw [f1.2.2.2.1.1.1, if_pos ((zI_le (by omega) (by omega) (by omega) (by omega)).mpr (by omega)), if_neg (by omega), if_neg (by omega)]
      exact (m_tells f1 _ _).bind f2
    · rw [n2 (by decide) c d, bnd_s, if_neg (by decide), if_pos c, if_neg d]
      exact MDo.same h _
  · rw [n1 (Or.inr c), bnd_s, if_neg (by decide), if_neg c]
    exact MDo.same h _
