/-! raise: on a Tuesday without harm the water goes as if no cellar had room -/
def bSR (B : BedT) (s r : Nat → Int) : BedT := (B.1, B.2.1, B.2.2.1, B.2.2.2.1, B.2.2.2.2.1, s, r, B.2.2.2.2.2.2.2)
theorem rdN_sr (B : BedT) (s r : Nat → Int) (x : RdT) : ∀ i, rdN (bSR B s r) i x = rdN B i x := by
  intro i
  induction i with
  | zero => rfl
  | succ i ih =>
    show rdS (bSR B s r) i (rdN (bSR B s r) i x) = rdS B i (rdN B i x)
    rw [ih]; rfl
theorem rdW_sr (B : BedT) (s r : Nat → Int) (op : Nat) (W : WatT) : rdW (bSR B s r) op W = rdW B op W := rdN_sr B s r (opA B op W, W.2.2.1, W.2.2.2.2, fun _ => 0) B.1
theorem got_sr (B : BedT) (s r : Nat → Int) (op : Nat) (W : WatT) (i : Nat) : gotZ (bSR B s r) op W i = if i < B.1 then min (max ((rdW B op W).1 i - s i) 0) (r i - W.2.1 i) else 0 := by
  unfold gotZ
  rw [rdW_sr]; rfl
theorem sumN_p {f : Nat → Int} {n : Nat} (h : ∀ i, i < n → 0 ≤ f i) : 0 ≤ sumN f n := by
  induction n with
  | zero => exact Int.le_refl _
  | succ n ih =>
    have := ih (fun i hi => h i (by omega))
    have := h n (by omega)
    simp only [sumN]; omega
theorem sumN_e0 {f : Nat → Int} {n : Nat} (h : ∀ i, i < n → 0 ≤ f i) (e : sumN f n = 0) : ∀ i, i < n → f i = 0 := by
  induction n with
  | zero => intro i hi; omega
  | succ n ih =>
    intro i hi
    have h1 := sumN_p (n := n) (fun i hi => h i (by omega))
    have h2 := h n (by omega)
    simp only [sumN] at e
    by_cases c : i = n
    · subst c; omega
    · exact ih (fun i hi => h i (by omega)) (by omega) i (by omega)
theorem noharm {B : BedT} {s : Nat → Int} {W : WatT} {T : Int} (hA : BOk (bSR B s (rR B))) (hn : 0 < B.1) (hW : WOk (bSR B s (rR B)) W T) (p : Nat) : ∀ h : Nat, (tdW (bSR B (sS B) W.2.1) p W h).2.1 = W.2.1 ∧ (tdH (bSR B s (rR B)) p W h = 0 ↔ ∀ i, i < B.1 → W.2.1 i < rR B i → tdM (bSR B (sS B) W.2.1) p W h i ≤ s i) ∧ (tdH (bSR B s (rR B)) p W h = 0 → tdW (bSR B s (rR B)) p W h = tdW (bSR B (sS B) W.2.1) p W h) := by
  intro h
  induction h with
  | zero =>
    refine ⟨rfl, ⟨fun _ i hi _ => ?_, fun _ => rfl⟩, fun _ => rfl⟩
    exact (hA.2.2.2 i hi).2.2.1.1
  | succ h ih =>
    obtain ⟨i1, i2, i3⟩ := ih
    generalize hX : tdW (bSR B (sS B) W.2.1) p W h = X at i1 i3
    have gz : ∀ i, gotZ (bSR B (sS B) W.2.1) (bt p h) X i = 0 := fun i => by
      rw [got_sr, i1]
      by_cases c : i < B.1
      · rw [if_pos c]; omega
      · rw [if_neg c]
    have eZ : tdW (bSR B (sS B) W.2.1) p W (h + 1) = hrW (bSR B (sS B) W.2.1) (bt p h) X := by
      show hrW (bSR B (sS B) W.2.1) (bt p h) (tdW (bSR B (sS B) W.2.1) p W h) = _
      rw [hX]
    have eZ1 : ∀ i, (tdW (bSR B (sS B) W.2.1) p W (h + 1)).1 i = (rdW B (bt p h) X).1 i := fun i => by
      rw [eZ]
      show (rdW (bSR B (sS B) W.2.1) (bt p h) X).1 i - gotZ (bSR B (sS B) W.2.1) (bt p h) X i = _
      rw [gz, rdW_sr]; omega
    have eM : ∀ i, tdM (bSR B (sS B) W.2.1) p W (h + 1) i = max (tdM (bSR B (sS B) W.2.1) p W h i) ((rdW B (bt p h) X).1 i) := fun i => by
      rw [← eZ1]; rfl
    have wok := td_ok hA hn hW p h
    have n1 := tdH_ok hA hn hW p h
    have n2 := hmZ_ok (op := bt p h) hA hn wok
    have eH : tdH (bSR B s (rR B)) p W (h + 1) = tdH (bSR B s (rR B)) p W h + hmZ (bSR B s (rR B)) (bt p h) (tdW (bSR B s (rR B)) p W h) := rfl
    have gotA : ∀ i, i < B.1 → gotZ (bSR B s (rR B)) (bt p h) X i = min (max ((rdW B (bt p h) X).1 i - s i) 0) (rR B i - W.2.1 i) := fun i hi => by rw [got_sr, if_pos hi, i1]
    have room : ∀ i, i < B.1 → W.2.1 i ≤ rR B i := fun i hi => (hW.2.2.1 i hi).2
    have key : tdH (bSR B s (rR B)) p W (h + 1) = 0 ↔ ∀ i, i < B.1 → W.2.1 i < rR B i → tdM (bSR B (sS B) W.2.1) p W (h + 1) i ≤ s i := by
      refine ⟨fun q i hi hr => ?_, fun q => ?_⟩
      · have q0 : tdH (bSR B s (rR B)) p W h = 0 := by omega
        have q1 := i2.mp q0 i hi hr
        have q2 : hmZ (bSR B s (rR B)) (bt p h) (tdW (bSR B s (rR B)) p W h) = 0 := by omega
        rw [i3 q0] at q2 wok
        have q3 : hmS (bSR B s (rR B)) (bt p h) X i = 0 := sumN_e0 (fun j _ => (hmS_ok (op := bt p h) hA hn wok j).1) q2 i hi
        have q4 : gotZ (bSR B s (rR B)) (bt p h) X i = 0 := by
          unfold hmS at q3
          by_cases c : kK (bSR B s (rR B)) i = 2
          · rw [if_pos c] at q3; omega
          · rw [if_neg c] at q3; exact q3
        rw [gotA i hi] at q4
        rw [eM i]
        omega
      · have q0 : tdH (bSR B s (rR B)) p W h = 0 := i2.mpr (fun i hi hr => by
          have := q i hi hr
          rw [eM i] at this
          omega)
        have q2 : hmZ (bSR B s (rR B)) (bt p h) X = 0 := by
          unfold hmZ
          rw [show (bSR B s (rR B)).1 = B.1 from rfl, sumN_c (g := fun _ => 0) (fun i hi => ?_), sumN_0]
          have q4 : gotZ (bSR B s (rR B)) (bt p h) X i = 0 := by
            rw [gotA i hi]
            have r1 := room i hi
            by_cases c : W.2.1 i < rR B i
            · have := q i hi c
              rw [eM i] at this
              omega
            · omega
          unfold hmS
          rw [q4]
          by_cases c : kK (bSR B s (rR B)) i = 2
          · rw [if_pos c]; rfl
          · rw [if_neg c]
        rw [eH, q0, i3 q0, q2]; rfl
    refine ⟨?_, key, fun q => ?_⟩
    · rw [eZ]
      funext i
      show X.2.1 i + gotZ (bSR B (sS B) W.2.1) (bt p h) X i = W.2.1 i
      rw [gz, i1]; omega
    · have q0 : tdH (bSR B s (rR B)) p W h = 0 := by omega
      have q1 := key.mp q
      have eg : gotZ (bSR B s (rR B)) (bt p h) X = gotZ (bSR B (sS B) W.2.1) (bt p h) X := by
        funext i
        rw [gz]
        by_cases hi : i < B.1
        · rw [gotA i hi]
          have r1 := room i hi
          by_cases c : W.2.1 i < rR B i
          · have := q1 i hi c
            rw [eM i] at this
            omega
          · omega
        · rw [got_sr, if_neg hi]
      rw [eZ]
      show hrW (bSR B s (rR B)) (bt p h) (tdW (bSR B s (rR B)) p W h) = _
      rw [i3 q0]
      unfold hrW
      rw [eg, rdW_sr, rdW_sr]; rfl
abbrev zBed (S : SstT) : BedT := bSR S.2.2.2.1.1 (sS S.2.2.2.1.1) S.2.2.2.1.2.1.2.1
def ndZ (S : SstT) (p i : Nat) : Int := if S.2.2.2.1.2.1.2.1 i < rR S.2.2.2.1.1 i then max (tdM (zBed S) p S.2.2.2.1.2.1 8 i - sS S.2.2.2.1.1 i) 0 else 0
def ndN (S : SstT) (p : Nat) : Int := sumN (ndZ S p) S.2.2.2.1.1.1
def sSls (S : SstT) (s : Nat → Int) : SstT := sStr S (bSR S.2.2.2.1.1 s (rR S.2.2.2.1.1), S.2.2.2.1.2)
theorem Ok.sls {S : SstT} (ho : Ok S) {s : Nat → Int} (hv : ∀ i, i < S.2.2.2.1.1.1 → 0 ≤ s i ∧ s i ≤ 100) : Ok (sSls S s) := by
  obtain ⟨p1, ⟨o1, o2, o3, o4, o7, o8⟩, p3⟩ := ho
  obtain ⟨b1, b2, b3, b4⟩ := o1
  refine ⟨p1, ⟨⟨b1, b2, b3, fun j hj => ?_⟩, o2, o3, o4, o7, o8⟩, p3⟩
  obtain ⟨c1, c2, c3, c4, c5⟩ := b4 j hj
  exact ⟨c1, c2, hv j hj, c4, c5⟩
theorem harm0 {S : SstT} (ho : Ok S) (hn : 0 < S.2.2.2.1.1.1) {R : Nat → Int} (hR : ∀ i, i < S.2.2.2.1.1.1 → 0 ≤ R i ∧ sS S.2.2.2.1.1 i + R i ≤ 100) (p : Nat) : hrm (sSls S (fun i => sS S.2.2.2.1.1 i + R i)) p = 0 ↔ ∀ i, i < S.2.2.2.1.1.1 → ndZ S p i ≤ R i := by
  have hok : Ok (sSls S (fun i => sS S.2.2.2.1.1 i + R i)) := ho.sls (fun i hi => by
    have := hR i hi
    have := (ho.2.1.1.2.2.2 i hi).2.2.1
    omega)
  obtain ⟨o1, o2, o3, ⟨o4, o5, o6⟩, o7, o8⟩ := hok.2.1
  have key : tdH (bSR S.2.2.2.1.1 (fun i => sS S.2.2.2.1.1 i + R i) (rR S.2.2.2.1.1)) p S.2.2.2.1.2.1 8 = 0 ↔ ∀ i, i < S.2.2.2.1.1.1 → S.2.2.2.1.2.1.2.1 i < rR S.2.2.2.1.1 i → tdM (zBed S) p S.2.2.2.1.2.1 8 i ≤ sS S.2.2.2.1.1 i + R i := (noharm (B := S.2.2.2.1.1) (s := fun i => sS S.2.2.2.1.1 i + R i) (W := S.2.2.2.1.2.1) o1 hn o4 p 8).2.1
  refine (show tdH (bSR S.2.2.2.1.1 (fun i => sS S.2.2.2.1.1 i + R i) (rR S.2.2.2.1.1)) p S.2.2.2.1.2.1 8 = 0 ↔ _ from ?_)
  rw [key]
  refine ⟨fun q i hi => ?_, fun q i hi hr => ?_⟩
  · have r1 := hR i hi
    unfold ndZ
    by_cases c : S.2.2.2.1.2.1.2.1 i < rR S.2.2.2.1.1 i
    · have := q i hi c
      rw [if_pos c]
      omega
    · rw [if_neg c]; exact r1.1
  · have := q i hi
    unfold ndZ at this
    rw [if_pos hr] at this
    omega
theorem nd_b {S : SstT} (ho : Ok S) (hn : 0 < S.2.2.2.1.1.1) (p : Nat) {i : Nat} (hi : i < 8) : (0 ≤ tdM (zBed S) p S.2.2.2.1.2.1 8 i ∧ tdM (zBed S) p S.2.2.2.1.2.1 8 i ≤ 612) ∧ (i < S.2.2.2.1.1.1 → 0 ≤ ndZ S p i ∧ ndZ S p i ≤ 612) ∧ BOk (zBed S) ∧ WOk (zBed S) S.2.2.2.1.2.1 540 := by
  obtain ⟨o1, o2, o3, ⟨o4, o5, o6⟩, o7, o8⟩ := ho.2.1
  have hB : BOk (zBed S) := by
    obtain ⟨b1, b2, b3, b4⟩ := o1
    refine ⟨b1, b2, b3, fun j hj => ?_⟩
    obtain ⟨c1, c2, c3, c4, c5⟩ := b4 j hj
    have := o4.2.2.1 j hj
    exact ⟨c1, c2, c3, ⟨this.1, Int.le_trans this.2 c4.2⟩, c5⟩
  have hW : WOk (zBed S) S.2.2.2.1.2.1 540 := by
    obtain ⟨w1, w2, w3, w4⟩ := o4
    exact ⟨w1, w2, fun j hj => ⟨(w3 j hj).1, Int.le_refl _⟩, by omega⟩
  have hm := tdM_ok hB hn hW (by omega) p hi 8
  refine ⟨by omega, fun hi2 => ?_, hB, hW⟩
  have hs := (o1.2.2.2 i hi2).2.2.1
  unfold ndZ
  by_cases c : S.2.2.2.1.2.1.2.1 i < rR S.2.2.2.1.1 i
  · rw [if_pos c]; omega
  · rw [if_neg c]; omega
def sp_raise (v1 v2 : Int32) (S : SstT) : Int32 × SstT := if wi v2 0 5 = true ∧ wi v1 0 255 = true then (if 0 < S.2.2.2.1.1.1 then (if ndN S v1.toInt.toNat ≤ 4 then (zI (ndN S v1.toInt.toNat), sRow S v2.toInt.toNat (((S.2.2.2.1.1.1 : Nat) : Int), fun i => zI (ndZ S v1.toInt.toNat i))) else (-9, S)) else (-4, S)) else (-1, S)
theorem c_findRaises {D : Dt} {S : SstT} (h : CRep D S) (ho : Ok S) (hn : 0 < S.2.2.2.1.1.1) {p : Nat} (hp : p < 256) : ∃ D1, f_Root_findRaises (zI p) D = some (zI (ndN S p), D1) ∧ CRep D1 S ∧ FrC D D1 ∧ ∀ i, i < S.2.2.2.1.1.1 → D1 109 i = zI (ndZ S p i) := by
  have h8 := ho.2.1.1.1
  obtain ⟨-, -, hzB, hzW⟩ := nd_b ho hn p (show 0 < 8 by omega)
  obtain ⟨hb, hw, hc, hpp⟩ := h.2.2.2.1
  unfold f_Root_findRaises
  obtain ⟨E, e1, e2, -, e4⟩ := c_bTake (w := 20) (v := 3 + 1) hb (by omega)
  rw [e1, bnd_s, if_pos (by decide), nm_s, tc0, tc8]
  generalize hF : st E (20 + 4) (va_cpy (E ((3 + 7) + 2)) (E (20 + 4)) 0 0 8) = F
  have hbF : BRep F 20 (zBed S) := by
    obtain ⟨b1, b2, b3⟩ := e2
    rw [← hF]
    refine ⟨by rw [st_ne (by omega)]; exact b1, fun q => by rw [st_ne (by omega)]; exact b2 q, fun j hj hn => ?_⟩
    obtain ⟨g1, g2, g3, g4, g5⟩ := b3 j hj hn
    refine ⟨by rw [st_ne (by omega)]; exact g1, by rw [st_ne (by omega)]; exact g2, by rw [st_ne (by omega)]; exact g3, ?_, by rw [st_ne (by omega)]; exact g5⟩
    rw [st_at, cpy0 _ _ _ hj, e4 _ (by omega)]
    exact (hw.2.2 j hj).2.1
  obtain ⟨G, H, g1, g2, g3, g4, g5⟩ := c_leadTrial (E := F) h ho (B := zBed S) hn hzB hzW hbF (fun k hk => by rw [← hF, st_ne (by omega), e4 k (by omega)]) hp
  rw [g1, bnd_s, g2, bnd_s]
  obtain ⟨hbH, hwH, -, -⟩ := g4.2.2.2.1
  have t4 := (g3 8 (by omega)).2.2.2
  have sb : ∀ i, i ≤ S.2.2.2.1.1.1 → 0 ≤ sumN (ndZ S p) i ∧ sumN (ndZ S p) i ≤ 612 * i := by
    intro i
    induction i with
    | zero => intro _; exact ⟨Int.le_refl _, Int.le_refl _⟩
    | succ i ih =>
      intro hi
      have := ih (by omega)
      have := (nd_b ho hn p (show i < 8 by omega)).2.1 (by omega)
      simp only [sumN]
      omega
  unfold lp_Root_findRaises_68
  obtain ⟨m, hm⟩ := FU_eq (n := S.2.2.2.1.1.1 + 1) (by omega)
  rw [hm, show m + (S.2.2.2.1.1.1 + 1) = (m + 1) + S.2.2.2.1.1.1 by omega]
  obtain ⟨K, ⟨k1, k2⟩, e⟩ := itr_go (fun _ _ _ => none) s_Root_findRaises_68 (fun i (K : Dt) k => k (zI (sumN (ndZ S p) i)) (zI i) K) S.2.2.2.1.1.1 (fun i (K : Dt) => (∀ j, j < i → K 109 j = zI (ndZ S p j)) ∧ ∀ k, k ≠ 109 → K k = H k)
    (fun i hi K z => by
      obtain ⟨z1, z2⟩ := z
      refine ⟨wr K 109 i (zI (ndZ S p i)), ⟨fun j hj => ?_, fun k hk => by rw [wr_ne hk, z2 k hk]⟩, fun k => ?_⟩
      · rw [wr_at]
        by_cases c : j = i
        · subst c; rw [upd_at]
        · rw [upd_ne c]; exact z1 j (by omega)
      · have i8 : inb (zI (i : Int)) 8 = true := inb_t (by omega) (by omega) (by omega)
        obtain ⟨a1, a2, a3, a4, a5⟩ := hbH.at ho.2.1.1 hi
        have w2 := (hwH.2.2 i (by omega)).2.1
        have nb := nd_b ho hn p (show i < 8 by omega)
        have nb2 := nb.2.1 hi
        have bs := (ho.2.1.1.2.2.2 i hi).2.2.1
        have br := (ho.2.1.1.2.2.2 i hi).2.2.2.1
        have bw := ho.2.1.2.2.2.1.1.2.2.1 i hi
        unfold s_Root_findRaises_68 b_Root_findRaises_114 b_Root_findRaises_163
        rw [z2 (3 + 1) (by omega), hbH.1, if_neg (by rw [zI_le (by omega) (by omega) (by omega) (by omega)]; omega), zI_nat (by omega), z2 (3 + 1 + 4) (by omega), a4, z2 (3 + 7 + 2) (by omega), w2]
        simp only [i8, if_true, show inb (8 : Int32) 9 = true from by decide, nm_s, tc8, Nat.one_mul]
        rw [z2 (37 + 8) (by omega), t4 i hi, z2 (3 + 1 + 3) (by omega), a3, zI_sub, show (0 : Int32) = zI 0 from rfl, imax_z (by omega) (by omega) (by omega) (by omega), wr_at, wr_at, upd_at, upd_at, zI_add, zI_add, zI_s, if_neg (show ¬ (1 : Int32) = zI 0 by decide), if_cg (zI_le (a := rR S.2.2.2.1.1 i) (b := S.2.2.2.1.2.1.2.1 i) (by omega) (by omega) (by omega) (by omega))]
        show _ = k (zI (sumN (ndZ S p) i + ndZ S p i)) _ _
        unfold ndZ
        by_cases c : S.2.2.2.1.2.1.2.1 i < rR S.2.2.2.1.1 i
        · rw [if_neg (by omega), if_pos c]
        · rw [if_pos (by omega), if_neg c])
    H ⟨fun j hj => by omega, fun _ _ => rfl⟩
  have e := e (m + 1)
  refine ⟨K, ?_, g4.congr (fun k hk => k2 k (fun q => by subst q; revert hk; decide)), fun k hk => by rw [k2 k (by omega), g5 k (by omega)], k1⟩
  refine (show itr (fun _ _ _ => none) s_Root_findRaises_68 (m + 1 + S.2.2.2.1.1.1) (zI 0) (zI ((0 : Nat) : Int)) H = _ from e.trans ?_)
  rw [itr_s]
  unfold s_Root_findRaises_68
  rw [k2 (3 + 1) (by omega), hbH.1, if_pos ((zI_le (by omega) (by omega) (by omega) (by omega)).mpr (by omega))]
  rfl
theorem k_raise {D : Dt} {S : SstT} (h : CRep D S) (ho : Ok S) (v1 v2 : Int32) : CDo (f_Root_raise v1 v2 D) D (sp_raise v1 v2 S).1 (sp_raise v1 v2 S).2 := by
  have h8 := ho.2.1.1.1
  unfold f_Root_raise sp_raise
  rw [c_isRow, bnd_s, zo_if, c_refusedPlan h ho, bnd_s]
  by_cases c0 : wi v2 0 5 = true
  · by_cases c : wi v1 0 255 = true
    · by_cases d : 0 < S.2.2.2.1.1.1
      · obtain ⟨p, hp, -, rfl⟩ := wi_nat c (by omega)
        obtain ⟨r, hr, -, rfl⟩ := wi_nat c0 (by omega)
        obtain ⟨E, e1, e2, e3, e4⟩ := c_findRaises h ho d (show p < 256 by omega)
        simp only [c0, c, d, if_true, and_self, zI_toInt (show -2147483648 ≤ (p : Int) by omega) (show (p : Int) < 2147483648 by omega), zI_toInt (show -2147483648 ≤ (r : Int) by omega) (show (r : Int) < 2147483648 by omega), Int.toNat_natCast]
        have nb : 0 ≤ ndN S p ∧ ndN S p ≤ 4896 := by
          have sb : ∀ i, i ≤ S.2.2.2.1.1.1 → 0 ≤ sumN (ndZ S p) i ∧ sumN (ndZ S p) i ≤ 612 * i := by
            intro i
            induction i with
            | zero => intro _; exact ⟨Int.le_refl _, Int.le_refl _⟩
            | succ i ih =>
              intro hi
              have := ih (by omega)
              have := (nd_b ho d p (show i < 8 by omega)).2.1 (by omega)
              simp only [sumN]
              omega
          have := sb S.2.2.2.1.1.1 (Nat.le_refl _)
          unfold ndN
          omega
        rw [e1, bnd_s, show (4 : Int32) = zI 4 from rfl, if_cg (zI_le (by omega) (by omega) (by omega) (by omega))]
        by_cases g : ndN S p ≤ 4
        · rw [if_pos g, if_pos g]
          have l9 : ln 109 = 8 := by decide +kernel
          obtain ⟨F, f1, f2, f3⟩ := c_rTake e2 (r := r) (a := 109) (n := S.2.2.2.1.1.1) (by omega) (by omega) (by omega) (fun i => zI (ndZ S p i)) e4 (by omega)
          rw [if_pos (inb_t (by omega) (by omega) (by omega)), zI_nat (by omega), e2.2.2.2.1.1.1, f1, bnd_s]
          exact ⟨F, rfl, f2, fun k hk => by rw [f3 k (by omega) (by omega), e3 k hk]⟩
        · rw [if_neg g, if_neg g]
          exact ⟨E, rfl, e2, e3⟩
      · simp only [c0, c, d, if_true, if_false, and_self]
        rw [if_neg (by decide)]
        exact CDo.same h _
    · simp only [c0, c, if_true, if_false, Bool.false_eq_true, and_false]
      rw [if_neg (by decide)]
      exact CDo.same h _
  · simp only [c0, if_false, Bool.false_eq_true, false_and]
    exact CDo.same h _
