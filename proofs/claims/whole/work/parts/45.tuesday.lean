/-! a Tuesday by a plan -/
def bt (p h : Nat) : Nat := if p.testBit h then 1 else 0
theorem bt_01 (p h : Nat) : bt p h = 0 ∨ bt p h = 1 := by
  unfold bt
  by_cases c : p.testBit h = true
  · rw [if_pos c]; omega
  · rw [if_neg c]; omega
theorem bt_z {p h : Nat} (hp : p < 256) (hh : h < 8) : (zI (p : Int) >>> (zI (h : Int) &&& 31)) &&& 1 = zI (bt p h : Nat) := by
  rw [bit_d p hp h hh]; unfold bt
  by_cases c : p.testBit h = true
  · rw [if_pos c, if_pos c]; rfl
  · rw [if_neg c, if_neg c]; rfl
def tdW (B : BedT) (p : Nat) (W : WatT) : Nat → WatT
  | 0 => W
  | h + 1 => hrW B (bt p h) (tdW B p W h)
def hmS (B : BedT) (op : Nat) (W : WatT) (i : Nat) : Int := if kK B i = 2 then 2 * gotZ B op W i else gotZ B op W i
def hmZ (B : BedT) (op : Nat) (W : WatT) : Int := sumN (hmS B op W) B.1
def tdH (B : BedT) (p : Nat) (W : WatT) : Nat → Int
  | 0 => 0
  | h + 1 => tdH B p W h + hmZ B (bt p h) (tdW B p W h)
def snkN (B : BedT) (op : Nat) (W : WatT) (n : Nat) : Nat := orN (fun i => decide (0 < gotZ B op W i)) n
def tdB (B : BedT) (p : Nat) (W : WatT) : Nat → Nat
  | 0 => 0
  | h + 1 => tdB B p W h ||| snkN B (bt p h) (tdW B p W h) B.1
def tdM (B : BedT) (p : Nat) (W : WatT) : Nat → Nat → Int
  | 0, _ => 0
  | h + 1, i => max (tdM B p W h i) ((tdW B p W (h + 1)).1 i)
theorem tdB_lt {B : BedT} (hB : B.1 ≤ 8) (p : Nat) (W : WatT) : ∀ h, tdB B p W h < 256 := by
  intro h
  induction h with
  | zero => show 0 < 256; omega
  | succ h ih => exact Nat.or_lt_two_pow (n := 8) ih (orN_lt8 _ hB)
theorem td_ok {B : BedT} {W : WatT} {T : Int} (hB : BOk B) (hn : 0 < B.1) (hW : WOk B W T) (p : Nat) : ∀ h : Nat, WOk B (tdW B p W h) (T + 9 * h) := by
  intro h
  induction h with
  | zero => show WOk B W _; exact hW.mono (by omega)
  | succ h ih =>
    exact ((hrW_ok (op := bt p h) hB hn ih).1).mono (by omega)
theorem hmS_ok {B : BedT} {op : Nat} {W : WatT} {T : Int} (hB : BOk B) (hn : 0 < B.1) (h : WOk B W T) (i : Nat) : 0 ≤ hmS B op W i ∧ hmS B op W i ≤ 18 := by
  have := (hrW_ok (op := op) hB hn h).2.1 i
  unfold hmS
  by_cases c : kK B i = 2
  · rw [if_pos c]; omega
  · rw [if_neg c]; omega
theorem sumN_b {f : Nat → Int} {c : Int} (h : ∀ i, 0 ≤ f i ∧ f i ≤ c) : ∀ n : Nat, 0 ≤ sumN f n ∧ sumN f n ≤ c * n := by
  intro n
  induction n with
  | zero => show 0 ≤ (0 : Int) ∧ (0 : Int) ≤ c * ((0 : Nat) : Int); omega
  | succ n ih =>
    have := h n
    have e : c * ((n + 1 : Nat) : Int) = c * n + c := by rw [show ((n + 1 : Nat) : Int) = n + 1 from rfl, Int.mul_add, Int.mul_one]
    simp only [sumN]
    omega
theorem hmZ_ok {B : BedT} {op : Nat} {W : WatT} {T : Int} (hB : BOk B) (hn : 0 < B.1) (h : WOk B W T) : 0 ≤ hmZ B op W ∧ hmZ B op W ≤ 144 := by
  have := sumN_b (hmS_ok (op := op) hB hn h) B.1
  have := hB.1
  unfold hmZ
  omega
theorem tdH_ok {B : BedT} {W : WatT} {T : Int} (hB : BOk B) (hn : 0 < B.1) (hW : WOk B W T) (p : Nat) : ∀ h : Nat, 0 ≤ tdH B p W h ∧ tdH B p W h ≤ 144 * h := by
  intro h
  induction h with
  | zero => show 0 ≤ (0 : Int) ∧ (0 : Int) ≤ _; omega
  | succ h ih =>
    have := hmZ_ok (op := bt p h) hB hn (td_ok hB hn hW p h)
    show 0 ≤ tdH B p W h + hmZ B (bt p h) (tdW B p W h) ∧ tdH B p W h + hmZ B (bt p h) (tdW B p W h) ≤ _
    omega
theorem tdM_ok {B : BedT} {W : WatT} {T : Int} (hB : BOk B) (hn : 0 < B.1) (hW : WOk B W T) (hT : 0 ≤ T) (p : Nat) {i : Nat} (hi : i < 8) : ∀ h : Nat, 0 ≤ tdM B p W h i ∧ tdM B p W h i ≤ T + 9 * h := by
  intro h
  induction h with
  | zero => show 0 ≤ (0 : Int) ∧ (0 : Int) ≤ _; omega
  | succ h ih =>
    have w := td_ok hB hn hW p (h + 1)
    have w1 := w.1 i
    have w2 := le_sum8 w.1 hi
    have w3 := w.2.2.2
    show 0 ≤ max (tdM B p W h i) ((tdW B p W (h + 1)).1 i) ∧ max (tdM B p W h i) ((tdW B p W (h + 1)).1 i) ≤ _
    omega
/-- a Tuesday is the same as long as the plans are -/
theorem td_same {B : BedT} {W : WatT} {p q : Nat} : ∀ h : Nat, (∀ i, i < h → p.testBit i = q.testBit i) → tdW B p W h = tdW B q W h ∧ tdH B p W h = tdH B q W h ∧ tdB B p W h = tdB B q W h ∧ ∀ i, tdM B p W h i = tdM B q W h i := by
  intro h
  induction h with
  | zero => intro _; exact ⟨rfl, rfl, rfl, fun _ => rfl⟩
  | succ h ih =>
    intro e
    obtain ⟨i1, i2, i3, i4⟩ := ih (fun i hi => e i (by omega))
    have eb : bt p h = bt q h := by unfold bt; rw [e h (by omega)]
    have ew : tdW B p W (h + 1) = tdW B q W (h + 1) := by
      show hrW B (bt p h) (tdW B p W h) = hrW B (bt q h) (tdW B q W h)
      rw [eb, i1]
    refine ⟨ew, ?_, ?_, fun i => ?_⟩
    · show tdH B p W h + hmZ B (bt p h) (tdW B p W h) = tdH B q W h + hmZ B (bt q h) (tdW B q W h)
      rw [i2, eb, i1]
    · show tdB B p W h ||| snkN B (bt p h) (tdW B p W h) B.1 = tdB B q W h ||| snkN B (bt q h) (tdW B q W h) B.1
      rw [i3, eb, i1]
    · show max (tdM B p W h i) ((tdW B p W (h + 1)).1 i) = max (tdM B q W h i) ((tdW B q W (h + 1)).1 i)
      rw [i4 i, ew]
/-! the class's Tuesday -/
theorem c_harmOf {D : Dt} {b w op : Nat} {B : BedT} {W : WatT} (hb : BRep D b B) (hB : BOk B) (hg : ∀ j, j < B.1 → D (w + 5) j = zI (gotZ B op W j)) : f_Waters_harmOfHour w b D = some (zI (hmZ B op W), D) := by
  have h8 := hB.1
  unfold f_Waters_harmOfHour lp_Waters_harmOfHour_4 hmZ
  exact cnt2 (F := s_Waters_harmOfHour_4 w b) (hmS B op W) B.1 (by omega) (fun z => some (zI z, D))
    (fun i hi v k => by
      unfold s_Waters_harmOfHour_4 b_Waters_harmOfHour_40 hmS
      have hk := (hB.2.2.2 i hi).1
      rw [hb.1, if_neg (by rw [zI_le (by omega) (by omega) (by omega) (by omega)]; omega), zI_nat (by omega), (hb.2.2 i (by omega) hi).1, hg i hi, zI_s]
      simp only [inb_t (show (0 : Int) ≤ (i : Int) by omega) (show (i : Int) < (8 : Nat) by omega) (by omega), if_true]
      by_cases c : kK B i = 2
      · rw [if_pos (by show zI (kK B i) = 2; rw [c]; rfl), if_pos c, show (2 : Int32) = zI 2 from rfl, zI_mul, zI_add]
      · rw [if_neg (by show ¬ zI (kK B i) = 2; rw [show (2 : Int32) = zI 2 from rfl, zI_eq (by omega) (by omega) (by omega) (by omega)]; exact c), if_neg c, zI_add])
    (fun v k => by unfold s_Waters_harmOfHour_4; rw [hb.1, if_pos ((zI_le (by omega) (by omega) (by omega) (by omega)).mpr (by omega))])
/-- loops that only gather bits -/
theorem orl3 {ρ : Type} {F : (Int32 → Int32 → Int32 → Dt → Option ρ) → Int32 → Int32 → Int32 → Dt → Option ρ} {bot : Int32 → Int32 → Int32 → Dt → Option ρ} {D : Dt} {a : Int32} (p : Nat → Bool) (N : Nat) (hN : N ≤ 8) (R : Nat → Option ρ) (h : ∀ i, i < N → ∀ v k, F k a v (zI i) D = k a (v ||| (if p i = true then zI ((2 ^ i : Nat) : Int) else 0)) (zI ((i + 1 : Nat) : Int)) D) (he : ∀ (v : Nat) k, F k a (zI v) (zI N) D = R v) : itr bot F FU a 0 0 D = R (orN p N) := by
  obtain ⟨m, hm⟩ := FU_eq (n := N + 1) (by omega)
  rw [hm, show m + (N + 1) = (m + 1) + N by omega]
  obtain ⟨E, -, e⟩ := itr_go bot F (fun i (E : Unit) k => k a (zI (orN p i : Nat)) (zI i) D) N (fun i E => True) (fun i hi E _ => ⟨(), trivial, fun k => by
    have hl := orN_lt8 p (n := i) (by omega)
    have hp : 2 ^ i < 2147483648 := Nat.lt_of_lt_of_le (Nat.pow_lt_pow_right (n := 8) (by omega) (by omega)) (by omega)
    rw [h i hi]
    show k a (zI (orN p i : Nat) ||| _) _ D = k a (zI ((orN p i ||| (if p i then 2 ^ i else 0) : Nat) : Int)) _ D
    by_cases c : p i = true
    · rw [if_pos c, if_pos c, zI_or (by omega) hp]
    · rw [if_neg c, if_neg c, show (0 : Int32) = zI ((0 : Nat) : Int) from rfl, zI_or (by omega) (by omega)]⟩) () trivial
  refine (e (m + 1)).trans ?_
  rw [itr_s]
  exact he _ _
theorem c_sankBits {D : Dt} {w op : Nat} {B : BedT} {W : WatT} (hB : BOk B) (hg : ∀ j, j < B.1 → D (w + 5) j = zI (gotZ B op W j)) (hg9 : ∀ j, 0 ≤ gotZ B op W j ∧ gotZ B op W j ≤ 9) : f_Waters_sankBits w (zI B.1) D = some (zI (snkN B op W B.1 : Nat), D) := by
  have h8 := hB.1
  unfold f_Waters_sankBits lp_Waters_sankBits_4 snkN
  exact orl3 (F := s_Waters_sankBits_4 w) (fun i => decide (0 < gotZ B op W i)) B.1 h8 (fun z => some (zI (z : Nat), D))
    (fun i hi v k => by
      have g := hg9 i
      unfold s_Waters_sankBits_4 b_Waters_sankBits_26
      rw [if_neg (by rw [zI_le (by omega) (by omega) (by omega) (by omega)]; omega), if_pos (inb_t (by omega) (by omega) (by omega)), zI_nat (by omega), hg i hi, shl_d i (by omega), zI_s]
      by_cases c : 0 < gotZ B op W i
      · rw [if_neg (by rw [show (0 : Int32) = zI 0 from rfl, zI_le (by omega) (by omega) (by omega) (by omega)]; omega), if_pos (decide_eq_true c)]
      · rw [if_pos (by rw [show (0 : Int32) = zI 0 from rfl, zI_le (by omega) (by omega) (by omega) (by omega)]; omega), if_neg (by simp only [decide_eq_true_eq]; exact c)])
    (fun v k => by unfold s_Waters_sankBits_4; rw [if_pos ((zI_le (by omega) (by omega) (by omega) (by omega)).mpr (by omega))])
def TdC (D : Dt) (B : BedT) (p : Nat) (W : WatT) (H : Nat) : Prop := ∀ h, h ≤ H → WRep D (46 + 6 * h) (tdW B p W h) ∧ D 34 h = zI (tdH B p W h) ∧ D 35 h = zI (tdB B p W h : Nat) ∧ ∀ i, i < B.1 → D (37 + h) i = zI (tdM B p W h i)
theorem TdC.same {D : Dt} {B : BedT} {p q : Nat} {W : WatT} {H t : Nat} (h : TdC D B q W H) (ht : t ≤ H) (e : ∀ i, i < t → p.testBit i = q.testBit i) : TdC D B p W t := fun j hj => by
  obtain ⟨a, b, c, d⟩ := td_same (B := B) (W := W) (p := p) (q := q) j (fun i hi => e i (by omega))
  rw [a, b, c]
  refine ⟨(h j (by omega)).1, (h j (by omega)).2.1, (h j (by omega)).2.2.1, fun i hi => ?_⟩
  rw [d i]
  exact (h j (by omega)).2.2.2 i hi
theorem c_leadHour {D : Dt} {b p h : Nat} {B : BedT} {W : WatT} {T : Int} (hb : BRep D b B) (hB : BOk B) (hn : 0 < B.1) (hbb : b + 5 < 32) (hW : WOk B W T) (hT0 : 0 ≤ T) (hT : T < 100000) (hp : p < 256) (hh : h < 8) (ht : TdC D B p W h) :
    ∃ D1, f_Tuesday_leadHour b (zI p) (zI h) D = some ((), D1) ∧ TdC D1 B p W (h + 1) ∧ (∀ k, (k < 34 ∨ 99 < k) → D1 k = D k) ∧ D1 37 = D 37 ∧ D1 34 0 = D 34 0 ∧ D1 35 0 = D 35 0 := by
  have h8 := hB.1
  have hw := td_ok hB hn hW p h
  obtain ⟨-, hg9, -, -, -, -, -, -⟩ := hrW_ok (op := bt p h) hB hn hw
  unfold f_Tuesday_leadHour
  rw [zI_s]
  simp only [inb_t (show (0 : Int) ≤ ((h + 1 : Nat) : Int) by omega) (show ((h + 1 : Nat) : Int) < (9 : Nat) by omega) (by omega), inb_t (show (0 : Int) ≤ (h : Int) by omega) (show (h : Int) < (9 : Nat) by omega) (by omega), if_true, zI_nat (show h < 2147483648 by omega), zI_nat (show h + 1 < 2147483648 by omega), bt_z hp hh]
  obtain ⟨E, e1, e2, e3⟩ := c_wTake (w := 46 + 6 * (h + 1)) (v := 46 + 6 * h) (ht h (by omega)).1 (by omega)
  rw [e1, bnd_s]
  obtain ⟨F, f1, f2, f3, f4⟩ := c_pass (w := 46 + 6 * (h + 1)) (b := b) (hb.congr (fun k x y => e3 k (by omega))) hB hn (by omega) e2 hw (by omega) (bt_01 p h)
  have hbF : BRep F b B := hb.congr (fun k x y => by rw [f4 k (by omega), e3 k (by omega)])
  have Fk : ∀ k, (k < 46 + 6 * (h + 1) ∨ 46 + 6 * (h + 1) + 5 < k) → F k = D k := fun k q => by rw [f4 k q, e3 k (by omega)]
  rw [f1, bnd_s, c_harmOf hbF hB (fun j hj => (f3 j hj).2), bnd_s, nm_s]
  generalize hG : wr F 34 (h + 1) (F 34 h + zI (hmZ B (bt p h) (tdW B p W h))) = G
  have Gk : ∀ k, k ≠ 34 → G k = F k := fun k q => by rw [← hG, wr_ne q]
  rw [Gk b (by omega), hbF.1, c_sankBits hB (fun j hj => by rw [Gk _ (by omega)]; exact (f3 j hj).2) hg9, bnd_s, nm_s]
  generalize hH : wr G 35 (h + 1) (G 35 h ||| zI (snkN B (bt p h) (tdW B p W h) B.1 : Nat)) = H
  have Hk : ∀ k, k ≠ 34 → k ≠ 35 → H k = F k := fun k q r => by rw [← hH, wr_ne r, Gk k q]
  obtain ⟨t1, t2, t3, t4⟩ := ht h (by omega)
  have H34 : H 34 = upd (D 34) (h + 1) (zI (tdH B p W (h + 1))) := by
    rw [← hH, wr_ne (by omega), ← hG, wr_at, Fk 34 (by omega), t2, zI_add]; rfl
  have hsl := orN_lt8 (fun i => decide (0 < gotZ B (bt p h) (tdW B p W h) i)) h8
  have hsb := tdB_lt h8 p W h
  have H35 : H 35 = upd (D 35) (h + 1) (zI (tdB B p W (h + 1) : Nat)) := by
    rw [← hH, wr_at, Gk 35 (by omega), Fk 35 (by omega), t3, zI_or (by omega) (by unfold snkN; omega)]; rfl
  have hbH : BRep H b B := hbF.congr (fun k x y => Hk k (by omega) (by omega))
  have hwH : WRep H (46 + 6 * (h + 1)) (tdW B p W (h + 1)) := f2.congr (fun k x y => Hk k (by omega) (by omega))
  unfold lp_Tuesday_leadHour_80
  obtain ⟨m, hm⟩ := FU_eq (n := B.1 + 1) (by omega)
  rw [hm, show m + (B.1 + 1) = (m + 1) + B.1 by omega]
  have wok := td_ok hB hn hW p (h + 1)
  obtain ⟨K, ⟨k1, k2, k3⟩, e⟩ := itr_go (fun _ _ _ _ => none) (s_Tuesday_leadHour_80 b) (fun i (K : Dt) k => k (zI h) (46 + 6 * (h + 1)) (zI i) K) B.1 (fun i (K : Dt) => (∀ j, j < i → K (37 + (h + 1)) j = zI (tdM B p W (h + 1) j)) ∧ (∀ k, k ≠ 37 + (h + 1) → K k = H k) ∧ True)
    (fun i hi K g => by
      obtain ⟨g1, g2, -⟩ := g
      refine ⟨wr K (37 + (h + 1)) i (zI (tdM B p W (h + 1) i)), ⟨fun j hj => ?_, fun k hk => by rw [wr_ne hk, g2 k hk], trivial⟩, fun k => ?_⟩
      · rw [wr_at]
        by_cases c : j = i
        · subst c; rw [upd_at]
        · rw [upd_ne c]; exact g1 j (by omega)
      · have m1 := tdM_ok hB hn hW hT0 p (show i < 8 by omega) h
        have w1 := wok.1 i
        have w2 := le_sum8 wok.1 (show i < 8 by omega)
        have w3 := wok.2.2.2
        unfold s_Tuesday_leadHour_80
        rw [g2 b (by omega), hbH.1, if_neg (by rw [zI_le (by omega) (by omega) (by omega) (by omega)]; omega), zI_s]
        simp only [inb_t (show (0 : Int) ≤ ((h + 1 : Nat) : Int) by omega) (show ((h + 1 : Nat) : Int) < (9 : Nat) by omega) (by omega), inb_t (show (0 : Int) ≤ (h : Int) by omega) (show (h : Int) < (9 : Nat) by omega) (by omega), inb_t (show (0 : Int) ≤ (i : Int) by omega) (show (i : Int) < (8 : Nat) by omega) (by omega), if_true, zI_nat (show h < 2147483648 by omega), zI_nat (show h + 1 < 2147483648 by omega), zI_nat (show i < 2147483648 by omega), nm_s, Nat.one_mul]
        rw [g2 (37 + h) (by omega), Hk (37 + h) (by omega) (by omega), Fk (37 + h) (by omega), t4 i hi, g2 (46 + 6 * (h + 1) + 1) (by omega), (hwH.2.2 i (by omega)).1, imax_z (by omega) (by omega) (by omega) (by omega), zI_s]
        rfl)
    H ⟨fun j hj => by omega, fun _ _ => rfl, trivial⟩
  have Kk : ∀ k, k ≠ 37 + (h + 1) → k ≠ 34 → k ≠ 35 → (k < 46 + 6 * (h + 1) ∨ 46 + 6 * (h + 1) + 5 < k) → K k = D k := fun k a c d f => by rw [k2 k a, Hk k c d, Fk k f]
  refine ⟨K, ?_, fun j hj => ?_, fun k hk => Kk k (by omega) (by omega) (by omega) (by omega), Kk 37 (by omega) (by omega) (by omega) (by omega), ?_, ?_⟩
  · refine (e (m + 1)).trans ?_
    rw [itr_s]
    unfold s_Tuesday_leadHour_80
    rw [k2 b (by omega), hbH.1, if_pos ((zI_le (by omega) (by omega) (by omega) (by omega)).mpr (by omega))]
  · rw [k2 34 (by omega), k2 35 (by omega), H34, H35]
    by_cases c : j = h + 1
    · subst c
      rw [upd_at, upd_at]
      exact ⟨hwH.congr (fun k x y => k2 k (by omega)), rfl, rfl, fun i hi => k1 i hi⟩
    · obtain ⟨u1, u2, u3, u4⟩ := ht j (by omega)
      rw [upd_ne c, upd_ne c, Kk (37 + j) (by omega) (by omega) (by omega) (by omega)]
      exact ⟨u1.congr (fun k x y => Kk k (by omega) (by omega) (by omega) (by omega)), u2, u3, u4⟩
  · rw [k2 34 (by omega), H34, upd_ne (by omega)]
  · rw [k2 35 (by omega), H35, upd_ne (by omega)]
