/-! work: the class -/
def OrF (D : Dt) (n : Nat) (p : Nat → Nat) : Prop := ∀ j, j < n → D 107 j = zI (p j : Nat) ∧ p j < n
theorem OrF.sw {n : Nat} {p : Nat → Nat} {i j : Nat} (hi : i < n) (hj : j < n) (h : ∀ x, x < n → p x < n) : ∀ x, x < n → swP p i j x < n := fun x hx => by
  unfold swP
  by_cases c : x = j
  · rw [if_pos c]; exact h i hi
  · rw [if_neg c]
    by_cases d : x = i
    · rw [if_pos d]; exact h j hj
    · rw [if_neg d]; exact h x hx
theorem c_swap {D : Dt} {n : Nat} {p : Nat → Nat} (hn : n ≤ 6) (h : OrF D n p) {i j : Nat} (hi : i < n) (hj : j < n) : ∃ D1, f_Jobs_swap (zI i) (zI j) D = some ((), D1) ∧ OrF D1 n (swP p i j) ∧ ∀ k, k ≠ 107 → D1 k = D k := by
  have ii : inb (zI (i : Int)) 6 = true := inb_t (by omega) (by omega) (by omega)
  have ij : inb (zI (j : Int)) 6 = true := inb_t (by omega) (by omega) (by omega)
  unfold f_Jobs_swap
  simp only [ii, ij, if_true, nm_s, zI_nat (show i < 2147483648 by omega), zI_nat (show j < 2147483648 by omega)]
  refine ⟨_, rfl, fun x hx => ⟨?_, OrF.sw hi hj (fun x hx => (h x hx).2) x hx⟩, fun k hk => by rw [wr_ne hk, wr_ne hk]⟩
  rw [wr_at, wr_at]
  unfold swP
  by_cases c : x = j
  · subst c; rw [upd_at, if_pos rfl]; exact (h i hi).1
  · rw [upd_ne c, if_neg c]
    by_cases d : x = i
    · subst d; rw [upd_at, if_pos rfl]; exact (h j hj).1
    · rw [upd_ne d, if_neg d]; exact (h x hx).1
theorem zI_m1 (k : Nat) : zI ((k + 1 : Nat) : Int) + (-1) = zI (k : Int) := by
  rw [show (-1 : Int32) = zI (-1) from rfl, zI_add]; congr 1; omega
def ftI (o : Option Nat) : Int := match o with
  | none => -1
  | some x => x
theorem c_rev {n : Nat} (hn : n ≤ 6) : ∀ (f : Nat) (p : Nat → Nat) (a b : Nat) (D : Dt) (N : Nat), b ≤ a + 2 * f → 1 ≤ a → a + f ≤ 100 → b < n → OrF D n p → ∃ D1, itr (fun _ _ _ => none) s_Jobs_goToNextOrder_91 (N + f + 1) (zI a) (zI b) D = some (1, D1) ∧ OrF D1 n (rvN f p a b) ∧ ∀ k, k ≠ 107 → D1 k = D k := by
  intro f
  induction f with
  | zero =>
    intro p a b D N h1 h2 h4 h3 h
    rw [Nat.add_zero, itr_s]
    unfold s_Jobs_goToNextOrder_91
    rw [if_pos ((zI_le (by omega) (by omega) (by omega) (by omega)).mpr (by omega))]
    exact ⟨D, rfl, h, fun _ _ => rfl⟩
  | succ f ih =>
    intro p a b D N h1 h2 h4 h3 h
    rw [show N + (f + 1) + 1 = (N + f + 1) + 1 by omega, itr_s, show rvN (f + 1) p a b = if b ≤ a then p else rvN f (swP p a b) (a + 1) (b - 1) from rfl]
    generalize hkk : itr (fun _ _ _ => none) s_Jobs_goToNextOrder_91 (N + f + 1) = kk
    unfold s_Jobs_goToNextOrder_91
    rw [if_cg (zI_le (by omega) (by omega) (by omega) (by omega))]
    by_cases c : b ≤ a
    · rw [if_pos (by omega), if_pos c]
      exact ⟨D, rfl, h, fun _ _ => rfl⟩
    · rw [if_neg (by omega), if_neg c]
      obtain ⟨E, e1, e2, e3⟩ := c_swap hn h (show a < n by omega) h3
      rw [e1, bnd_s, zI_s]
      obtain ⟨b', rfl⟩ : ∃ b', b = b' + 1 := ⟨b - 1, by omega⟩
      rw [zI_m1, ← hkk, show b' + 1 - 1 = b' from rfl]
      obtain ⟨G, g1, g2, g3⟩ := ih (swP p a (b' + 1)) (a + 1) b' E N (by omega) (by omega) (by omega) (by omega) e2
      exact ⟨G, g1, g2, fun k hk => by rw [g3 k hk, e3 k hk]⟩
theorem fjN_b (p : Nat → Nat) (i : Nat) : ∀ k, fjN p i k ≤ k := by
  intro k
  induction k with
  | zero => exact Nat.le_refl _
  | succ k ih =>
    show (if k + 1 ≤ i ∨ p i ≤ p (k + 1) then k + 1 else fjN p i k) ≤ k + 1
    by_cases c : k + 1 ≤ i ∨ p i ≤ p (k + 1)
    · rw [if_pos c]; exact Nat.le_refl _
    · rw [if_neg c]; omega
theorem c_findJ {n : Nat} (hn : n ≤ 6) {D : Dt} {p : Nat → Nat} (h : OrF D n p) {i : Nat} (hi : i < n) : ∀ (k N : Nat), k < n → itr (fun _ _ _ => none) s_Jobs_goToNextOrder_47 (N + k + 1) (zI i) (zI k) D = b_Jobs_goToNextOrder_73 (zI i) (zI (fjN p i k : Nat)) D := by
  intro k
  induction k with
  | zero =>
    intro N hk
    rw [Nat.add_zero, itr_s]
    unfold s_Jobs_goToNextOrder_47
    rw [if_pos ((zI_le (by omega) (by omega) (by omega) (by omega)).mpr (by omega))]
    rfl
  | succ k ih =>
    intro N hk
    have ih := ih N (by omega)
    rw [show N + (k + 1) + 1 = (N + k + 1) + 1 by omega, itr_s, show fjN p i (k + 1) = if k + 1 ≤ i ∨ p i ≤ p (k + 1) then k + 1 else fjN p i k from rfl]
    generalize itr (fun _ _ _ => none) s_Jobs_goToNextOrder_47 (N + k + 1) = kk at *
    have pi := (h i hi).2
    have pk := (h (k + 1) hk).2
    unfold s_Jobs_goToNextOrder_47
    rw [if_cg (zI_le (by omega) (by omega) (by omega) (by omega)), if_pos (inb_t (by omega) (by omega) (by omega)), if_pos (inb_t (by omega) (by omega) (by omega)), zI_nat (by omega), zI_nat (by omega), (h i hi).1, (h (k + 1) hk).1, if_cg (zI_le (by omega) (by omega) (by omega) (by omega)), zI_m1]
    by_cases c : k + 1 ≤ i
    · rw [if_pos (by omega), if_pos (Or.inl c)]
    · rw [if_neg (by omega)]
      by_cases d : p i ≤ p (k + 1)
      · rw [if_pos (by omega), if_pos (Or.inr d)]
      · rw [if_neg (by omega), if_neg (fun q => by rcases q with q | q; exact c q; exact d q)]
        exact ih
theorem c_findI {n : Nat} (hn : n ≤ 6) {D : Dt} {p : Nat → Nat} (h : OrF D n p) : ∀ (k N : Nat), k < n → itr (fun _ _ => none) s_Jobs_goToNextOrder_7 (N + k + 1) (zI ((k : Int) - 1)) D = b_Jobs_goToNextOrder_34 (zI (ftI (fiN p k))) D := by
  intro k
  induction k with
  | zero =>
    intro N hk
    rw [Nat.add_zero, itr_s]
    unfold s_Jobs_goToNextOrder_7
    rw [if_pos (by rw [zI_ltl (by omega) (by omega)]; omega)]
    rfl
  | succ k ih =>
    intro N hk
    have ih := ih N (by omega)
    rw [show N + (k + 1) + 1 = (N + k + 1) + 1 by omega, itr_s, show fiN p (k + 1) = if p k ≤ p (k + 1) then some k else fiN p k from rfl, show ((k + 1 : Nat) : Int) - 1 = (k : Int) by omega]
    generalize itr (fun _ _ => none) s_Jobs_goToNextOrder_7 (N + k + 1) = kk at *
    have pi := (h k (by omega)).2
    have pk := (h (k + 1) hk).2
    unfold s_Jobs_goToNextOrder_7
    rw [if_neg (by rw [zI_ltl (by omega) (by omega)]; omega), zI_s, if_pos (inb_t (by omega) (by omega) (by omega)), if_pos (inb_t (by omega) (by omega) (by omega)), zI_nat (by omega), zI_nat (by omega), (h k (by omega)).1, (h (k + 1) hk).1, if_cg (zI_le (by omega) (by omega) (by omega) (by omega)), show zI (k : Int) + (-1) = zI ((k : Int) - 1) from by rw [show (-1 : Int32) = zI (-1) from rfl, zI_add]; rfl]
    by_cases d : p k ≤ p (k + 1)
    · rw [if_pos (by omega), if_pos d]; rfl
    · rw [if_neg (by omega), if_neg d]; exact ih
/-- an order as the class holds it -/
def OrL (D : Dt) (L : List Nat) : Prop := ∀ j, j < L.length → D 107 j = zI (lat L j : Nat)
theorem lat_map {p : Nat → Nat} {n j : Nat} (h : j < n) : lat ((List.range n).map p) j = p j := by
  unfold lat
  rw [List.getD_eq_getElem?_getD, List.getElem?_map, List.getElem?_range h]
  rfl
theorem lenB_p {n : Nat} {L : List Nat} (h : lenB n L = true) : L.length = n ∧ ∀ k, k ∈ L → k < n := by
  unfold lenB at h
  rw [Bool.and_eq_true, decide_eq_true_eq, List.all_eq_true] at h
  exact ⟨h.1, fun k hk => of_decide_eq_true (h.2 k hk)⟩
theorem c_next {D : Dt} {n : Nat} {L : List Nat} (hn : n ≤ 6) (hl : lenB n L = true) (h : OrL D L) (h4 : D 104 4 = zI (n : Nat)) : (nxL L = none → f_Jobs_goToNextOrder D = some (0, D)) ∧ ∀ M, nxL L = some M → ∃ D1, f_Jobs_goToNextOrder D = some (1, D1) ∧ OrL D1 M ∧ ∀ k, k ≠ 107 → D1 k = D k := by
  obtain ⟨l1, l2⟩ := lenB_p hl
  have hF : OrF D n (lat L) := fun j hj => ⟨h j (by omega), l2 _ (lat_mem (by omega))⟩
  have key : f_Jobs_goToNextOrder D = b_Jobs_goToNextOrder_34 (zI (ftI (fiN (lat L) (n - 1)))) D := by
    unfold f_Jobs_goToNextOrder lp_Jobs_goToNextOrder_7
    rw [h4]
    by_cases c : n = 0
    · subst c
      obtain ⟨M, hM⟩ := FU_eq (n := 1) (by omega)
      rw [hM, itr_s]
      unfold s_Jobs_goToNextOrder_7
      rw [if_pos (by decide)]
      unfold b_Jobs_goToNextOrder_34
      rw [if_neg (by decide), show fiN (lat L) (0 - 1) = none from rfl, if_neg (by decide)]
    · obtain ⟨M, hM⟩ := FU_eq (n := (n - 1) + 1) (by omega)
      rw [hM, show M + ((n - 1) + 1) = M + (n - 1) + 1 by omega, show zI (n : Int) - 2 = zI (((n - 1 : Nat) : Int) - 1) from by rw [show (2 : Int32) = zI 2 from rfl, zI_sub]; congr 1; omega]
      exact c_findI hn hF (n - 1) M (by omega)
  have fib : ∀ k i, fiN (lat L) k = some i → i < k := by
    intro k
    induction k with
    | zero => intro i q; cases q
    | succ k ih =>
      intro i q
      rw [show fiN (lat L) (k + 1) = if lat L k ≤ lat L (k + 1) then some k else fiN (lat L) k from rfl] at q
      by_cases d : lat L k ≤ lat L (k + 1)
      · rw [if_pos d] at q
        have : k = i := by injection q
        omega
      · rw [if_neg d] at q
        have := ih i q
        omega
  rw [key]
  unfold nxL nxP
  rw [l1]
  cases hf : fiN (lat L) (n - 1) with
  | none =>
    refine ⟨fun _ => ?_, fun M q => by cases q⟩
    unfold b_Jobs_goToNextOrder_34
    rw [if_neg (by decide)]
  | some i =>
    refine ⟨fun q => (by cases q), fun M q => ?_⟩
    have hi := fib _ _ hf
    have q : (List.range n).map (rvN 6 (swP (lat L) i (fjN (lat L) i (n - 1))) (i + 1) (n - 1)) = M := by injection q
    unfold b_Jobs_goToNextOrder_34
    rw [if_pos (show (0 : Int32) ≤ zI (ftI (some i)) from by show (0 : Int32) ≤ zI (i : Int); rw [zI_ge0 (by omega) (by omega)]; omega), h4, show zI (n : Int) - 1 = zI ((n - 1 : Nat) : Int) from by rw [show (1 : Int32) = zI 1 from rfl, zI_sub]; congr 1; omega]
    unfold lp_Jobs_goToNextOrder_47
    obtain ⟨N, hN⟩ := FU_eq (n := (n - 1) + 1) (by omega)
    have hj := fjN_b (lat L) i (n - 1)
    rw [hN, show N + ((n - 1) + 1) = N + (n - 1) + 1 by omega, show zI (ftI (some i)) = zI (i : Int) from rfl, c_findJ hn hF (show i < n by omega) (n - 1) N (by omega)]
    unfold b_Jobs_goToNextOrder_73
    obtain ⟨E, e1, e2, e3⟩ := c_swap hn hF (show i < n by omega) (show fjN (lat L) i (n - 1) < n by omega)
    rw [e1, bnd_s, zI_s, e3 104 (by omega), h4, show zI (n : Int) - 1 = zI ((n - 1 : Nat) : Int) from by rw [show (1 : Int32) = zI 1 from rfl, zI_sub]; congr 1; omega]
    unfold lp_Jobs_goToNextOrder_91
    obtain ⟨N2, hN2⟩ := FU_eq (n := 7) (by omega)
    rw [hN2, show N2 + 7 = N2 + 6 + 1 by omega]
    obtain ⟨G, g1, g2, g3⟩ := c_rev hn 6 (swP (lat L) i (fjN (lat L) i (n - 1))) (i + 1) (n - 1) E N2 (by omega) (by omega) (by omega) (by omega) e2
    refine ⟨G, g1, fun j hj => ?_, fun k hk => by rw [g3 k hk, e3 k hk]⟩
    rw [← q, List.length_map, List.length_range] at hj
    rw [← q, lat_map hj]
    exact (g2 j hj).1
/-- how late -/
def ltS (tk du : Nat → Int) (x : Int × Int) (k : Nat) : Int × Int := (x.1 + tk k, x.2 + max (x.1 + tk k - du k) 0)
def ltL (tk du : Nat → Int) (L : List Nat) : Int × Int := L.foldl (ltS tk du) (0, 0)
theorem ltL_s (tk du : Nat → Int) (L : List Nat) (k : Nat) : ltL tk du (L ++ [k]) = ltS tk du (ltL tk du L) k := by unfold ltL; rw [List.foldl_append]; rfl
theorem ltL_b {n : Nat} {tk du : Nat → Int} (h : JbOk n tk du) {L : List Nat} (hL : ∀ k, k ∈ L → k < n) : ∀ j : Nat, j ≤ L.length → j ≤ 6 → (0 ≤ (ltL tk du (L.take j)).1 ∧ (ltL tk du (L.take j)).1 ≤ 24 * j) ∧ 0 ≤ (ltL tk du (L.take j)).2 ∧ (ltL tk du (L.take j)).2 ≤ 144 * j := by
  intro j
  induction j with
  | zero =>
    intro _ _
    rw [List.take_zero]
    show (0 ≤ (0 : Int) ∧ (0 : Int) ≤ 24 * ((0 : Nat) : Int)) ∧ 0 ≤ (0 : Int) ∧ (0 : Int) ≤ 144 * ((0 : Nat) : Int)
    omega
  | succ j ih =>
    intro h1 h2
    obtain ⟨⟨i1, i2⟩, i3, i4⟩ := ih (by omega) (by omega)
    rw [take_s (by omega), ltL_s]
    generalize ltL tk du (L.take j) = x at *
    have hb := h.2 (lat L j) (hL _ (lat_mem (by omega)))
    generalize lat L j = k at *
    show (0 ≤ x.1 + tk k ∧ x.1 + tk k ≤ _) ∧ 0 ≤ x.2 + max (x.1 + tk k - du k) 0 ∧ x.2 + max (x.1 + tk k - du k) 0 ≤ _
    omega
theorem c_late {D : Dt} {n : Nat} {tk du : Nat → Int} {L : List Nat} (hj : JbOk n tk du) (hd : JbC D n tk du) (hl : lenB n L = true) (h : OrL D L) : f_Jobs_lateTogether D = some (zI (ltL tk du L).2, D) := by
  obtain ⟨l1, l2⟩ := lenB_p hl
  have h6 := hj.1
  unfold f_Jobs_lateTogether lp_Jobs_lateTogether_6
  obtain ⟨M, hM⟩ := FU_eq (n := n + 1) (by omega)
  rw [hM, show M + (n + 1) = (M + 1) + n by omega]
  obtain ⟨U, -, e⟩ := itr_go (fun _ _ _ _ => none) s_Jobs_lateTogether_6 (fun i (U : Unit) k => k (zI (ltL tk du (L.take i)).1) (zI (ltL tk du (L.take i)).2) (zI i) D) n (fun i U => True)
    (fun i hi U _ => ⟨(), trivial, fun k => by
      have hm := l2 _ (lat_mem (show i < L.length by omega))
      have hb := hj.2 _ hm
      have b1 := ltL_b hj l2 i (by omega) (by omega)
      have i6 : inb (zI (i : Int)) 6 = true := inb_t (by omega) (by omega) (by omega)
      have im : inb (zI (lat L i : Nat)) 6 = true := inb_t (by omega) (by omega) (by omega)
      unfold s_Jobs_lateTogether_6
      rw [hd.1, if_neg (by rw [zI_le (by omega) (by omega) (by omega) (by omega)]; omega), zI_nat (by omega), h i (by omega)]
      simp only [i6, im, if_true, nm_s, zI_nat (show lat L i < 2147483648 by omega)]
      rw [(hd.2 _ hm).1, (hd.2 _ hm).2, take_s (show i < L.length by omega), ltL_s]
      generalize ltL tk du (L.take i) = x at *
      rw [zI_add, zI_sub, show (0 : Int32) = zI 0 from rfl, imax_z (by omega) (by omega) (by omega) (by omega), zI_add, zI_s]
      rfl⟩) () trivial
  have e := e (M + 1)
  refine (show itr (fun _ _ _ _ => none) s_Jobs_lateTogether_6 (M + 1 + n) (zI (ltL tk du (L.take 0)).1) (zI (ltL tk du (L.take 0)).2) (zI ((0 : Nat) : Int)) D = _ from e.trans ?_)
  rw [itr_s]
  unfold s_Jobs_lateTogether_6
  rw [hd.1, if_pos ((zI_le (by omega) (by omega) (by omega) (by omega)).mpr (by omega)), ← l1, List.take_length]
def bsS (tk du : Nat → Int) (a : Int × List Nat) (L : List Nat) : Int × List Nat := if (ltL tk du L).2 < a.1 then ((ltL tk du L).2, L) else a
def bsF (tk du : Nat → Int) (a : Int × List Nat) (Ls : List (List Nat)) : Int × List Nat := Ls.foldl (bsS tk du) a
theorem lt_b {n : Nat} {tk du : Nat → Int} (hj : JbOk n tk du) {L : List Nat} (hl : lenB n L = true) : 0 ≤ (ltL tk du L).2 ∧ (ltL tk du L).2 ≤ 864 := by
  obtain ⟨l1, l2⟩ := lenB_p hl
  have h6 := hj.1
  have := (ltL_b hj l2 L.length (Nat.le_refl _) (by omega)).2
  rw [List.take_length] at this
  omega
/-- the best so far, as the class holds it -/
def BsC (D : Dt) (n : Nat) (a : Int × List Nat) : Prop := a.1 = 1000000000 ∨ (lenB n a.2 = true ∧ (0 ≤ a.1 ∧ a.1 ≤ 864) ∧ ∀ j, j < n → D 108 j = zI (lat a.2 j : Nat))
theorem c_best {n : Nat} {tk du : Nat → Int} (hj : JbOk n tk du) : ∀ (Ls : List (List Nat)) (L : List Nat) (r : List (List Nat)) (a : Int × List Nat) (D : Dt) (N i : Nat), Ls = L :: r → chainB Ls = true → Ls.all (lenB n) = true → i + Ls.length ≤ 720 → JbC D n tk du → OrL D L → BsC D n a →
    ∃ D1, itr (fun _ _ _ _ => none) s_Jobs_findBestOrder_7 (N + Ls.length + 1) (zI a.1) 1 (zI i) D = some (zI (bsF tk du a Ls).1, D1) ∧ BsC D1 n (bsF tk du a Ls) ∧ (bsF tk du a Ls).1 ≠ 1000000000 ∧ ∀ k, k ≠ 107 → k ≠ 108 → D1 k = D k := by
  have h6 := hj.1
  intro Ls
  induction Ls with
  | nil => intro L r a D N i h; cases h
  | cons L0 r0 ih =>
    intro L r a D N i h hc ha hi hd ho hb
    obtain ⟨rfl, rfl⟩ : L0 = L ∧ r0 = r := by injection h with p q; exact ⟨p, q⟩
    rw [List.all_cons, Bool.and_eq_true] at ha
    obtain ⟨hl, ha⟩ := ha
    obtain ⟨l1, l2⟩ := lenB_p hl
    have lb := lt_b hj hl
    have hab : 0 ≤ a.1 ∧ a.1 ≤ 1000000000 := by
      rcases hb with q | ⟨-, q, -⟩ <;> omega
    rw [List.length_cons] at hi
    rw [List.length_cons, show N + (r0.length + 1) + 1 = (N + r0.length + 1) + 1 by omega, itr_s, show bsF tk du a (L0 :: r0) = bsF tk du (bsS tk du a L0) r0 from rfl]
    generalize hkk : itr (fun _ _ _ _ => none) s_Jobs_findBestOrder_7 (N + r0.length + 1) = kk
    -- what is held behind this order
    have step : ∃ E, (∀ k1 : Int32 → Int32 → Int32 → Dt → Option (Int32 × Dt), s_Jobs_findBestOrder_7 k1 (zI a.1) 1 (zI i) D = b_Jobs_findBestOrder_50 k1 (zI (bsS tk du a L0).1) (zI i) E) ∧ BsC E n (bsS tk du a L0) ∧ (bsS tk du a L0).1 ≠ 1000000000 ∧ ∀ k, k ≠ 108 → E k = D k := by
      unfold bsS
      by_cases c : (ltL tk du L0).2 < a.1
      · rw [if_pos c]
        refine ⟨st D 108 (va_cpy (D 107) (D 108) 0 0 n), fun k1 => ?_, Or.inr ⟨hl, lb, fun j hj2 => ?_⟩, by show (ltL tk du L0).2 ≠ 1000000000; omega, fun k hk => by rw [st_ne hk]⟩
        · unfold s_Jobs_findBestOrder_7
          rw [if_neg (by rw [show (720 : Int32) = zI 720 from rfl, zI_le (by omega) (by omega) (by omega) (by omega)]; omega), if_neg (show ¬ (1 : Int32) = 0 by decide), c_late hj hd hl ho, bnd_s, if_neg (by rw [zI_le (by omega) (by omega) (by omega) (by omega)]; omega), hd.1, zI_nat (by omega), tc0, if_pos ⟨by decide, by decide, by rw [zI_ltl (by omega) (by omega)]; omega, by omega, by omega⟩, nm_s]
        · rw [st_at, cpy0 _ _ _ hj2]; exact ho j (by omega)
      · rw [if_neg c]
        have hb2 : ¬ a.1 = 1000000000 := by omega
        refine ⟨D, fun k1 => ?_, hb, hb2, fun _ _ => rfl⟩
        unfold s_Jobs_findBestOrder_7
        rw [if_neg (by rw [show (720 : Int32) = zI 720 from rfl, zI_le (by omega) (by omega) (by omega) (by omega)]; omega), if_neg (show ¬ (1 : Int32) = 0 by decide), c_late hj hd hl ho, bnd_s, if_pos ((zI_le (by omega) (by omega) (by omega) (by omega)).mpr (by omega))]
    obtain ⟨E, e1, e2, e3, e4⟩ := step
    have hdE : JbC E n tk du := by
      unfold JbC; rw [e4 104 (by omega), e4 105 (by omega), e4 106 (by omega)]; exact hd
    have hoE : OrL E L0 := by unfold OrL; rw [e4 107 (by omega)]; exact ho
    obtain ⟨n1, n2⟩ := c_next h6 hl hoE hdE.1
    rw [e1]
    unfold b_Jobs_findBestOrder_50
    cases r0 with
    | nil =>
      have hc : decide (nxL L0 = none) = true := hc
      rw [n1 (of_decide_eq_true hc), bnd_s, ← hkk, zI_s]
      refine ⟨E, ?_, e2, e3, fun k a b => e4 k b⟩
      rw [itr_s]
      unfold s_Jobs_findBestOrder_7
      rw [if_pos (show (0 : Int32) = 0 from rfl)]
      by_cases z : (720 : Int32) ≤ zI ((i + 1 : Nat) : Int)
      · rw [if_pos z]; rfl
      · rw [if_neg z]; rfl
    | cons M r =>
      have hc : (decide (nxL L0 = some M) && chainB (M :: r)) = true := hc
      rw [Bool.and_eq_true] at hc
      obtain ⟨G, g1, g2, g3⟩ := n2 M (of_decide_eq_true hc.1)
      rw [g1, bnd_s, ← hkk, zI_s]
      obtain ⟨H, h1, h2, h3, h4⟩ := ih M r (bsS tk du a L0) G N (i + 1) rfl hc.2 ha (by omega) (by unfold JbC; rw [g3 104 (by omega), g3 105 (by omega), g3 106 (by omega)]; exact hdE) g2 (by unfold BsC; rw [g3 108 (by omega)]; exact e2)
      exact ⟨H, h1, h2, h3, fun k a b => by rw [h4 k a b, g3 k a, e4 k b]⟩
