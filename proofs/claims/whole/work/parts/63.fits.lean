/-! the plans that fit what was seen -/
def badB (S : SstT) (r p i : Nat) : Bool := !(decide ((S.1 r).2 i = -9) || decide ((S.1 r).2 i = zI (tdM S.2.2.2.1.1 p S.2.2.2.1.2.1 8 i)))
def ftB (S : SstT) (r p : Nat) : Bool := !(anyB (badB S r p) S.2.2.2.1.1.1)
def fitL (P : Nat → Bool) (n : Nat) : List Nat := (List.range n).filter P
def fitC (P : Nat → Bool) (n : Nat) : List Nat := ((List.range n).map (fun j => mirH j 8)).filter P
theorem fitL_s (P : Nat → Bool) (n : Nat) : fitL P (n + 1) = fitL P n ++ (if P n = true then [n] else []) := by
  unfold fitL
  rw [List.range_succ, List.filter_append]
  congr 1
  by_cases c : P n = true
  · simp [c]
  · simp [c]
theorem fitC_s (P : Nat → Bool) (n : Nat) : fitC P (n + 1) = fitC P n ++ (if P (mirH n 8) = true then [mirH n 8] else []) := by
  unfold fitC
  rw [List.range_succ, List.map_append, List.filter_append]
  congr 1
  by_cases c : P (mirH n 8) = true
  · simp [c]
  · simp [c]
theorem mir_perm : ((List.range 256).map (fun j => mirH j 8)).Perm (List.range 256) := by decide +kernel
theorem fit_perm (P : Nat → Bool) {N : Nat} (hN : N = 256) : (fitC P N).Perm (fitL P N) := by
  subst hN
  exact mir_perm.filter P
theorem fitC_len (P : Nat → Bool) (n : Nat) : (fitC P n).length ≤ n := by
  unfold fitC
  refine Nat.le_trans (List.length_filter_le _ _) ?_
  simp
theorem fitL_len (P : Nat → Bool) (n : Nat) : (fitL P n).length ≤ n := by
  unfold fitL
  refine Nat.le_trans (List.length_filter_le _ _) ?_
  simp
theorem fitC_mem {P : Nat → Bool} {n p : Nat} (hn : n ≤ 256) (h : p ∈ fitC P n) : p < 256 ∧ P p = true := by
  unfold fitC at h
  rw [List.mem_filter, List.mem_map] at h
  obtain ⟨⟨j, hj, rfl⟩, h2⟩ := h
  rw [List.mem_range] at hj
  exact ⟨(mir_d j (by omega)).1, h2⟩
theorem fitL_mem {P : Nat → Bool} {n p : Nat} (h : p ∈ fitL P n) : p < n ∧ P p = true := by
  unfold fitL at h
  rw [List.mem_filter, List.mem_range] at h
  exact h
/-- a list by its places -/
def lat (L : List Nat) (j : Nat) : Nat := L.getD j 0
theorem lat_l {L : List Nat} {p j : Nat} (h : j < L.length) : lat (L ++ [p]) j = lat L j := by
  unfold lat
  rw [List.getD_eq_getElem?_getD, List.getD_eq_getElem?_getD, List.getElem?_append_left h]
theorem lat_e {L : List Nat} {p : Nat} : lat (L ++ [p]) L.length = p := by
  unfold lat
  rw [List.getD_eq_getElem?_getD, List.getElem?_append_right (Nat.le_refl _)]
  simp
theorem lat_mem {L : List Nat} {j : Nat} (h : j < L.length) : lat L j ∈ L := by
  unfold lat
  rw [List.getD_eq_getElem?_getD, List.getElem?_eq_getElem h]
  exact List.getElem_mem h
theorem take_s {L : List Nat} {j : Nat} (h : j < L.length) : L.take (j + 1) = L.take j ++ [lat L j] := by
  unfold lat
  rw [List.getD_eq_getElem?_getD, List.getElem?_eq_getElem h, List.take_succ_eq_append_getElem h]
  rfl
theorem mem_lat {L : List Nat} {p : Nat} (h : p ∈ L) : ∃ j, j < L.length ∧ lat L j = p := by
  obtain ⟨j, hj, e⟩ := List.mem_iff_getElem.mp h
  refine ⟨j, hj, ?_⟩
  unfold lat
  rw [List.getD_eq_getElem?_getD, List.getElem?_eq_getElem hj]
  exact e
/-- what they have in common -/
def anL (L : List Nat) : Int32 := L.foldl (fun (a : Int32) (p : Nat) => a &&& zI (p : Int)) 255
def noL (L : List Nat) : Int32 := L.foldl (fun (a : Int32) (p : Nat) => a &&& (zI (p : Int) ^^^ -1)) 255
theorem anL_perm {L M : List Nat} (h : L.Perm M) : anL L = anL M := by
  unfold anL
  refine h.foldl_eq' (f := fun (a : Int32) (p : Nat) => a &&& zI (p : Int)) (fun x _ y _ z => ?_) _
  rw [Int32.and_assoc, Int32.and_assoc, Int32.and_comm (zI (x : Int))]
theorem noL_perm {L M : List Nat} (h : L.Perm M) : noL L = noL M := by
  unfold noL
  refine h.foldl_eq' (f := fun (a : Int32) (p : Nat) => a &&& (zI (p : Int) ^^^ -1)) (fun x _ y _ z => ?_) _
  rw [Int32.and_assoc, Int32.and_assoc, Int32.and_comm (zI (x : Int) ^^^ -1)]
theorem anL_s (L : List Nat) (p : Nat) : anL (L ++ [p]) = anL L &&& zI (p : Int) := by unfold anL; rw [List.foldl_append]; rfl
theorem noL_s (L : List Nat) (p : Nat) : noL (L ++ [p]) = noL L &&& (zI (p : Int) ^^^ -1) := by unfold noL; rw [List.foldl_append]; rfl
/-- the first -/
def hdZ (L : List Nat) : Int := match L with
  | [] => -9
  | p :: _ => p
theorem hdZ_app (L : List Nat) (p : Nat) : hdZ (L ++ [p]) = if L.length = 0 then (p : Int) else hdZ L := by
  cases L with
  | nil => rfl
  | cons q L => rfl
/-- the first of the plans by numbers is the least -/
theorem hdZ_least (P : Nat → Bool) (n b : Nat) (h1 : b ∈ fitL P n) (h2 : ∀ p, p ∈ fitL P n → b ≤ p) : hdZ (fitL P n) = (b : Int) := by
  have hs : (fitL P n).Pairwise (· < ·) := List.Pairwise.filter _ List.pairwise_lt_range
  cases hL : fitL P n with
  | nil => rw [hL] at h1; cases h1
  | cons q L =>
    rw [hL] at h1 h2 hs
    show (q : Int) = b
    have a1 := h2 q (List.mem_cons_self ..)
    rcases List.mem_cons.mp h1 with e | e
    · rw [e]
    · have := (List.pairwise_cons.mp hs).1 b e
      omega
/-- how many of a mark -/
def cnL (f : Nat → Int) (L : List Nat) (m : Int) : Nat := L.countP (fun p => decide (f p = m))
theorem cnL_s (f : Nat → Int) (L : List Nat) (p : Nat) (m : Int) : cnL f (L ++ [p]) m = cnL f L m + (if f p = m then 1 else 0) := by
  unfold cnL
  rw [List.countP_append]
  congr 1
  by_cases c : f p = m
  · simp [c]
  · simp [c]
theorem cnL_le (f : Nat → Int) (L : List Nat) (m : Int) : cnL f L m ≤ L.length := List.countP_le_length
def MAl (f : Nat → Int) (L : List Nat) (v : Nat) : Prop := (∀ p, p ∈ L → cnL f L (f p) ≤ v) ∧ ((L = [] ∧ v = 0) ∨ ∃ p, p ∈ L ∧ v = cnL f L (f p))
theorem MAl.nil (f : Nat → Int) : MAl f [] 0 := ⟨fun p hp => (by cases hp), Or.inl ⟨rfl, rfl⟩⟩
theorem MAl.step {f : Nat → Int} {L : List Nat} {v : Nat} (h : MAl f L v) (p : Nat) : MAl f (L ++ [p]) (max v (cnL f (L ++ [p]) (f p))) := by
  obtain ⟨h1, h2⟩ := h
  refine ⟨fun q hq => ?_, Or.inr ?_⟩
  · by_cases c : f q = f p
    · rw [c]; omega
    · have hqL : q ∈ L := by
        rcases List.mem_append.mp hq with e | e
        · exact e
        · have e : q = p := by simpa using e
          rw [e] at c; exact absurd rfl c
      have := h1 q hqL
      have e2 := cnL_s f L p (f q)
      rw [if_neg (fun e => c e.symm)] at e2
      omega
  · by_cases c : cnL f (L ++ [p]) (f p) < v
    · rcases h2 with ⟨e1, e2⟩ | ⟨q, q1, q2⟩
      · omega
      · refine ⟨q, List.mem_append_left _ q1, ?_⟩
        have e2 := cnL_s f L p (f q)
        by_cases d : f p = f q
        · rw [d] at c ⊢; rw [if_pos d] at e2; omega
        · rw [if_neg d] at e2; omega
    · exact ⟨p, List.mem_append_right _ (by simp), by omega⟩
theorem MAl.perm {f : Nat → Int} {L M : List Nat} {v : Nat} (h : MAl f L v) (e : L.Perm M) : MAl f M v := by
  have ec : ∀ m, cnL f M m = cnL f L m := fun m => (e.countP_eq _).symm
  refine ⟨fun p hp => by rw [ec]; exact h.1 p (e.mem_iff.mpr hp), ?_⟩
  rcases h.2 with ⟨a, b⟩ | ⟨p, a, b⟩
  · subst a
    exact Or.inl ⟨e.symm.eq_nil, b⟩
  · exact Or.inr ⟨p, e.mem_iff.mp a, by rw [ec]; exact b⟩
theorem MAl.uniq {f : Nat → Int} {L : List Nat} {v w : Nat} (h : MAl f L v) (g : MAl f L w) : v = w := by
  rcases h.2 with ⟨a, b⟩ | ⟨p, a, b⟩
  · rcases g.2 with ⟨a', b'⟩ | ⟨q, a', b'⟩
    · omega
    · rw [a] at a'; cases a'
  · rcases g.2 with ⟨a', b'⟩ | ⟨q, a', b'⟩
    · rw [a'] at a; cases a
    · have := h.1 q a'
      have := g.1 p a
      omega
def moR (f : Nat → Int) : List Nat → Nat
  | [] => 0
  | p :: l => max (moR f l) (cnL f (p :: l) (f p))
theorem moR_ok (f : Nat → Int) : ∀ L, MAl f L (moR f L) := by
  intro L
  induction L with
  | nil => exact MAl.nil f
  | cons p l ih =>
    have := (ih.step p).perm (M := p :: l) (List.perm_append_singleton p l)
    have e : cnL f (l ++ [p]) (f p) = cnL f (p :: l) (f p) := (List.Perm.countP_eq _ (List.perm_append_singleton p l))
    rw [e] at this
    exact this
theorem MAl.le {f : Nat → Int} {L : List Nat} {v : Nat} (h : MAl f L v) : v ≤ L.length := by
  rcases h.2 with ⟨a, b⟩ | ⟨p, a, b⟩
  · omega
  · rw [b]; exact cnL_le f L _
/-- which house to look at -/
def lkB (u : Nat → Bool) (l : Nat → Nat) : Nat → Option (Nat × Nat)
  | 0 => none
  | i + 1 => if u i = true then (match lkB u l i with
    | none => some (i, l i)
    | some (b, w) => if l i < w then some (i, l i) else some (b, w)) else lkB u l i
theorem lkB_ok {u : Nat → Bool} {l : Nat → Nat} (hl : ∀ i, l i ≤ 256) : ∀ n b w, lkB u l n = some (b, w) → b < n ∧ w ≤ 256 := by
  intro n
  induction n with
  | zero => intro b w h; cases h
  | succ n ih =>
    intro b w h
    have e : lkB u l (n + 1) = if u n = true then (match lkB u l n with
      | none => some (n, l n)
      | some (b, w) => if l n < w then some (n, l n) else some (b, w)) else lkB u l n := rfl
    rw [e] at h
    by_cases c : u n = true
    · rw [if_pos c] at h
      cases hc : lkB u l n with
      | none =>
        rw [hc] at h
        simp only [Option.some.injEq, Prod.mk.injEq] at h
        have := hl n
        omega
      | some x =>
        obtain ⟨b', w'⟩ := x
        rw [hc] at h
        simp only at h
        have := ih b' w' hc
        by_cases d : l n < w'
        · rw [if_pos d] at h
          simp only [Option.some.injEq, Prod.mk.injEq] at h
          have := hl n
          omega
        · rw [if_neg d] at h
          simp only [Option.some.injEq, Prod.mk.injEq] at h
          omega
    · rw [if_neg c] at h
      have := ih b w h
      omega
theorem ng3 : ¬ (-3 : Int32) = 0 := by decide
theorem ng4 : ¬ (-4 : Int32) = 0 := by decide
theorem ng1 : ¬ (-1 : Int32) = 0 := by decide
/-- marks that can't be -/
def umB (w : RwT) (i : Nat) : Bool := !(decide (w.2 i = -9) || wi (w.2 i) 0 999)
def rfMk (v1 : Int32) (S : SstT) : Int32 × SstT := if wi v1 0 5 = true then (if 0 < S.2.2.2.1.1.1 then (if (S.1 v1.toInt.toNat).1 = -1 then (-3, sFind S 1) else if (S.1 v1.toInt.toNat).1 = S.2.2.2.1.1.1 then (if anyB (umB (S.1 v1.toInt.toNat)) S.2.2.2.1.1.1 = true then (-3, sFind S 3) else (0, S)) else (-3, sFind S 5)) else (-4, S)) else (-1, S)
theorem rfMk_0 {v1 : Int32} {S : SstT} (h : (rfMk v1 S).1 = 0) : rfMk v1 S = (0, S) ∧ wi v1 0 5 = true ∧ 0 < S.2.2.2.1.1.1 ∧ (S.1 v1.toInt.toNat).1 = S.2.2.2.1.1.1 := by
  unfold rfMk at h ⊢
  by_cases c1 : wi v1 0 5 = true
  · rw [if_pos c1] at h ⊢
    by_cases c2 : 0 < S.2.2.2.1.1.1
    · rw [if_pos c2] at h ⊢
      by_cases c3 : (S.1 v1.toInt.toNat).1 = -1
      · rw [if_pos c3] at h; exact absurd h ng3
      · rw [if_neg c3] at h ⊢
        by_cases c4 : (S.1 v1.toInt.toNat).1 = S.2.2.2.1.1.1
        · rw [if_pos c4] at h ⊢
          by_cases c5 : anyB (umB (S.1 v1.toInt.toNat)) S.2.2.2.1.1.1 = true
          · rw [if_pos c5] at h; exact absurd h ng3
          · rw [if_neg c5]; exact ⟨rfl, c1, c2, c4⟩
        · rw [if_neg c4] at h; exact absurd h ng3
    · rw [if_neg c2] at h; exact absurd h ng4
  · rw [if_neg c1] at h; exact absurd h ng1
abbrev ftL (S : SstT) (v : Int32) : List Nat := fitL (ftB S v.toInt.toNat) PL
abbrev mkF (S : SstT) (i p : Nat) : Int := tdM S.2.2.2.1.1 p S.2.2.2.1.2.1 8 i
def sp_led (v1 : Int32) (S : SstT) : Int32 × SstT := if (rfMk v1 S).1 = 0 then (zI ((ftL S v1).length : Nat), sTell S (zI (hdZ (ftL S v1)))) else rfMk v1 S
def sp_sure (v1 : Int32) (S : SstT) : Int32 × SstT := if (rfMk v1 S).1 = 0 then (if (ftL S v1).length = 0 then (-3, sFind S 4) else (anL (ftL S v1), sTell S (noL (ftL S v1)))) else rfMk v1 S
def unB (S : SstT) (r i : Nat) : Bool := decide ((S.1 r).2 i = -9)
def sp_look (v1 : Int32) (S : SstT) : Int32 × SstT := if (rfMk v1 S).1 = 0 then (if (ftL S v1).length = 0 then (-3, sFind S 4) else (match lkB (unB S v1.toInt.toNat) (fun i => moR (mkF S i) (ftL S v1)) S.2.2.2.1.1.1 with
  | none => (-9, S)
  | some (b, w) => (zI (b : Nat), sTell S (zI (w : Nat))))) else rfMk v1 S
