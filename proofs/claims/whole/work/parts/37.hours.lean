/-! hour, undo, water, keep, on, mark: the class -/
theorem c_sumOf {D : Dt} {a : Nat} {g : Nat → Int} (hl : ln a = 8) (h : ∀ j, j < 8 → D a j = zI (g j)) : f_Waters_sumOf a D = some (zI (sum8 g), D) := by
  unfold f_Waters_sumOf lp_Waters_sumOf_4
  obtain ⟨m, hm⟩ := FU_eq (n := 9) (by omega)
  rw [hm]
  have step : ∀ (n : Nat) (v : Int) (i : Nat), i < 8 → itr (fun _ _ _ => none) (s_Waters_sumOf_4 a) (n + 1) (zI v) (zI i) D = itr (fun _ _ _ => none) (s_Waters_sumOf_4 a) n (zI (v + g i)) (zI ((i + 1 : Nat) : Int)) D := by
    intro n v i hi
    rw [itr_s]
    show s_Waters_sumOf_4 a (itr _ _ n) (zI v) (zI i) D = _
    unfold s_Waters_sumOf_4
    rw [hl, zI_ofNat, if_neg (by rw [zI_le (by omega) (by omega) (by omega) (by omega)]; omega), if_pos (inb_t (by omega) (by omega) (by omega)), zI_nat (by omega), h i hi, zI_add, zI_s]
  rw [show m + 9 = m + 8 + 1 by omega, show (0 : Int32) = zI 0 from rfl]
  rw [show itr (fun _ _ _ => none) (s_Waters_sumOf_4 a) (m + 8 + 1) (zI 0) (zI 0) D = _ from step (m + 8) 0 0 (by omega), step (m + 7) _ 1 (by omega), step (m + 6) _ 2 (by omega), step (m + 5) _ 3 (by omega), step (m + 4) _ 4 (by omega), step (m + 3) _ 5 (by omega), step (m + 2) _ 6 (by omega), step (m + 1) _ 7 (by omega), itr_s]
  unfold s_Waters_sumOf_4
  rw [hl, zI_ofNat, if_pos (by rw [zI_le (by omega) (by omega) (by omega) (by omega)]; omega)]
  unfold sum8
  rw [Int.zero_add]
theorem c_allAhead {D : Dt} {w : Nat} {W : WatT} (hw : kd w = 7) (hW : WRep D w W) : f_Waters_allAhead w D = some (zI (sum8 W.1), D) := by
  unfold f_Waters_allAhead
  rw [c_sumOf (kq_Waters_ahead hw).2 (fun j hj => (hW.2.2 j hj).1), bnd_s]
theorem c_allFlour {D : Dt} {w : Nat} {W : WatT} (hw : kd w = 7) (hW : WRep D w W) : f_Waters_allFlour w D = some (zI (sum8 W.2.2.1), D) := by
  unfold f_Waters_allFlour
  rw [c_sumOf (kq_Waters_flour hw).2 (fun j hj => (hW.2.2 j hj).2.2), bnd_s]
theorem c_standing {D : Dt} {w : Nat} {W : WatT} (hw : kd w = 7) (hW : WRep D w W) : f_Waters_standing w D = some (zI (sum8 W.1 + sum8 W.2.1), D) := by
  unfold f_Waters_standing
  rw [c_sumOf (kq_Waters_ahead hw).2 (fun j hj => (hW.2.2 j hj).1), bnd_s, c_sumOf (kq_Waters_below hw).2 (fun j hj => (hW.2.2 j hj).2.1), bnd_s, zI_add]
/-- a street one hour on -/
def hourStr (x : StrT) (op : Nat) : StrT := (x.1, hrW x.1 op x.2.1, x.2.2.1 + 1, fu x.2.2.2.1 x.2.2.1 x.2.1, fu x.2.2.2.2 x.2.2.1 op)
theorem WOk.mono {B : BedT} {W : WatT} {T U : Int} (h : WOk B W T) (hTU : T ≤ U) : WOk B W U := ⟨h.1, h.2.1, h.2.2.1, by have := h.2.2.2; omega⟩
theorem hourStr_ok {x : StrT} {op : Nat} (h : StrOk x) (hn : 0 < x.1.1) (hh : x.2.2.1 < 60) (hop : op = 0 ∨ op = 1) : StrOk (hourStr x op) := by
  obtain ⟨h1, h2, h3, ⟨h4, h5, h6⟩, h7, h8⟩ := h
  have hk := hrW_ok (op := op) h1 hn h4
  have hfl := h1.2.1
  refine ⟨h1, h2, by show x.2.2.1 + 1 ≤ 60; omega, ⟨?_, ?_, ?_⟩, fun t ht => ?_, fun q => by have : x.1.1 = 0 := q; omega⟩
  · have e : ((hourStr x op).2.2.1 : Int) = x.2.2.1 + 1 := rfl
    exact hk.1.mono (by rw [e]; omega)
  · show 0 ≤ (if op = 1 then x.2.1.2.2.2.1 + x.1.2.1 else x.2.1.2.2.2.1)
    by_cases c : op = 1
    · rw [if_pos c]; omega
    · rw [if_neg c]; omega
  · show (if op = 1 then x.2.1.2.2.2.1 + x.1.2.1 else x.2.1.2.2.2.1) ≤ 9 * ((x.2.2.1 + 1 : Nat) : Int)
    by_cases c : op = 1
    · rw [if_pos c]; omega
    · rw [if_neg c]; omega
  · have ht : t < x.2.2.1 + 1 := ht
    show (WOk x.1 (fu x.2.2.2.1 x.2.2.1 x.2.1 t) (9 * t) ∧ 0 ≤ (fu x.2.2.2.1 x.2.2.1 x.2.1 t).2.2.2.1 ∧ (fu x.2.2.2.1 x.2.2.1 x.2.1 t).2.2.2.1 ≤ 9 * t) ∧ (fu x.2.2.2.2 x.2.2.1 (op : Int) t = 0 ∨ fu x.2.2.2.2 x.2.2.1 (op : Int) t = 1)
    by_cases c : t = x.2.2.1
    · subst c; rw [fu_at, fu_at]; exact ⟨⟨h4, h5, h6⟩, by omega⟩
    · rw [fu_ne c, fu_ne c]; exact h7 t (by omega)
theorem c_strPass {D : Dt} {x : StrT} {op : Nat} (h : CStr D 3 x) (ho : StrOk x) (hn : 0 < x.1.1) (hh : x.2.2.1 < 60) (hop : op = 0 ∨ op = 1) :
    ∃ D1, f_Street_pass 3 (zI op) D = some ((), D1) ∧ CStr D1 3 (hourStr x op) ∧ (∀ j, j < x.1.1 → D1 15 j = zI (gotZ x.1 op x.2.1 j)) ∧ ∀ k, (k < 3 ∨ 17 < k) → D1 k = D k := by
  obtain ⟨hb, hw, hc, hp⟩ := h
  obtain ⟨o1, o2, o3, ⟨o4, o5, o6⟩, o7, o8⟩ := ho
  have l16 : ln 16 = 1560 := by decide +kernel
  unfold f_Street_pass
  have e26 : zI (x.2.2.1 : Int) * 26 = zI ((26 * x.2.2.1 : Nat) : Int) := by
    rw [show (26 : Int32) = zI 26 from rfl, zI_mul]; congr 1; omega
  obtain ⟨E, e1, e2, e3, e4⟩ := c_save (w := 3 + 7) (a := 3 + 13) (p := 26 * x.2.2.1) hw (by omega) (by show _ ≤ ln 16; rw [l16]; omega) (by show ln 16 ≤ _; rw [l16]; omega)
  rw [hc, e26, e1, bnd_s, e4 3 (by omega), hc, if_pos (inb_t (by omega) (by omega) (by omega)), nm_s, zI_nat (by omega), nm_s, wr_ne (show 3 ≠ 3 + 14 by omega), e4 3 (by omega), hc, zI_s]
  generalize hF : wr (wr E (3 + 14) x.2.2.1 (zI op)) 3 4 (zI ((x.2.2.1 + 1 : Nat) : Int)) = F
  have Fk : ∀ k, k ≠ 3 → k ≠ 16 → k ≠ 17 → F k = D k := fun k a b c => by
    rw [← hF, wr_ne a, wr_ne c, e4 k b]
  have hbF : BRep F (3 + 1) x.1 := hb.congr (fun k a b => Fk k (by omega) (by omega) (by omega))
  have hwF : WRep F (3 + 7) x.2.1 := hw.congr (fun k a b => Fk k (by omega) (by omega) (by omega))
  obtain ⟨K, k1, k2, k3, k4⟩ := c_pass (w := 3 + 7) (b := 3 + 1) hbF o1 hn (by omega) hwF o4 (by omega) hop
  rw [k1, bnd_s]
  have K3 : K 3 4 = zI ((x.2.2.1 + 1 : Nat) : Int) := by rw [k4 3 (by omega), ← hF, wr_at, upd_at]
  have K16 : K (3 + 13) = E (3 + 13) := by rw [k4 _ (by omega), ← hF, wr_ne (by omega), wr_ne (by omega)]
  have K17 : K (3 + 14) = upd (D (3 + 14)) x.2.2.1 (zI op) := by rw [k4 _ (by omega), ← hF, wr_ne (by omega), wr_at, e4 _ (by omega)]
  refine ⟨K, rfl, ⟨hbF.congr (fun k a b => k4 k (by omega)), k2, K3, fun t ht => ?_⟩, fun j hj => (k3 j hj).2, fun k hk => by rw [k4 k (by omega), Fk k (by omega) (by omega) (by omega)]⟩
  have ht : t < x.2.2.1 + 1 := ht
  rw [K16, K17]
  show PRep (E (3 + 13)) (26 * t) (fu x.2.2.2.1 x.2.2.1 x.2.1 t) ∧ upd (D (3 + 14)) x.2.2.1 (zI op) t = zI (fu x.2.2.2.2 x.2.2.1 (op : Int) t)
  by_cases c : t = x.2.2.1
  · subst c; rw [fu_at, fu_at, upd_at]; exact ⟨e2, rfl⟩
  · rw [fu_ne c, fu_ne c, upd_ne c]
    obtain ⟨p1, p2⟩ := hp t (by omega)
    refine ⟨?_, p2⟩
    obtain ⟨q1, q2, q3⟩ := p1
    exact ⟨by rw [e3 _ (by omega)]; exact q1, by rw [e3 _ (by omega)]; exact q2, fun j hj => ⟨by rw [e3 _ (by omega)]; exact (q3 j hj).1, by rw [e3 _ (by omega)]; exact (q3 j hj).2.1, by rw [e3 _ (by omega)]; exact (q3 j hj).2.2⟩⟩
def sp_hour (v1 : Int32) (S : SstT) : Int32 × SstT := if wi v1 0 1 = true then (if 0 < S.2.2.2.1.1.1 then (if S.2.2.2.1.2.2.1 < 60 then (zI (sum8 (hourStr S.2.2.2.1 v1.toInt.toNat).2.1.1), sTell (sStr S (hourStr S.2.2.2.1 v1.toInt.toNat)) (zI ((hourStr S.2.2.2.1 v1.toInt.toNat).2.1.2.2.2.2 - S.2.2.2.1.2.1.2.2.2.2))) else (-2, S)) else (-4, S)) else (-1, S)
theorem c_hasRoomFor {D : Dt} {S : SstT} (h : CRep D S) (ho : Ok S) (m : Nat) (hm : m ≤ 8) : f_Street_hasRoomFor 3 (zI m) D = some (if S.2.2.2.1.2.2.1 + m ≤ 60 then 1 else 0, D) := by
  have h6 := ho.2.1.2.2.1
  unfold f_Street_hasRoomFor
  rw [h.2.2.2.1.2.2.1, zI_add, show (60 : Int32) = zI 60 from rfl]
  by_cases c : S.2.2.2.1.2.2.1 + m ≤ 60
  · rw [if_neg (by rw [zI_lt (by omega) (by omega) (by omega) (by omega)]; omega), if_pos c]
  · rw [if_pos (by rw [zI_lt (by omega) (by omega) (by omega) (by omega)]; omega), if_neg c]
theorem kd10 : kd (3 + 7) = 7 := by decide +kernel
theorem k_hour {D : Dt} {S : SstT} (h : CRep D S) (ho : Ok S) (v1 : Int32) : CDo (f_Root_hour v1 D) D (sp_hour v1 S).1 (sp_hour v1 S).2 := by
  unfold f_Root_hour sp_hour
  simp only [c_isWithin, c_hasHouses h ho, bnd_s, zo_if, tl, show (1 : Int32) = zI ((1 : Nat) : Int) from rfl, c_hasRoomFor h ho 1 (by omega)]
  simp only [show zI ((1 : Nat) : Int) = (1 : Int32) from rfl, zo_if, tl]
  by_cases c1 : wi v1 0 1 = true
  · by_cases c2 : 0 < S.2.2.2.1.1.1
    · by_cases c3 : S.2.2.2.1.2.2.1 < 60
      · obtain ⟨op, hop, -, rfl⟩ := wi_nat c1 (by omega)
        obtain ⟨E, e1, e2, -, e4⟩ := c_strPass h.2.2.2.1 ho.2.1 c2 c3 (show op = 0 ∨ op = 1 by omega)
        simp only [c1, c2, c3, if_true, show S.2.2.2.1.2.2.1 + 1 ≤ 60 by omega, zI_toInt (show -2147483648 ≤ (op : Int) by omega) (show (op : Int) < 2147483648 by omega), Int.toNat_natCast]
        rw [e1, bnd_s, c_allAhead kd10 e2.2.1, bnd_s, e2.2.1.2.1, h.2.2.2.1.2.1.2.1, zI_sub]
        have hE : CRep E (sStr S (hourStr S.2.2.2.1 op)) := h.setStr e2 (fun k _ hk => e4 k hk)
        exact (c_tell hE _ _).bind (fun k hk => e4 k (by omega))
      · simp only [c1, c2, c3, if_true, if_false, show ¬ S.2.2.2.1.2.2.1 + 1 ≤ 60 by omega]
        exact CDo.same h _
    · simp only [c1, c2, if_true, if_false]
      exact CDo.same h _
  · simp only [c1, if_false, Bool.false_eq_true]
    exact CDo.same h _
/-! undo -/
def backStr (x : StrT) (n : Nat) : StrT := if n < x.2.2.1 then (x.1, x.2.2.2.1 n, n, x.2.2.2) else x
def sp_undo (v1 : Int32) (S : SstT) : Int32 × SstT := if wi v1 0 S.2.2.2.1.2.2.1 = true then (zI (S.2.2.2.1.2.2.1 - v1.toInt), sStr S (backStr S.2.2.2.1 v1.toInt.toNat)) else (-1, S)
theorem sStr_self (S : SstT) : sStr S S.2.2.2.1 = S := rfl
theorem k_undo {D : Dt} {S : SstT} (h : CRep D S) (ho : Ok S) (v1 : Int32) : CDo (f_Root_undo v1 D) D (sp_undo v1 S).1 (sp_undo v1 S).2 := by
  have h6 := ho.2.1.2.2.1
  obtain ⟨hb, hw, hc, hp⟩ := h.2.2.2.1
  have l16 : ln 16 = 1560 := by decide +kernel
  unfold f_Root_undo sp_undo
  rw [hc, c_isWithin, bnd_s, zo_if, zI_toInt (by omega) (by omega)]
  simp only [tl]
  by_cases c1 : wi v1 0 S.2.2.2.1.2.2.1 = true
  · obtain ⟨n, hn, -, rfl⟩ := wi_nat c1 (by omega)
    simp only [c1, if_true, zI_toInt (show -2147483648 ≤ (n : Int) by omega) (show (n : Int) < 2147483648 by omega), Int.toNat_natCast]
    unfold f_Street_goBack backStr
    rw [hc, zI_sub, show (0 : Int32) = zI 0 from rfl]
    by_cases c2 : n < S.2.2.2.1.2.2.1
    · rw [if_neg (by rw [zI_le (by omega) (by omega) (by omega) (by omega)]; omega), if_pos c2]
      have e26 : zI (n : Int) * 26 = zI ((26 * n : Nat) : Int) := by
        rw [show (26 : Int32) = zI 26 from rfl, zI_mul]; congr 1; omega
      obtain ⟨E, e1, e2, e3⟩ := c_load (w := 3 + 7) (a := 3 + 13) (p := 26 * n) (hp n c2).1 (by omega) (by show _ ≤ ln 16; rw [l16]; omega) (by show ln 16 ≤ _; rw [l16]; omega)
      rw [e26, e1, bnd_s, nm_s, bnd_s]
      refine ⟨_, rfl, h.setStr ⟨hb.congr (fun k a b => by rw [wr_ne (by omega), e3 k (by omega)]), e2.congr (fun k a b => wr_ne (by omega)), by rw [wr_at, upd_at], fun t ht => ?_⟩ (fun k _ hk => by rw [wr_ne (by omega), e3 k (by omega)]), fun k hk => by rw [wr_ne (by omega), e3 k (by omega)]⟩
      rw [wr_ne (by omega), wr_ne (by omega), e3 _ (by omega), e3 _ (by omega)]
      have ht : t < n := ht
      exact hp t (by omega)
    · rw [if_pos (by rw [zI_le (by omega) (by omega) (by omega) (by omega)]; omega), if_neg c2, bnd_s, sStr_self]
      exact CDo.same h _
  · simp only [c1, if_false, Bool.false_eq_true]
    exact CDo.same h _
/-! water -/
def sp_water (S : SstT) : Int32 × SstT := (zI S.2.2.2.1.2.1.2.2.2.1, sTell S (zI S.2.2.2.1.2.1.2.2.2.2))
theorem k_water {D : Dt} {S : SstT} (h : CRep D S) : CDo (f_Root_water D) D (sp_water S).1 (sp_water S).2 := by
  unfold f_Root_water sp_water
  rw [h.2.2.2.1.2.1.1, h.2.2.2.1.2.1.2.1]
  exact (c_tell h _ _).ret
