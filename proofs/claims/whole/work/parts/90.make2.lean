/-! the making of the world: arrays, objects, what is blank and what is done -/
def D0 : Dt := fun k j => if kd k = 3 ∨ kd k = 5 then (if j = 1 then -1 else 0) else if k = 178 then (if j < 6 then -1 else 0) else if k = 181 then (if j < 4 then -1 else 0) else 0
def rfE (f : Nat → Option Nat) : (Nat → Int32) ⊕ (Nat → Int64) ⊕ (Nat → UInt32) ⊕ (Nat → UInt64) ⊕ (Nat → Option Nat) := .inr (.inr (.inr (.inr f)))
def dfl (c : Nat) : List Value := match c with
  | 0 => [.null, .null, .null, .null, .null, .int 0, .int 0, .int 0]
  | 1 => [.null, .null, .null, .int 0]
  | 2 => [.null, .null, .null, .null, .int 0]
  | 3 => [.null, .int 0]
  | 4 => [.null, .null, .null, .null, .int 0]
  | 5 => [.null, .int 0]
  | 6 => [.null, .null, .null, .null, .int 0, .int 0]
  | 7 => [.null, .null, .null, .null, .null, .int 0, .int 0]
  | 8 => [.null, .null, .null, .null, .null, .null, .null, .null, .null, .null, .null, .null, .int 0, .int 0]
  | 9 => [.int 0, .null, .int 0, .null, .null, .null, .null, .null, .int 0, .int 0, .int 0, .null, .null, .null, .null, .null, .int 0, .int 0, .int 0, .int 0, .int 0, .null, .null, .null, .null, .int 0, .int 0, .null, .null, .null, .null, .null, .null, .null, .null, .int 0, .int 0, .int 0, .int 0, .int 0, .null, .null, .null, .null, .int 0, .int 0, .int 0, .int 0, .null, .null, .int 0, .null, .null, .null, .null, .int 0, .null, .long 0]
  | _ => []
def bl (Γ : GmT) (k : Nat) : va_E := if kd k < 10 then .inr (kd k, dfl (kd k)) else if kd k = 10 ∨ kd k = 11 ∨ kd k = 12 then .inl (Γ.2.2.2 (kd k), ln k, .inl (fun _ => 0)) else if kd k = 17 then enc Γ (D0 k) k else .inl (Γ.2.2.2 (kd k), ln k, rfE (fun _ => none))
theorem bl_o {Γ : GmT} {k ci : Nat} (h : kd k = ci) (hc : ci < 10) : bl Γ k = .inr (ci, dfl ci) := by unfold bl; rw [h, if_pos hc]
theorem bl_a {Γ : GmT} {k t N : Nat} (h : isA t k N) (ht : t = 10 ∨ t = 11 ∨ t = 12) : bl Γ k = .inl (Γ.2.2.2 t, N, .inl (fun _ => 0)) := by unfold bl; rw [h.1, h.2, if_neg (by omega), if_pos ht]
theorem bl_r {Γ : GmT} {k t N : Nat} (h : isA t k N) (ht : 13 ≤ t ∧ t ≤ 16) : bl Γ k = .inl (Γ.2.2.2 t, N, rfE (fun _ => none)) := by unfold bl; rw [h.1, h.2, if_neg (by omega), if_neg (by omega), if_neg (by omega)]
theorem d0_z {k : Nat} (h1 : kd k ≠ 3) (h2 : kd k ≠ 5) (h3 : k ≠ 178) (h4 : k ≠ 181) : D0 k = fun _ => 0 := by
  funext j
  unfold D0
  rw [if_neg (by omega), if_neg h3, if_neg h4]
/-- a blank array of numbers is a done one -/
theorem bl_d {Γ : GmT} {k t : Nat} (h : kd k = t) (ht : t = 10 ∨ t = 11 ∨ t = 12) (h3 : k ≠ 178) (h4 : k ≠ 181) : bl Γ k = enc Γ (D0 k) k := by
  rw [bl_a (N := ln k) ⟨h, rfl⟩ ht, d0_z (by omega) (by omega) h3 h4]
  rcases ht with e | e | e
  · rw [e] at h ⊢; exact (enc10 Γ _ h).symm
  · rw [e] at h ⊢; exact (enc11 Γ _ h).symm
  · rw [e] at h ⊢; exact (enc12 Γ _ h).symm
def fB (Γ : GmT) (E : EB) (a sz : Nat) : EB := fun k => if a ≤ k ∧ k < a + sz then enc Γ (D0 k) k else E k
theorem fB_in {Γ : GmT} {E : EB} {a sz k : Nat} (h1 : a ≤ k) (h2 : k < a + sz) : fB Γ E a sz k = enc Γ (D0 k) k := if_pos ⟨h1, h2⟩
theorem fB_out {Γ : GmT} {E : EB} {a sz k : Nat} (h : k < a ∨ a + sz ≤ k) : fB Γ E a sz k = E k := if_neg (by omega)
theorem fB_oB {Γ : GmT} {E : EB} {a sz b : Nat} {x : va_E} (h : b < a ∨ a + sz ≤ b) : fB Γ (oB E b x) a sz = oB (fB Γ E a sz) b x := by
  funext k
  by_cases h1 : k = b
  · subst h1; rw [fB_out h, oB_eq, oB_eq]
  · rw [oB_ne h1]
    by_cases h2 : a ≤ k ∧ k < a + sz
    · rw [fB_in h2.1 h2.2, fB_in h2.1 h2.2]
    · rw [fB_out (by omega), fB_out (by omega), oB_ne h1]
theorem fB_fB {Γ : GmT} {E : EB} {a s1 s2 : Nat} : fB Γ (fB Γ E a s1) (a + s1) s2 = fB Γ E a (s1 + s2) := by
  funext k
  by_cases h1 : a + s1 ≤ k ∧ k < a + s1 + s2
  · rw [fB_in h1.1 h1.2, fB_in (by omega) (by omega)]
  · rw [fB_out (by omega)]
    by_cases h2 : a ≤ k ∧ k < a + s1
    · rw [fB_in h2.1 h2.2, fB_in (by omega) (by omega)]
    · rw [fB_out (by omega), fB_out (by omega)]
theorem fB_0 {Γ : GmT} {E : EB} {a : Nat} : fB Γ E a 0 = E := by
  funext k
  rw [fB_out (by omega)]
/-- what a constructor of size sz at the cell a does: it finds blanks, it leaves them done -/
def CtB (Γ : GmT) (y : MethodName) (bb : ByteArray) (mL fr mc ms a sz : Nat) : Prop := ∀ E : EB, (∀ k, a ≤ k → k < a + sz → E k = bl Γ k) → MtB Γ y bb mL fr mc ms [.ref (Γ.2.1 a)] E (a + 1) (fB Γ E a sz) (a + sz)
/-- what a constructor's name needs -/
def okI (y : MethodName) (bb : ByteArray) (mL N ci : Nat) (T : u_T) (ty : Nat → FieldType) : Prop := (cCl[ci]? = some (y.cls, T, N) ∧ ci < 10 ∧ (∀ w ∈ u_ws y.cls T N, w ∈ GW) ∧ (∀ k, k < N → parseFieldDescriptor (T k).2.2.1 = some (ty k)) ∧ (∀ j, j < N → defaultValue (ty j) = vp_V (dfl ci) j)) ∧ Cond.instantiable y.cls N ∈ GW ∧ Cond.initialized y.cls ∈ GW ∧ Cond.instanceMethod y ∈ GW ∧ Cond.code y bb mL none ∈ GW ∧ okY y 0 ∧ y.name = "<init>"
section MakeRows2
variable {Γ : GmT} {own : String} {cc : ByteArray} {nL fr mc ms : Nat} {E' : EB} {n' : Nat} {G : EB → Nat → Nat → Nat → Nat → List (Nat × Value) → List Value → Prop} {E : EB} {n cs ss pc : Nat} {lv lv' : List (Nat × Value)} {st0 : List Value}
theorem b_newa (C : CxB Γ own cc nL fr mc ms E' n' G) {atp : ArrayType} {t N q : Nat} {ty : FieldType} {v : Int32} (hty : newarray.typeOf atp = ty) (hq : (tyG Γ)[q]? = some (Γ.2.2.2 t, ty)) (hra : ∀ (U : State) (cA : ClassId), va_RA U cA ty → U.vm.findClass ("[" ++ ty.toString) = some cA) (hdv : defaultValue ty = .int 0) (hw : Cond.arrayClass ty ∈ GW) (hv0 : ¬ v < 0) (hvN : v.toNatClampNeg = N) (hby : N * componentBytes ty ≤ 536870912) (hE : E n = .inl (Γ.2.2.2 t, N, .inl (fun _ => 0))) (hc : cs + 1 ≤ mc) (hs : ss + N ≤ ms) (d : decode cc pc = .ok (.newarray atp, 2)) (kk : G E (n + 1) (cs + 1) (ss + N) (pc + 2) lv (.ref (Γ.2.1 n) :: st0)) : G E n cs ss pc lv (.int v :: st0) := by
  obtain ⟨p, e, s, m, args, below, meth, c, hx, hb, hml, hr, hlk, hin, hown, hts, hSt, rfl⟩ := C
  intro H locs ls hP hS hl
  subst hty
  refine va_newaK hx hb (hts _ hw) rfl d rfl hv0 hvN hby hc hs hP.2 fun H1 cA e1 z1 o1 hAr hNm => ?_
  have hcA : cA = Γ.2.2.2 t := Option.some.inj (hNm.symm.trans (hra s _ (hSt.1.2 q _ hq).2))
  subst hcA
  refine kk H1 locs ls (PB_push hSt.2.2.2.2 hP (by rw [z1, hP.2]) (fun q hq => o1 q (by rw [← hP.2]; exact hq)) ?_) ⟨Nat.le_trans hS.1 (by rw [z1, ← hP.2]; omega), fun q h1 h2 => (o1 q (by rw [← hP.2]; exact Nat.lt_of_lt_of_le h1 hS.1)).trans (hS.2.1 q h1 h2), hS.2.2⟩ hl
  rw [hE]
  show H1[Γ.2.1 n]? = some (vp_cell _ _)
  rw [e1, hdv]
  rfl
theorem b_anew (C : CxB Γ own cc nL fr mc ms E' n' G) {D : String} {t N q ix : Nat} {v : Int32} (hq : (tyG Γ)[q]? = some (Γ.2.2.2 t, .object D)) (hD : D ∈ aoL) (hw : Cond.classLink own ix D ∈ GW) (hv0 : ¬ v < 0) (hvN : v.toNatClampNeg = N) (hby : N * 4 ≤ 536870912) (hE : E n = .inl (Γ.2.2.2 t, N, rfE (fun _ => none))) (hc : cs + 1 ≤ mc) (hs : ss + N ≤ ms) (d : decode cc pc = .ok (.anewarray ix, 3)) (kk : G E (n + 1) (cs + 1) (ss + N) (pc + 3) lv (.ref (Γ.2.1 n) :: st0)) : G E n cs ss pc lv (.int v :: st0) := by
  obtain ⟨p, e, s, m, args, below, meth, c, hx, hb, hml, hr, hlk, hin, hown, hts, hSt, rfl⟩ := C
  intro H locs ls hP hS hl
  subst hvN
  refine W.anew hx hb hown (hts _ hw) (va_AO.use (hSt.2.2.1 D hD)) rfl d rfl hv0 hby hc hs fun cA kA comp f1 f2 f3 f4 => ?_
  obtain ⟨-, -, -, -, -, g4⟩ := (hSt.1.2 q _ hq).2
  have hcA : cA = Γ.2.2.2 t := Option.some.inj (f1.symm.trans g4)
  subst hcA
  generalize hH1 : H.push ({ cls := Γ.2.2.2 t, slots := Array.replicate v.toNatClampNeg .null, vm := .none } : Cell) = H1
  have z1 : H1.size = H.size + 1 := by rw [← hH1, Array.size_push]
  have e1 : H1[H.size]? = some (arrV (Γ.2.2.2 t) v.toNatClampNeg (fun _ => .null)) := by rw [← hH1, Array.getElem?_push_size, ← arrV_new]
  have o1 : ∀ q : Nat, q < H.size → H1[q]? = H[q]? := fun q hq => by rw [← hH1, Array.getElem?_push, if_neg (Nat.ne_of_lt hq)]
  rw [hP.2]
  refine kk H1 locs ls (PB_push hSt.2.2.2.2 hP z1 o1 ?_) ⟨Nat.le_trans hS.1 (by omega), fun q h1 h2 => (o1 q (Nat.lt_of_lt_of_le h1 hS.1)).trans (hS.2.1 q h1 h2), hS.2.2⟩ hl
  rw [hE]
  show H1[Γ.2.1 n]? = some (vp_cell _ _)
  rw [← hP.2, e1]
  rfl
/-- new, dup, the constructor -/
theorem b_mk (C : CxB Γ own cc nL fr mc ms E' n' G) {F : EB} {x : va_E} {y : MethodName} {bb : ByteArray} {mL cfr mc1 ms1 N ci ix ix2 b sz : Nat} {T : u_T} {ty : Nat → FieldType} (hy : okI y bb mL N ci T ty) (hnw : (own, ix2, y) ∈ NWL ∨ Cond.methodLink own ix2 y ∈ GW) (hcl : Cond.classLink own ix y.cls ∈ GW) (hk : kd n = ci) (hb0 : b < n) (hsz : 0 < sz) (hpro : ∀ k, n ≤ k → k < n + sz → F k = bl Γ k) (hfr : cfr + 1 ≤ fr ∧ 8 + (mL + 11) + 40 * cfr ≤ 40 * fr) (hcat : ((Value.ref (Γ.2.1 n) :: st0).map fun v => v.category).sum ≤ 8)
    (M : CtB Γ y bb mL cfr mc1 ms1 n sz) (hc : cs + 1 + mc1 ≤ mc) (hs : ss + N + ms1 ≤ ms) (d1 : decode cc pc = .ok (.new ix, 3)) (d2 : decode cc (pc + 3) = .ok (.dup, 1)) (d3 : decode cc (pc + 4) = .ok (.invokespecial ix2, 3))
    (kk : G (oB (fB Γ F n sz) b x) (n + sz) (cs + 1 + mc1) (ss + N + ms1) (pc + 7) lv (.ref (Γ.2.1 n) :: st0)) : G (oB F b x) n cs ss pc lv st0 := by
  obtain ⟨p, e, s, m, args, below, meth, c, hx, hb, hml, hr, hlk, hin, hown, hts, hSt, rfl⟩ := C
  intro H locs ls hP hS hl
  obtain ⟨⟨y1, y2, y3, y4, y5⟩, y6, y7, y8, y9, y10, y11⟩ := hy
  have hE : ∀ k, n ≤ k → k < n + sz → oB F b x k = bl Γ k := fun k h1 h2 => by rw [oB_ne (by omega)]; exact hpro k h1 h2
  refine w_newB hx hb hown hts hSt ty y3 y4 y1 hcl y6 y7 ((hE n (by omega) (by omega)).trans (bl_o hk y2)) y5 (Nat.le_trans (Nat.le_add_right _ _) hc) (Nat.le_trans (Nat.le_add_right _ _) hs) hP hS d1 fun H1 hP1 hS1 => ?_
  refine lv_dup hx hb d2 rfl ?_
  have M := M (oB F b x) hE
  rw [fB_oB (Or.inl hb0)] at M
  have hp : PreS s H1 (va_Pc [.ref (Γ.2.1 n)] (fun U => PB Γ (oB F b x) (n + 1) U.heap ∧ StB Γ U)) (.ref (Γ.2.1 n) :: []) := ⟨blindB, fun U hU hW => ⟨rfl, by rw [hU]; exact hP1, hSt.warm hW⟩⟩
  rcases hnw with h | h
  · exact w_callB (va_runIN (As := []) (rest := .ref (Γ.2.1 n) :: st0) ⟨hx, hb, hml, hown, hts⟩ M ⟨va_cnB 0 hts (gGWc y9) rfl rfl rfl (hSt.2.1 _ h) (hts _ y7) y10 hfr, y11, hts _ y8⟩ hp rfl rfl hl.1 rfl (lv_room hcat) d3 ⟨hc, hs⟩) hS1 (fun H2 locs2 hP2 hS2 => kk H2 locs2 ls hP2 hS2 hl)
  · exact w_callB (va_runI (As := []) (rest := .ref (Γ.2.1 n) :: st0) ⟨hx, hb, hml, hown, hts⟩ M (cwI 0 hts (gGWc y9) rfl rfl rfl (hts _ y7) (hts _ h) (hts _ y8) y11 y10 hfr) hp rfl rfl hl.1 rfl (lv_room hcat) d3 ⟨hc, hs⟩) hS1 (fun H2 locs2 hP2 hS2 => kk H2 locs2 ls hP2 hS2 hl)
theorem b_aast (C : CxB Γ own cc nL fr mc ms E' n' G) {a w t N q ci : Nat} {r : vw_C} {f : Nat → Option Nat} {vs : List Value} {i : Int32} (hE : E a = .inl (Γ.2.2.2 t, N, rfE f)) (ha : a < n) (hq : (tyG Γ)[q]? = some (Γ.2.2.2 t, .object r.1)) (hw : E w = .inr (ci, vs)) (hwn : w < n) (hci : cCl[ci]? = some r) (hi : vp_in i N) (d : decode cc pc = .ok (.aastore, 1)) (kk : G (oB E a (.inl (Γ.2.2.2 t, N, rfE (va_up f i.toNatClampNeg (some (Γ.2.1 w)))))) n cs ss (pc + 1) lv st0) : G E n cs ss pc lv (.ref (Γ.2.1 w) :: .int i :: .ref (Γ.2.1 a) :: st0) := by
  obtain ⟨p, e, s, m, args, below, meth, c, hx, hb, hml, hr, hlk, hin, hown, hts, hSt, rfl⟩ := C
  intro H locs ls hP hS hl
  have hlt : i.toNatClampNeg < N := Nat.not_le.mp fun q => hi (Or.inr q)
  have h0 : ¬ i < 0 := fun q => hi (Or.inl q)
  have hat := hP.1 a ha
  rw [hE] at hat
  have hatw := hP.1 w hwn
  rw [hw] at hatw
  obtain ⟨r', hr', cellV, g1, g2, g3, -⟩ := hatw
  have hcls := (hSt.1.1 ci r hci).2
  obtain ⟨kA, comp, k1, k2, k3, -⟩ := (hSt.1.2 q _ hq).2
  have hcomp : comp = Γ.2.2.1.1 ci := Option.some.inj (k3.symm.trans hcls.1)
  subst hcomp
  obtain ⟨kC, hkC, -⟩ := hcls.2
  refine W.aast hx hb hat (fun q h => by cases h) (fun h => by cases h) k1 k2 rfl hkC ⟨h0, by show _ < (arrV _ _ _).slots.size; rw [arrV_size]; exact hlt⟩ g1 (fun q h => by rw [g3] at h; cases h) (by rw [g2]; exact hkC) (by rw [g2]; exact va_assign hcls) rfl rfl d fun H1 e1 z oq => ?_
  refine kk H1 _ ls (PB_set hSt.2.2.2.2 hP z oq ?_) (hS.put z oq ?_) hl
  · show H1[Γ.2.1 a]? = some (vp_cell _ _)
    rw [e1]
    show some ((vp_cell _ (N, .inr (.inr (.inr (.inr f))))).setSlot _ _) = some (vp_cell _ (N, .inr (.inr (.inr (.inr (va_up f i.toNatClampNeg (some (Γ.2.1 w))))))))
    rw [vp_cell_q, vp_cell_q, arrV_store]
    congr 2
    funext q
    by_cases hq : q = i.toNatClampNeg
    · subst hq
      simp [updV, va_up, va_rf]
    · simp [updV, va_up, hq]
  · show Γ.2.1 0 ≤ Γ.2.1 a
    rw [hSt.2.2.2.2 a]; omega
theorem b_iast (C : CxB Γ own cc nL fr mc ms E' n' G) {a N : Nat} {f : Nat → Int32} {i x : Int32} (hE : E a = .inl (Γ.2.2.2 11, N, .inl f)) (ha : a < n) (hi : vp_in i N) (d : decode cc pc = .ok (.iastore, 1)) (kk : G (oB E a (.inl (Γ.2.2.2 11, N, .inl (upd f i.toNatClampNeg x)))) n cs ss (pc + 1) lv st0) : G E n cs ss pc lv (.int x :: .int i :: .ref (Γ.2.1 a) :: st0) := by
  obtain ⟨p, e, s, m, args, below, meth, c, hx, hb, hml, hr, hlk, hin, hown, hts, hSt, rfl⟩ := C
  intro H locs ls hP hS hl
  have hat := hP.1 a ha
  rw [hE] at hat
  refine W.iast hx hb hat ((hSt.1.2 1 (Γ.2.2.2 11, .int) rfl).1 N (fun j => .int (f j))) (fun q => by cases q) (by show ¬ (i < 0 ∨ (arrV _ _ _).slots.size ≤ _); rw [arrV_size]; exact hi) rfl rfl d fun H1 e1 z oq => ?_
  refine kk H1 _ ls (PB_set hSt.2.2.2.2 hP z oq ?_) (hS.put z oq ?_) hl
  · show H1[Γ.2.1 a]? = some (vp_cell _ _)
    rw [e1]
    rw [vp_cell_i, vp_cell_i, arrV_store]
    congr 2
    funext q
    by_cases hq : q = i.toNatClampNeg
    · subst hq
      simp [updV, upd]
    · simp [updV, upd, hq]
  · show Γ.2.1 0 ≤ Γ.2.1 a
    rw [hSt.2.2.2.2 a]; omega
/-- an array of references, by its places only -/
theorem b_conv (C : CxB Γ own cc nL fr mc ms E' n' G) {a N : Nat} {cA : ClassId} {f g : Nat → Option Nat} (hE : E a = .inl (cA, N, rfE f)) (h : ∀ j, j < N → f j = g j) (kk : G (oB E a (.inl (cA, N, rfE g))) n cs ss pc lv st0) : G E n cs ss pc lv st0 := by
  obtain ⟨p, e, s, m, args, below, meth, c, hx, hb, hml, hr, hlk, hin, hown, hts, hSt, rfl⟩ := C
  intro H locs ls hP hS hl
  refine kk H locs ls ⟨fun k hk => ?_, hP.2⟩ hS hl
  by_cases e1 : k = a
  · subst e1
    rw [oB_eq]
    have h1 := hP.1 k hk
    rw [hE] at h1
    have h1 : H[Γ.2.1 k]? = some (vp_cell cA (N, .inr (.inr (.inr (.inr f))))) := h1
    show H[Γ.2.1 k]? = some (vp_cell cA (N, .inr (.inr (.inr (.inr g)))))
    rw [h1, vp_cell_q, vp_cell_q]
    unfold arrV
    congr 2
    have : (fun j : Fin N => va_rf (f j.val)) = (fun j : Fin N => va_rf (g j.val)) := by
      funext j
      rw [h j.val j.isLt]
    rw [this]
  · rw [oB_ne e1]
    exact hP.1 k hk
end MakeRows2
