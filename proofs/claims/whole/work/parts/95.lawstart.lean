/-! the law, from its entry (the Tuesday's constructor as a premise) -/
theorem nwl_in : ∀ q ∈ NWL, Cond.methodLinkNest q.1 q.2.1 q.2.2 "RiverTuesdays" ∈ lw_tbl := List.forall_mem_cons.mpr ⟨List.mem_of_getElem? (i := 102) (by decide +kernel), List.forall_mem_cons.mpr ⟨List.mem_of_getElem? (i := 108) (by decide +kernel), List.forall_mem_cons.mpr ⟨List.mem_of_getElem? (i := 161) (by decide +kernel), List.forall_mem_cons.mpr ⟨List.mem_of_getElem? (i := 219) (by decide +kernel), List.forall_mem_cons.mpr ⟨List.mem_of_getElem? (i := 221) (by decide +kernel), List.forall_mem_cons.mpr ⟨List.mem_of_getElem? (i := 232) (by decide +kernel), List.forall_mem_cons.mpr ⟨List.mem_of_getElem? (i := 258) (by decide +kernel), List.forall_mem_cons.mpr ⟨List.mem_of_getElem? (i := 278) (by decide +kernel), List.forall_mem_cons.mpr ⟨List.mem_of_getElem? (i := 301) (by decide +kernel), List.forall_mem_cons.mpr ⟨List.mem_of_getElem? (i := 317) (by decide +kernel), fun _ h => absurd h List.not_mem_nil⟩⟩⟩⟩⟩⟩⟩⟩⟩⟩
theorem aol_in : ∀ C ∈ aoL, Cond.arrayOver (.object C) ∈ lw_tbl := List.forall_mem_cons.mpr ⟨List.mem_of_getElem? (i := 97) (by decide +kernel), List.forall_mem_cons.mpr ⟨List.mem_of_getElem? (i := 217) (by decide +kernel), List.forall_mem_cons.mpr ⟨List.mem_of_getElem? (i := 99) (by decide +kernel), List.forall_mem_cons.mpr ⟨List.mem_of_getElem? (i := 229) (by decide +kernel), fun _ h => absurd h List.not_mem_nil⟩⟩⟩⟩
theorem nw1_in : nW1 ∈ lw_tbl := List.mem_of_getElem? (i := 889) (by decide +kernel)
theorem nw2_in : nW2 ∈ lw_tbl := List.mem_of_getElem? (i := 931) (by decide +kernel)
theorem aoa_in : Cond.arrayOver (.array .int) ∈ lw_tbl := List.mem_of_getElem? (i := 231) (by decide +kernel)
theorem st_known {s : State} {args : Array Value} (hG : ∀ w ∈ GW, w.before args s = true) : ∃ D : va_G, ∀ (k : Nat) (q : vw_C), cCl[k]? = some q → u_Kn s q.1 q.2.1 q.2.2 (D.1 k) (D.2 k) := by
  have h : ∀ k : Nat, ∃ x : ClassId × (Nat → Nat), ∀ q : vw_C, cCl[k]? = some q → u_Kn s q.1 q.2.1 q.2.2 x.1 x.2 := by
    intro k
    match k with
    | 0 => obtain ⟨c, f, h⟩ := u_known (n := 8) hG cW0 (hG _ okI_Bed.2.1); exact ⟨(c, f), fun q hq => by cases hq; exact h⟩
    | 1 => obtain ⟨c, f, h⟩ := u_known (n := 4) hG cW1 (hG _ okI_Fits.2.1); exact ⟨(c, f), fun q hq => by cases hq; exact h⟩
    | 2 => obtain ⟨c, f, h⟩ := u_known (n := 5) hG cW2 (hG _ okI_Jobs.2.1); exact ⟨(c, f), fun q hq => by cases hq; exact h⟩
    | 3 => obtain ⟨c, f, h⟩ := u_known (n := 2) hG cW3 (hG _ okI_Row.2.1); exact ⟨(c, f), fun q hq => by cases hq; exact h⟩
    | 4 => obtain ⟨c, f, h⟩ := u_known (n := 5) hG cW4 (hG _ okI_Street.2.1); exact ⟨(c, f), fun q hq => by cases hq; exact h⟩
    | 5 => obtain ⟨c, f, h⟩ := u_known (n := 2) hG cW5 (hG _ okI_Text.2.1); exact ⟨(c, f), fun q hq => by cases hq; exact h⟩
    | 6 => obtain ⟨c, f, h⟩ := u_known (n := 6) hG cW6 (hG _ okI_Tuesday.2.1); exact ⟨(c, f), fun q hq => by cases hq; exact h⟩
    | 7 => obtain ⟨c, f, h⟩ := u_known (n := 7) hG cW7 (hG _ okI_Waters.2.1); exact ⟨(c, f), fun q hq => by cases hq; exact h⟩
    | 8 => obtain ⟨c, f, h⟩ := u_known (n := 14) hG cW8 (hG _ okI_Root.2.1); exact ⟨(c, f), fun q hq => by cases hq; exact h⟩
    | 9 => obtain ⟨c, f, h⟩ := u_known (n := 58) hG cW9 (hG _ okI_Model.2.1); exact ⟨(c, f), fun q hq => by cases hq; exact h⟩
    | k + 10 => exact ⟨(0, fun _ => 0), fun q hq => by cases hq⟩
  exact ⟨(fun k => (Classical.choose (h k)).1, fun k => (Classical.choose (h k)).2), fun k q hq => Classical.choose_spec (h k) q hq⟩
theorem st_arr {s : State} {args : Array Value} {ty : FieldType} (h : (Cond.arrayClass ty).before args s = true) (hra : ∀ cA : ClassId, s.vm.findClass ("[" ++ ty.toString) = some cA → va_RA s cA ty) : ∃ cA, ArrOfT s cA ty ∧ va_RA s cA ty := by
  obtain ⟨c, k, comp, h1, h2, h3⟩ := Cond.arrayClass_spec h
  exact ⟨c, fun n z => ⟨fun k h => (by cases h), k, h2, comp, h3⟩, hra c h1⟩
theorem st_ao {s : State} {C : String} (h : va_AO C s) : ∃ cA, ArrOfT s cA (.object C) ∧ va_RA s cA (.object C) := by
  obtain ⟨comp, c, k, h1, h2, h3, h4, h5⟩ := Cond.arrayOver_spec h
  exact ⟨c, fun n z => ⟨fun k h => (by cases h), k, h3, comp, h4⟩, k, comp, h3, h4, h1, h5⟩
theorem st_aoa {s : State} {args : Array Value} (h : (Cond.arrayOver (.array .int)).before args s = true) : ∃ cA, ArrOfT s cA (.array .int) ∧ va_RA s cA (.array .int) := by
  obtain ⟨comp, c, k, h1, h2, h3, h4, h5⟩ := arrayOverA_spec h
  exact ⟨c, fun n z => ⟨fun k h => (by cases h), k, h3, comp, h4⟩, h5⟩
theorem st_all {s : State} {args : Array Value} (l : Launch) (hts : ∀ w ∈ lw_tbl, w.before args s = true) : ∃ Γ : GmT, Γ.1 = l ∧ (∀ k, Γ.2.1 k = s.heap.size + k) ∧ StB Γ s ∧ StG Γ s := by
  have hG : ∀ w ∈ GW, w.before args s = true := fun w h => hts w (List.mem_filter.mp h).1
  obtain ⟨D, hD⟩ := st_known hG
  have hao : ∀ C ∈ aoL, va_AO C s := fun C h => va_AO.of (hts _ (aol_in C h))
  obtain ⟨c10, a10⟩ := st_arr (hG _ acw_byte) (fun _ h => h)
  obtain ⟨c11, a11⟩ := st_arr (hG _ acw_int) (fun _ h => h)
  obtain ⟨c12, a12⟩ := st_arr (hG _ acw_boolean) (fun _ h => h)
  obtain ⟨c13, a13⟩ := st_ao (hao "RiverTuesdays$Row" (by decide +kernel))
  obtain ⟨c14, a14⟩ := st_ao (hao "RiverTuesdays$Street" (by decide +kernel))
  obtain ⟨c15, a15⟩ := st_ao (hao "RiverTuesdays$Text" (by decide +kernel))
  obtain ⟨c16, a16⟩ := st_ao (hao "RiverTuesdays$Waters" (by decide +kernel))
  obtain ⟨c17, a17⟩ := st_aoa (hts _ aoa_in)
  let Γ : GmT := (l, (fun k => s.heap.size + k), D, fun t => match t with | 10 => c10 | 11 => c11 | 12 => c12 | 13 => c13 | 14 => c14 | 15 => c15 | 16 => c16 | _ => c17)
  have hK : va_K Γ.2.2.1 cCl (tyG Γ) s := by
    refine ⟨hD, fun k q hq => ?_⟩
    match k, hq with
    | 0, hq => cases hq; exact a10
    | 1, hq => cases hq; exact a11
    | 2, hq => cases hq; exact a12
    | 3, hq => cases hq; exact a13
    | 4, hq => cases hq; exact a14
    | 5, hq => cases hq; exact a15
    | 6, hq => cases hq; exact a16
    | 7, hq => cases hq; exact a17
    | k + 8, hq => cases hq
  refine ⟨Γ, rfl, fun k => rfl, ⟨hK, fun q h => va_Nw.of rfl (hts _ (nwl_in q h)), hao, over_moved (Vm.Alike.refl _) (hts _ aoa_in), fun k => ?_⟩, hK, va_Nw.of rfl (hts _ nw1_in), va_Nw.of rfl (hts _ nw2_in), fun i j _ _ h => ?_⟩
  · show s.heap.size + k = s.heap.size + 0 + k
    omega
  · have h : s.heap.size + i = s.heap.size + j := h
    omega
theorem d_law_0 : decode code 0 = .ok (.new 7, 3) := by decide +kernel
theorem d_law_3 : decode code 3 = .ok (.dup, 1) := by decide +kernel
theorem d_law_4 : decode code 4 = .ok (.invokespecial 9, 3) := by decide +kernel
theorem d_law_7 : decode code 7 = .ok (.astore_n 1, 1) := by decide +kernel
theorem d_law_8 : decode code 8 = .ok (.new 10, 3) := by decide +kernel
theorem d_law_11 : decode code 11 = .ok (.dup, 1) := by decide +kernel
theorem d_law_12 : decode code 12 = .ok (.invokespecial 12, 3) := by decide +kernel
theorem d_law_15 : decode code 15 = .ok (.astore_n 2, 1) := by decide +kernel
theorem d_law_16 : decode code 16 = .ok (.iconst 0, 1) := by decide +kernel
theorem d_law_17 : decode code 17 = .ok (.istore_n 3, 1) := by decide +kernel
theorem cl_Root : Cond.classLink R_law 7 yI_Root.cls ∈ GW := (mGW (List.mem_of_getElem? (i := 88) (by decide +kernel)) rfl)
theorem cl_Model : Cond.classLink R_law 10 yI_Model.cls ∈ GW := (mGW (List.mem_of_getElem? (i := 1036) (by decide +kernel)) rfl)
theorem ml_Root : Cond.methodLink R_law 9 yI_Root ∈ lw_tbl := List.mem_of_getElem? (i := 90) (by decide +kernel)
theorem ml_Model : Cond.methodLink R_law 12 yI_Model ∈ lw_tbl := List.mem_of_getElem? (i := 1038) (by decide +kernel)
theorem made_P {Γ : GmT} {H : Heap} (h : PB Γ (fB Γ (fB Γ (bl Γ) 0 176) 176 35) (176 + 35) H) : va_P Γ.2.2.1 cCl (wsG Γ D0) H := fun k q hk => by
  obtain ⟨h1, rfl⟩ := wsG_inv hk
  have h2 := h.1 k h1
  by_cases h3 : 176 ≤ k
  · rw [fB_in h3 (by omega)] at h2; exact h2
  · rw [fB_out (by omega), fB_in (by omega) (by omega)] at h2; exact h2
/-- one object is made in the law -/
theorem w_mkL {p : Program} {e : Env} {s : State} {m : MethodId} {args : Array Value} {below : List Frame} {meth : Method} {c : Code} {H : Heap} {locs : List Loc} {cells slots : Nat} {Q : State → Prop} {Γ : GmT} {pc : Nat} {ls : Array Slot} {E : EB} {n : Nat}
    (hx : p.tables.exec = Jvm.exec) (hb : c.code = code) (hml : c.maxLocals = 4) (hown : s.vm.findClass R_law = some m.cls) (hts : ∀ w ∈ lw_tbl, w.before args s = true) (hSt : StB Γ s) {y : MethodName} {bb : ByteArray} {mL cfr mc1 ms1 N ci ix ix2 sz : Nat} {T : u_T} {ty : Nat → FieldType} (hy : okI y bb mL N ci T ty) (hcl : Cond.classLink R_law ix y.cls ∈ GW) (hw : Cond.methodLink R_law ix2 y ∈ lw_tbl) (hk : kd n = ci) (hsz : 0 < sz) (hE : ∀ k, n ≤ k → k < n + sz → E k = bl Γ k) (hfr : cfr + 1 ≤ 2048 ∧ 8 + (mL + 11) + 40 * cfr ≤ 84000)
    (M : CtB Γ y bb mL cfr mc1 ms1 n sz) (hc : cells + 1 + mc1 ≤ 600000) (hs : slots + N + ms1 ≤ 7302250) (hls : ls.size = 4) (d1 : decode code pc = .ok (.new ix, 3)) (d2 : decode code (pc + 3) = .ok (.dup, 1)) (d3 : decode code (pc + 4) = .ok (.invokespecial ix2, 3)) (hP : PB Γ E n H) (hS : va_S (AB Γ) s.heap H locs)
    (kk : ∀ (H1 : Heap) (locs1 : List Loc), PB Γ (fB Γ E n sz) (n + sz) H1 → va_S (AB Γ) s.heap H1 locs1 → W p Γ.1 e room_1 s m args below meth c H1 locs1 (cells + 1 + mc1) (slots + N + ms1) Q (F0 m (pc + 7) ls [.ref (Γ.2.1 n)])) : W p Γ.1 e room_1 s m args below meth c H locs cells slots Q (F0 m pc ls []) := by
  have hG : ∀ w ∈ GW, w.before args s = true := fun w h => hts w (List.mem_filter.mp h).1
  obtain ⟨⟨y1, y2, y3, y4, y5⟩, y6, y7, y8, y9, y10, y11⟩ := hy
  refine w_newB hx hb hown hG hSt ty y3 y4 y1 hcl y6 y7 ((hE n (by omega) (by omega)).trans (bl_o hk y2)) y5 (Nat.le_trans (Nat.le_add_right _ _) hc) (Nat.le_trans (Nat.le_add_right _ _) hs) hP hS d1 fun H1 hP1 hS1 => ?_
  refine lv_dup hx hb d2 rfl ?_
  exact w_callB (va_runI (As := []) (rest := [.ref (Γ.2.1 n)]) ⟨hx, hb, hml, hown, hts⟩ (M E hE) (cwI 0 hts (gLw y9) rfl rfl rfl (hG _ y7) (hts _ hw) (hG _ y8) y11 y10 hfr) ⟨blindB, fun U hU hW => ⟨rfl, by rw [hU]; exact hP1, hSt.warm hW⟩⟩ rfl rfl hls rfl (lv_room (Nat.le_of_ble_eq_true rfl)) d3 ⟨hc, hs⟩) hS1 kk
theorem whole_from {p : Program} {e : Env} {s : State} {m : MethodId} {below : List Frame} {meth : Method} {c : Code} (l : Launch) (MT : ∀ Γ : GmT, CtB Γ yI_Tuesday prog_8_method_1_code 2 2 67 531 32 68) {b L : Nat} {xs : Nat → Int32} (hL : L ≤ 3072) (C0 : lw_At p s m meth c b L xs) : W p l e room_1 s m #[Value.ref b] below meth c s.heap [] 0 0 (lw_Z below #[Value.ref b] s) (entryFrame m ([Value.ref b] : List Value).toArray 4) := by
  obtain ⟨hx, hb, hr, hml, hown, hts, hX, hbl, hlocks, hgv⟩ := id C0
  obtain ⟨Γ, rfl, hg, hSt, hSG⟩ := st_all l hts
  have hAB : AB Γ = A0 s := by
    funext q
    unfold AB A0
    rw [hg 0]
    rfl
  have hl := lv_entry ([.ref b]) (n := 4) (Nat.le_of_ble_eq_true rfl)
  rw [lg_entry_eq]
  generalize (lg_sl ([.ref b]) ++ List.replicate (4 - (lg_sl ([.ref b])).length) Slot.unset).toArray = ls at hl ⊢
  have hl : lv_has ls 4 [(0, .ref b)] := hl
  refine w_mkL (E := bl Γ) (n := 0) hx hb hml hown hts hSt okI_Root cl_Root ml_Root (by decide +kernel) (by decide) (fun _ _ _ => rfl) ⟨by decide, by decide⟩ (c_Root_init Γ (MT Γ)) (by decide) (by decide) hl.1 d_law_0 d_law_3 d_law_4 ⟨fun k h => absurd h (Nat.not_lt_zero k), (hg 0).symm⟩ va_S.rf fun H locs hP hS => ?_
  refine lv_astore_n (lv' := [(1, .ref (Γ.2.1 0)), (0, .ref b)]) hx hb d_law_7 rfl hl (by decide) rfl (fun ls hl => ?_)
  refine w_mkL (E := fB Γ (bl Γ) 0 176) (n := 176) hx hb hml hown hts hSt okI_Model cl_Model ml_Model (by decide +kernel) (by decide) (fun k h1 h2 => fB_out (Or.inr (by omega))) ⟨by decide, by decide⟩ (c_Model_init Γ) (by decide) (by decide) hl.1 d_law_8 d_law_11 d_law_12 hP hS fun H locs hP hS => ?_
  refine lv_astore_n (lv' := [(2, .ref (Γ.2.1 176)), (1, .ref (Γ.2.1 0)), (0, .ref b)]) hx hb d_law_15 rfl hl (by decide) rfl (fun ls hl => ?_)
  refine lv_iconst (v := zI ((6 * 0 : Nat) : Int)) hx hb d_law_16 rfl ?_
  refine lv_istore_n (lv' := [(3, .int (zI ((6 * 0 : Nat) : Int))), (2, .ref (Γ.2.1 176)), (1, .ref (Γ.2.1 0)), (0, .ref b)]) hx hb d_law_17 rfl hl (by decide) rfl (fun ls hl => ?_)
  rw [hAB] at hS
  refine W.widen (k := 211) (n := 20322) (Nat.le_of_ble_eq_true rfl) (Nat.le_of_ble_eq_true rfl) ?_
  exact law_loop (Γ := Γ) (b := b) (L := L) (xs := xs) (CL := 211) (SL := 20322) ⟨p, e, s, m, below, meth, c, C0, hSG, fun k _ => by rw [hg k]; omega, hL, ⟨by decide, by decide⟩, rfl⟩ 512 0 D0 inv_D0 (by omega) (by omega) H locs ls (made_P hP) hS (lv_sub hl [3, 2, 1, 0] rfl)
