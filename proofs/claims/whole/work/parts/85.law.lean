/-! the law: its context, its rows -/
def R_law : String := "RiverTuesdaysLaw"
def lw_P (b : Addr) (xs : List Int32) (args : Array Value) (s : State) : Prop := args = #[.ref b] ∧ s.IntsAt b xs ∧ xs.length ≤ 3072 ∧ (Jvm.Cond.and given_1 narrow_1).before args s = true
def lw_Q (_ : Array Value) (s : State) (o : Outcome) (t : State) : Prop := o = .returned (some (.int 1)) ∧ Framed s o t [] 600000 7302250
def lw_Z (below : List Frame) (a : Array Value) (s : State) : State → Prop := fun t => ∃ o, t.status = .running ∧ Ended t below o ∧ lw_Q a s o t
/-- the law's own end, with 1 on the stack, nothing written that was there before, its room as the claim has it -/
theorem lw_ret {p : Program} {l : Launch} {e : Env} {s : State} {m : MethodId} {below : List Frame} {meth : Method} {c : Code} {b : Nat} (hx : p.tables.exec = Jvm.exec) (hb : c.code = code) (hr : meth.sig.returnType = ret) (hlocks : meth.locks = false) {pc : Nat} {H : Heap} {ls : Array Slot} (hdg : decode code pc = .ok (.ireturn, 1)) : W p l e room_1 s m #[Value.ref b] below meth c H [] 600000 7302250 (lw_Z below #[Value.ref b] s) (F0 m pc ls [.int 1]) := by
  intro T hT X
  obtain ⟨fs, hret, hrun, hended, hW, hframe⟩ := X.leave (v := some (.int 1)) (hlocks := hlocks) (fun h => by rw [hr] at h; cases h)
  have hmeth' : T.vm.method? m = some meth := X.method'
  refine ⟨T.setFrames fs, ?_, .returned (some (.int 1)), hrun, hended, rfl, ⟨_, rfl⟩, hW, hframe⟩
  jvm_step X.here [X.here.top, hx, hb, hdg, hmeth', hr, ret, narrow_b1]
  (try refine ⟨rfl, ?_⟩); (try refine ⟨rfl, ?_⟩)
  first | (intro acts; rw [hret _ acts rfl rfl rfl]) | rw [hret _ _ rfl rfl rfl]
  exact Steps.refl _
/-- what holds at the law's entry: the machine, the code, the tables' words (any of lw_tbl by 'hts w (by decide +kernel)'), the script of L ints xs at the cell b, what the Statement gives of the start (any of its parts by flat_of_before) -/
def lw_At (p : Program) (s : State) (m : MethodId) (meth : Method) (c : Code) (b L : Nat) (xs : Nat → Int32) : Prop :=
  p.tables.exec = Jvm.exec ∧ c.code = code ∧ meth.sig.returnType = ret ∧ c.maxLocals = 4 ∧ s.vm.findClass R_law = some m.cls ∧ (∀ w ∈ lw_tbl, w.before #[Value.ref b] s = true) ∧ va_X b L xs s s.heap ∧ b < s.heap.size ∧ meth.locks = false ∧ (Jvm.Cond.and given_1 narrow_1).before #[Value.ref b] s = true

theorem gLw {w : Cond} (h : w ∈ GW) : GoodIn lw_tbl (w :: GW) := fun v hv => by
  rcases List.mem_cons.mp hv with e | e
  · subst e; exact ⟨(List.mem_filter.mp h).1, good_of_word (List.mem_filter.mp h).2⟩
  · exact ⟨(List.mem_filter.mp e).1, good_of_word (List.mem_filter.mp e).2⟩
def A0 (s : State) : Nat → Prop := fun q => s.heap.size ≤ q
def LawG (Γ : GmT) (b L : Nat) (xs : Nat → Int32) (CL SL : Nat) (G : Dt → Nat → List (Nat × Value) → List Value → Prop) : Prop :=
  ∃ (p : Program) (e : Env) (s : State) (m : MethodId) (below : List Frame) (meth : Method) (c : Code), lw_At p s m meth c b L xs ∧ StG Γ s ∧ (∀ k, k < 211 → s.heap.size ≤ Γ.2.1 k) ∧ L ≤ 3072 ∧ (CL ≤ 600000 ∧ SL ≤ 7302250) ∧
    G = fun D pc lv st => ∀ (H : Heap) (locs : List Loc) (ls : Array Slot), va_P Γ.2.2.1 cCl (wsG Γ D) H → va_S (A0 s) s.heap H locs → lv_has ls 4 lv → W p Γ.1 e room_1 s m #[Value.ref b] below meth c H locs CL SL (lw_Z below #[Value.ref b] s) (F0 m pc ls st)
section LawRows
variable {Γ : GmT} {b L : Nat} {xs : Nat → Int32} {CL SL : Nat} {G : Dt → Nat → List (Nat × Value) → List Value → Prop} {D : Dt} {pc : Nat} {lv lv' : List (Nat × Value)} {st0 : List Value}
theorem l_aload (C : LawG Γ b L xs CL SL G) {n : Fin 4} {i x : Nat} (q : Nat) (d : decode code pc = .ok (.aload_n n, 1)) (hi : (n : Nat) = i) (hq : lv[q]? = some (i, .ref x)) (k : G D (pc + 1) lv (.ref x :: st0)) : G D pc lv st0 := by
  obtain ⟨p, e, s, m, below, meth, c, ⟨hx, hb, hr, hml, hown, hts, hX, hbl, hlk, hgv⟩, hSt, hA, hL, hcs, rfl⟩ := C
  intro H locs ls hP hS hl
  exact lv_aload_n hx hb d hi (lv_at hl q hq) (k H locs ls hP hS hl)
theorem l_iload (C : LawG Γ b L xs CL SL G) {n : Fin 4} {i : Nat} {x : Int32} (q : Nat) (d : decode code pc = .ok (.iload_n n, 1)) (hi : (n : Nat) = i) (hq : lv[q]? = some (i, .int x)) (k : G D (pc + 1) lv (.int x :: st0)) : G D pc lv st0 := by
  obtain ⟨p, e, s, m, below, meth, c, ⟨hx, hb, hr, hml, hown, hts, hX, hbl, hlk, hgv⟩, hSt, hA, hL, hcs, rfl⟩ := C
  intro H locs ls hP hS hl
  exact lv_iload_n hx hb d hi (lv_at hl q hq) (k H locs ls hP hS hl)
theorem l_iconst (C : LawG Γ b L xs CL SL G) {n : Int} {v : Int32} (d : decode code pc = .ok (.iconst n, 1)) (hv : Int32.ofInt n = v) (k : G D (pc + 1) lv (.int v :: st0)) : G D pc lv st0 := by
  obtain ⟨p, e, s, m, below, meth, c, ⟨hx, hb, hr, hml, hown, hts, hX, hbl, hlk, hgv⟩, hSt, hA, hL, hcs, rfl⟩ := C
  intro H locs ls hP hS hl
  exact lv_iconst hx hb d hv (k H locs ls hP hS hl)
theorem l_bipush (C : LawG Γ b L xs CL SL G) {n : Int} {v : Int32} (d : decode code pc = .ok (.bipush n, 2)) (hv : (Int8.ofInt n).toInt32 = v) (k : G D (pc + 2) lv (.int v :: st0)) : G D pc lv st0 := by
  obtain ⟨p, e, s, m, below, meth, c, ⟨hx, hb, hr, hml, hown, hts, hX, hbl, hlk, hgv⟩, hSt, hA, hL, hcs, rfl⟩ := C
  intro H locs ls hP hS hl
  exact lv_bipush hx hb d hv (k H locs ls hP hS hl)
theorem l_iadd (C : LawG Γ b L xs CL SL G) {x y : Int32} (d : decode code pc = .ok (.iadd, 1)) (k : G D (pc + 1) lv (.int (x + y) :: st0)) : G D pc lv (.int y :: .int x :: st0) := by
  obtain ⟨p, e, s, m, below, meth, c, ⟨hx, hb, hr, hml, hown, hts, hX, hbl, hlk, hgv⟩, hSt, hA, hL, hcs, rfl⟩ := C
  intro H locs ls hP hS hl
  exact lv_iadd hx hb d (k H locs ls hP hS hl)
theorem l_isub (C : LawG Γ b L xs CL SL G) {x y : Int32} (d : decode code pc = .ok (.isub, 1)) (k : G D (pc + 1) lv (.int (x - y) :: st0)) : G D pc lv (.int y :: .int x :: st0) := by
  obtain ⟨p, e, s, m, below, meth, c, ⟨hx, hb, hr, hml, hown, hts, hX, hbl, hlk, hgv⟩, hSt, hA, hL, hcs, rfl⟩ := C
  intro H locs ls hP hS hl
  exact lv_isub hx hb d (k H locs ls hP hS hl)
theorem l_iand (C : LawG Γ b L xs CL SL G) {x y : Int32} (d : decode code pc = .ok (.iand, 1)) (k : G D (pc + 1) lv (.int (x &&& y) :: st0)) : G D pc lv (.int y :: .int x :: st0) := by
  obtain ⟨p, e, s, m, below, meth, c, ⟨hx, hb, hr, hml, hown, hts, hX, hbl, hlk, hgv⟩, hSt, hA, hL, hcs, rfl⟩ := C
  intro H locs ls hP hS hl
  exact lv_iand hx hb d (k H locs ls hP hS hl)
theorem l_sld (C : LawG Γ b L xs CL SL G) {i : Int32} (hin : vp_in i L) (d : decode code pc = .ok (.iaload, 1)) (k : G D (pc + 1) lv (.int (xs i.toNatClampNeg) :: st0)) : G D pc lv (.int i :: .ref b :: st0) := by
  obtain ⟨p, e, s, m, below, meth, c, ⟨hx, hb, hr, hml, hown, hts, hX, hbl, hlk, hgv⟩, hSt, hA, hL, hcs, rfl⟩ := C
  intro H locs ls hP hS hl
  exact va_sld hx hb hX hbl (Nat.not_le.mpr hbl) hS hin d (k H locs ls hP hS hl)
theorem l_slen (C : LawG Γ b L xs CL SL G) (d : decode code pc = .ok (.arraylength, 1)) (k : G D (pc + 1) lv (.int (Int32.ofNat L) :: st0)) : G D pc lv (.ref b :: st0) := by
  obtain ⟨p, e, s, m, below, meth, c, ⟨hx, hb, hr, hml, hown, hts, hX, hbl, hlk, hgv⟩, hSt, hA, hL, hcs, rfl⟩ := C
  intro H locs ls hP hS hl
  exact va_slen hx hb hX hbl (Nat.not_le.mpr hbl) hS d (k H locs ls hP hS hl)
theorem l_goto (C : LawG Γ b L xs CL SL G) {off : Int} {tgt : Nat} (d : decode code pc = .ok (.goto off, 3)) (ht : (pc : Int) + off = (tgt : Int)) (k : G D tgt lv st0) : G D pc lv st0 := by
  obtain ⟨p, e, s, m, below, meth, c, ⟨hx, hb, hr, hml, hown, hts, hX, hbl, hlk, hgv⟩, hSt, hA, hL, hcs, rfl⟩ := C
  intro H locs ls hP hS hl
  exact lv_goto hx hb d ht (k H locs ls hP hS hl)
theorem l_iinc (C : LawG Γ b L xs CL SL G) {i : Nat} {n : Int} {x v : Int32} (q : Nat) (d : decode code pc = .ok (.iinc i n, 3)) (hq : lv[q]? = some (i, .int x)) (hv : x + Int32.ofInt n = v) (hn : i < 4) (hl' : (i, Value.int v) :: lv.filter (fun q => !(q.1 == i) && !(q.1 + 1 == i && q.2.category == 2)) = lv') (k : G D (pc + 3) lv' st0) : G D pc lv st0 := by
  obtain ⟨p, e, s, m, below, meth, c, ⟨hx, hb, hr, hml, hown, hts, hX, hbl, hlk, hgv⟩, hSt, hA, hL, hcs, rfl⟩ := C
  intro H locs ls hP hS hl
  exact lv_iinc hx hb d hl hq hv hn hl' (fun ls hl => k H locs ls hP hS hl)
theorem l_lv (C : LawG Γ b L xs CL SL G) (ks : List Nat) (hl : lv_pick lv ks = lv') (k : G D pc lv' st0) : G D pc lv st0 := by
  obtain ⟨p, e, s, m, below, meth, c, ⟨hx, hb, hr, hml, hown, hts, hX, hbl, hlk, hgv⟩, hSt, hA, hL, hcs, rfl⟩ := C
  intro H locs ls hP hS hv
  exact k H locs ls hP hS (lv_sub hv ks hl)
theorem l_icmpeq (C : LawG Γ b L xs CL SL G) {x : Int32} {off : Int} {tgt : Nat} (d : decode code pc = .ok (.if_icmp .eq off, 3)) (ht : (pc : Int) + off = (tgt : Int)) (k : G D tgt lv st0) : G D pc lv (.int x :: .int x :: st0) := by
  obtain ⟨p, e, s, m, below, meth, c, ⟨hx, hb, hr, hml, hown, hts, hX, hbl, hlk, hgv⟩, hSt, hA, hL, hcs, rfl⟩ := C
  intro H locs ls hP hS hl
  exact lv_icmp_eq hx hb d ht (fun _ => k H locs ls hP hS hl) (fun q => absurd rfl q)
theorem l_icmpgt (C : LawG Γ b L xs CL SL G) {x y : Int32} {off : Int} {tgt : Nat} (d : decode code pc = .ok (.if_icmp .gt off, 3)) (ht : (pc : Int) + off = (tgt : Int)) (kt : y < x → G D tgt lv st0) (kf : ¬ y < x → G D (pc + 3) lv st0) : G D pc lv (.int y :: .int x :: st0) := by
  obtain ⟨p, e, s, m, below, meth, c, ⟨hx, hb, hr, hml, hown, hts, hX, hbl, hlk, hgv⟩, hSt, hA, hL, hcs, rfl⟩ := C
  intro H locs ls hP hS hl
  exact lv_icmp_gt hx hb d ht (fun q => kt q H locs ls hP hS hl) (fun q => kf q H locs ls hP hS hl)
theorem l_lcmpeq (C : LawG Γ b L xs CL SL G) {x : Int64} {off : Int} {tgt : Nat} (d : decode code pc = .ok (.lcmp, 1)) (d2 : decode code (pc + 1) = .ok (.ifCond .eq off, 3)) (ht : ((pc + 1 : Nat) : Int) + off = (tgt : Int)) (k : G D tgt lv st0) : G D pc lv (.long x :: .long x :: st0) := by
  obtain ⟨p, e, s, m, below, meth, c, ⟨hx, hb, hr, hml, hown, hts, hX, hbl, hlk, hgv⟩, hSt, hA, hL, hcs, rfl⟩ := C
  intro H locs ls hP hS hl
  exact W.lcmp hx hb d (lv_if_eq hx hb d2 ht (fun _ => k H locs ls hP hS hl) (fun q => absurd ((lg_eq0 x x).mpr rfl) q))
theorem l_tsOut (C : LawG Γ b L xs CL SL G) {dflt lo hi : Int} {offs : Array Int} {len : Nat} {x : Int32} {tgt : Nat} (d : decode code pc = .ok (.tableswitch dflt lo hi offs, len)) (h : x.toInt < lo ∨ hi < x.toInt) (ht : (pc : Int) + dflt = (tgt : Int)) (k : G D tgt lv st0) : G D pc lv (.int x :: st0) := by
  obtain ⟨p, e, s, m, below, meth, c, ⟨hx, hb, hr, hml, hown, hts, hX, hbl, hlk, hgv⟩, hSt, hA, hL, hcs, rfl⟩ := C
  intro H locs ls hP hS hl
  exact lv_tableOut hx hb d h ht (k H locs ls hP hS hl)
theorem l_tsIn (C : LawG Γ b L xs CL SL G) {dflt lo hi : Int} {offs : Array Int} {len : Nat} {x : Int32} {off : Int} {tgt : Nat} (d : decode code pc = .ok (.tableswitch dflt lo hi offs, len)) (h1 : ¬ x.toInt < lo) (h2 : ¬ hi < x.toInt) (ho : offs[(x.toInt - lo).toNat]? = some off) (ht : (pc : Int) + off = (tgt : Int)) (k : G D tgt lv st0) : G D pc lv (.int x :: st0) := by
  obtain ⟨p, e, s, m, below, meth, c, ⟨hx, hb, hr, hml, hown, hts, hX, hbl, hlk, hgv⟩, hSt, hA, hL, hcs, rfl⟩ := C
  intro H locs ls hP hS hl
  exact lv_tableIn hx hb d h1 h2 ho ht (k H locs ls hP hS hl)
theorem w_callL {p : Program} {e : Env} {R : Room} {s : State} {m : MethodId} {args : Array Value} {below : List Frame} {meth : Method} {c : Code} {H : Heap} {locs : List Loc} {Q : State → Prop} {ls : Array Slot} {st1 rest : List Value} {a : Array Value} {rv : Option Value} {D1 : Dt} {A : Nat → Prop}
    (hr : va_Run p Γ.1 e R s m args below meth c H locs CL SL 0 0 (F0 m pc ls st1) rest (QG Γ rv D1 a) (AG Γ)) (hAA : ∀ q, AG Γ q → A q) (hS : va_S A s.heap H locs)
    (kk : ∀ (H1 : Heap) (locs1 : List Loc), va_P Γ.2.2.1 cCl (wsG Γ D1) H1 → va_S A s.heap H1 locs1 → W p Γ.1 e R s m args below meth c H1 locs1 CL SL Q (F0 m (pc + 3) ls (rv.toList ++ rest))) : W p Γ.1 e R s m args below meth c H locs CL SL Q (F0 m pc ls st1) := by
  intro T hT X
  obtain ⟨v, st₀, t, T', Lc, h0, X', hL, e1, e2, ⟨hv, hp, hz, hk⟩, stp⟩ := hr T hT X
  have hv : v = rv := by cases hv; rfl
  subst hv
  rw [h0] at hz hk
  obtain ⟨t2, a1, b1⟩ := kk T'.heap (locs ++ Lc) (by rw [e1]; exact hp)
    ⟨Nat.le_trans hS.1 (by rw [e1]; exact hz), fun q h1 h2 => by rw [e1, hk q (Nat.lt_of_lt_of_le h1 hS.1) (fun z => h2 (hAA q z))]; exact hS.2.1 q h1 h2, fun q hq => by
      rcases List.mem_append.mp hq with h | h
      · exact hS.2.2 q h
      · exact hAA _ (hL q h)⟩ T' rfl X'
  exact ⟨t2, stp t2 a1, b1⟩
theorem l_call (C : LawG Γ b L xs CL SL G) {y : MethodName} {bb : ByteArray} {mL cfr n ci ix a : Nat} {crt : Option FieldType} {As rest : List Value} {rv : Option Value} {D1 : Dt}
    (hy : okV y bb mL crt n ci) (hw : Cond.methodLink R_law ix y ∈ lw_tbl) (ha : kd a = ci) (hci : ci < 10) (hfr : cfr + 1 ≤ 2048 ∧ 8 + (mL + 11) + 40 * cfr ≤ 84000) (hn : As.length = n) (hst : st0 = As.reverse ++ .ref (Γ.2.1 a) :: rest) (hcat : (rest.map fun v => v.category).sum ≤ 8)
    (d : decode code pc = .ok (.invokevirtual ix, 3)) (M : Mt Γ y bb mL crt cfr (.ref (Γ.2.1 a) :: As) D rv D1)
    (k : G D1 (pc + 3) lv (rv.toList ++ rest)) : G D pc lv st0 := by
  obtain ⟨p, e, s, m, below, meth, c, ⟨hx, hb, hr, hml, hown, hts, hX, hbl, hlk, hgv⟩, hSt, hA, hL, hcs, rfl⟩ := C
  intro H locs ls hP hS hl
  obtain ⟨y1, y2, y3, y4, y5, y6⟩ := hy
  have hG : ∀ w ∈ GW, w.before #[Value.ref b] s = true := fun w h => hts w (List.mem_filter.mp h).1
  have cb : CallW room_1 s #[Value.ref b] R_law y.cls ix y bb mL crt (Cond.code y bb mL crt :: GW) (rmG cfr) 0 0 n := ⟨callB_of n hts (gLw y4) rfl rfl rfl (hG _ y3) (hts _ hw) y5 hfr, hG _ y1, hG _ y2⟩
  have hrec : ∃ cellB : Cell, H[Γ.2.1 a]? = some cellB ∧ cellB.vm.isStatics = false ∧ s.vm.findClass y.cls = some cellB.cls := by
    obtain ⟨q, hq, hq2⟩ := Option.map_eq_some_iff.mp y6
    have he : ∃ fs, enc Γ (D a) a = .inr (ci, fs) := by
      subst ha
      unfold enc
      rcases (show kd a = 0 ∨ kd a = 1 ∨ kd a = 2 ∨ kd a = 3 ∨ kd a = 4 ∨ kd a = 5 ∨ kd a = 6 ∨ kd a = 7 ∨ kd a = 8 ∨ kd a = 9 by omega) with h | h | h | h | h | h | h | h | h | h <;> rw [h] <;> exact ⟨_, rfl⟩
    obtain ⟨fs, he⟩ := he
    have h3 := va_recv hSt.1 hP hq (q0 := a) ((wsG_at Γ D (kd_lt (by omega))).trans (by rw [he]))
    rw [hq2] at h3
    exact h3
  refine w_callL (va_runV (As := As) (rest := rest) ⟨hx, hb, hml, hown, hts⟩ M cb ⟨blindG, hrec, fun U hU hW => ⟨rfl, by rw [hU]; exact hP, hSt.warm hW⟩⟩ rfl hn hl.1 hst (lv_room hcat) d ⟨hcs.1, hcs.2⟩) (fun q hq => by obtain ⟨k, hk, rfl⟩ := hq; exact hA k hk) hS (fun H1 locs1 hP1 hS1 => k H1 locs1 ls hP1 hS1 hl)
theorem l_end (C : LawG Γ b L xs CL SL G) (d : decode code pc = .ok (.ireturn, 1)) : G D pc lv [.int 1] := by
  obtain ⟨p, e, s, m, below, meth, c, ⟨hx, hb, hr, hml, hown, hts, hX, hbl, hlk, hgv⟩, hSt, hA, hL, hcs, rfl⟩ := C
  intro H locs ls hP hS hl
  refine va_forget (fun q hq => hS.2.2 q hq) ?_
  refine W.widen (k := 600000) (n := 7302250) hcs.1 hcs.2 ?_
  exact lw_ret hx hb hr hlk d
/-- an argument out of the script -/
theorem l_arg (C : LawG Γ b L xs CL SL G) {i kv : Int32} {k : Int} (d0 : decode code pc = .ok (.aload_n 0, 1)) (d1 : decode code (pc + 1) = .ok (.iload_n 3, 1)) (d2 : decode code (pc + 2) = .ok (.iconst k, 1)) (hv : Int32.ofInt k = kv) (d3 : decode code (pc + 3) = .ok (.iadd, 1)) (d4 : decode code (pc + 4) = .ok (.iaload, 1)) (h0 : lv[0]? = some (0, .ref b)) (h3 : lv[3]? = some (3, .int i)) (hin : vp_in (i + kv) L) (kk : G D (pc + 5) lv (.int (xs (i + kv).toNatClampNeg) :: st0)) : G D pc lv st0 := by
  refine l_aload C 0 d0 rfl h0 ?_
  refine l_iload C 3 d1 rfl h3 ?_
  refine l_iconst C d2 hv ?_
  refine l_iadd C d3 ?_
  exact l_sld C hin d4 kk
end LawRows
def lvL (Γ : GmT) (b : Nat) (i : Int32) : List (Nat × Value) := [(0, .ref b), (1, .ref (Γ.2.1 0)), (2, .ref (Γ.2.1 176)), (3, .int i)]
