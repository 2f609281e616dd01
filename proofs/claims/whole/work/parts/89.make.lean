/-! the making of the world: what stands at which cell while it is made; the rows -/
abbrev EB : Type := Nat → va_E
def PB (Γ : GmT) (E : EB) (n : Nat) (H : Heap) : Prop := (∀ k, k < n → va_at Γ.2.2.1 cCl (Γ.2.1 k, E k) H) ∧ H.size = Γ.2.1 n
def AB (Γ : GmT) : Nat → Prop := fun q => Γ.2.1 0 ≤ q
def NWL : List (String × Nat × MethodName) := [("RiverTuesdays", 23, ⟨"RiverTuesdays$Street", "<init>", "()V"⟩), ("RiverTuesdays$Street", 11, ⟨"RiverTuesdays$Bed", "<init>", "()V"⟩), ("RiverTuesdays$Street", 20, ⟨"RiverTuesdays$Waters", "<init>", "()V"⟩), ("RiverTuesdays", 38, ⟨"RiverTuesdays$Bed", "<init>", "()V"⟩), ("RiverTuesdays", 45, ⟨"RiverTuesdays$Waters", "<init>", "()V"⟩), ("RiverTuesdays$Tuesday", 29, ⟨"RiverTuesdays$Waters", "<init>", "()V"⟩), ("RiverTuesdays", 59, ⟨"RiverTuesdays$Fits", "<init>", "()V"⟩), ("RiverTuesdays", 66, ⟨"RiverTuesdays$Jobs", "<init>", "()V"⟩), ("RiverTuesdays", 78, ⟨"RiverTuesdays$Row", "<init>", "()V"⟩), ("RiverTuesdays", 79, ⟨"RiverTuesdays$Text", "<init>", "()V"⟩)]
def aoL : List String := ["RiverTuesdays$Row", "RiverTuesdays$Street", "RiverTuesdays$Text", "RiverTuesdays$Waters"]
def StB (Γ : GmT) (U : State) : Prop := va_K Γ.2.2.1 cCl (tyG Γ) U ∧ (∀ q ∈ NWL, va_Nw (.methodLinkNest q.1 q.2.1 q.2.2 "RiverTuesdays") U) ∧ (∀ C ∈ aoL, va_AO C U) ∧ (Cond.arrayOver (.array .int)).before #[] U = true ∧ ∀ k, Γ.2.1 k = Γ.2.1 0 + k
theorem StB.warm {Γ : GmT} {s U : State} (hW : s.WarmedH U.vm) (h : StB Γ s) : StB Γ U := ⟨va_K.moved hW.alike h.1, fun q hq => va_Nw.warmM hW (h.2.1 q hq), fun C hC => va_AO.moved hW.alike (h.2.2.1 C hC), over_moved hW.alike h.2.2.2.1, h.2.2.2.2⟩
theorem PB_push {Γ : GmT} {E : EB} {n : Nat} {H H1 : Heap} (hg : ∀ k, Γ.2.1 k = Γ.2.1 0 + k) (h : PB Γ E n H) (hz : H1.size = H.size + 1) (hk : ∀ q, q < H.size → H1[q]? = H[q]?) (ha : va_at Γ.2.2.1 cCl (Γ.2.1 n, E n) H1) : PB Γ E (n + 1) H1 := by
  refine ⟨fun k hk1 => ?_, by rw [hz, h.2, hg (n + 1), hg n]; omega⟩
  by_cases e : k = n
  · subst e; exact ha
  · have h1 := h.1 k (by omega)
    exact h1.kept (hk _ h1.lt)
def oB (E : EB) (a : Nat) (x : va_E) : EB := fun k => if k = a then x else E k
theorem oB_eq (E : EB) (a : Nat) (x : va_E) : oB E a x a = x := if_pos rfl
theorem oB_ne {E : EB} {a k : Nat} {x : va_E} (h : k ≠ a) : oB E a x k = E k := if_neg h
theorem oB_idem (E : EB) (a : Nat) (x y : va_E) : oB (oB E a x) a y = oB E a y := by
  funext k
  by_cases h : k = a
  · subst h; rw [oB_eq, oB_eq]
  · rw [oB_ne h, oB_ne h, oB_ne h]
theorem oB_comm {E : EB} {a b : Nat} (h : a ≠ b) (x y : va_E) : oB (oB E a x) b y = oB (oB E b y) a x := by
  funext k
  by_cases h1 : k = a
  · subst h1; rw [oB_ne h, oB_eq, oB_eq]
  · by_cases h2 : k = b
    · subst h2; rw [oB_eq, oB_ne h1, oB_eq]
    · rw [oB_ne h2, oB_ne h1, oB_ne h1, oB_ne h2]
theorem oB_self {E : EB} {a : Nat} {x : va_E} (h : E a = x) : oB E a x = E := by
  funext k
  by_cases h1 : k = a
  · subst h1; rw [oB_eq, h]
  · rw [oB_ne h1]
theorem PB_set {Γ : GmT} {E : EB} {n a : Nat} {x : va_E} {H H1 : Heap} (hg : ∀ k, Γ.2.1 k = Γ.2.1 0 + k) (h : PB Γ E n H) (hz : H1.size = H.size) (hk : ∀ q, q ≠ Γ.2.1 a → H1[q]? = H[q]?) (ha : va_at Γ.2.2.1 cCl (Γ.2.1 a, x) H1) : PB Γ (oB E a x) n H1 := by
  refine ⟨fun k hk1 => ?_, by rw [hz, h.2]⟩
  by_cases e : k = a
  · subst e; rw [oB_eq]; exact ha
  · rw [oB_ne e]
    have h1 := h.1 k hk1
    refine h1.kept (hk _ (fun q => e ?_))
    have q : Γ.2.1 k = Γ.2.1 a := q
    rw [hg k, hg a] at q; omega
def QB (Γ : GmT) (E' : EB) (n' : Nat) : Array Value → State → Outcome → State → Prop := fun _ s o t => o = .returned none ∧ PB Γ E' n' t.heap ∧ va_F (AB Γ) s t
def rmB (fr mc ms : Nat) : Room := { frames := fr, cells := mc, slots := ms, locals := 40 * fr }
def MtB (Γ : GmT) (y : MethodName) (b : ByteArray) (mL fr mc ms : Nat) (av : List Value) (E : EB) (n : Nat) (E' : EB) (n' : Nat) : Prop :=
  Met Γ.1 y (Cond.code y b mL none :: GW) (rmB fr mc ms) (va_Pc av (fun U => PB Γ E n U.heap ∧ StB Γ U)) (QB Γ E' n') mc ms (AB Γ)
theorem blindB {Γ : GmT} {av : List Value} {E : EB} {n : Nat} : FrameBlind (va_Pc av (fun U => PB Γ E n U.heap ∧ StB Γ U)) := fun a U g mk q => by
  obtain ⟨q0, qP, q1, q2, q3, q4, q5⟩ := q
  exact ⟨q0, qP, va_K.moved (u := U) (U := U.calling g mk a) (Vm.Alike.refl U.vm) q1, fun w hw => va_Nw.same rfl rfl (q2 w hw), fun C hC => va_AO.moved (u := U) (U := U.calling g mk a) (Vm.Alike.refl U.vm) (q3 C hC), over_moved (u := U) (E := U.calling g mk a) (Vm.Alike.refl U.vm) q4, q5⟩
section MakeW
variable {p : Program} {e : Env} {R : Room} {s : State} {m : MethodId} {args : Array Value} {below : List Frame} {meth : Method} {c : Code} {H : Heap} {locs : List Loc} {cells slots : Nat} {Q : State → Prop} {Γ : GmT} {own : String} {cc : ByteArray} {nL : Nat} {pc : Nat} {ls : Array Slot} {rest : List Value} {E : EB} {n : Nat}
theorem w_newB (hx : p.tables.exec = Jvm.exec) (hb : c.code = cc) (hown : s.vm.findClass own = some m.cls) (hts : ∀ w ∈ GW, w.before args s = true) (hSt : StB Γ s) {C : String} {T : u_T} {N ci ix : Nat} {fs : List Value} (ty : Nat → FieldType) (hin : ∀ w ∈ u_ws C T N, w ∈ GW) (hty : ∀ k, k < N → parseFieldDescriptor (T k).2.2.1 = some (ty k)) (hc : cCl[ci]? = some (C, T, N)) (hcl : Cond.classLink own ix C ∈ GW) (hins : Cond.instantiable C N ∈ GW) (hini : Cond.initialized C ∈ GW) (hE : E n = .inr (ci, fs)) (hfs : ∀ j, j < N → defaultValue (ty j) = vp_V fs j)
    (hcells : cells + 1 ≤ R.cells) (hslots : slots + N ≤ R.slots) (hP : PB Γ E n H) (hS : va_S (AB Γ) s.heap H locs) (d : decode cc pc = .ok (.new ix, 3))
    (kk : ∀ H1, PB Γ E (n + 1) H1 → va_S (AB Γ) s.heap H1 locs → W p Γ.1 e R s m args below meth c H1 locs (cells + 1) (slots + N) Q (F0 m (pc + 3) ls (.ref (Γ.2.1 n) :: rest))) : W p Γ.1 e R s m args below meth c H locs cells slots Q (F0 m pc ls rest) := by
  have hKn := hSt.1.1 ci _ hc
  refine W.newcK hx hb hown (hts _ hcl) (hts _ hins) (hts _ hini) rfl d hcells hslots hKn.2.1 hP.2 fun H1 kC hkC e1 z1 o1 => ?_
  refine kk H1 (PB_push hSt.2.2.2.2 hP (by rw [z1, hP.2]) (fun q hq => o1 q (by rw [← hP.2]; exact hq)) ?_) ⟨Nat.le_trans hS.1 (by rw [z1, ← hP.2]; omega), fun q h1 h2 => (o1 q (by rw [← hP.2]; exact Nat.lt_of_lt_of_le h1 hS.1)).trans (hS.2.1 q h1 h2), hS.2.2⟩
  rw [hE]
  exact ⟨_, hc, (u_born ty hts hin hKn hkC e1 hty).to hfs⟩
theorem w_callB {H : Heap} {st1 : List Value} {a : Array Value} {E' : EB} {n' mc ms : Nat}
    (hr : va_Run p Γ.1 e R s m args below meth c H locs cells slots mc ms (F0 m pc ls st1) rest (QB Γ E' n' a) (AB Γ)) (hS : va_S (AB Γ) s.heap H locs)
    (kk : ∀ (H1 : Heap) (locs1 : List Loc), PB Γ E' n' H1 → va_S (AB Γ) s.heap H1 locs1 → W p Γ.1 e R s m args below meth c H1 locs1 (cells + mc) (slots + ms) Q (F0 m (pc + 3) ls rest)) : W p Γ.1 e R s m args below meth c H locs cells slots Q (F0 m pc ls st1) := by
  intro T hT X
  obtain ⟨v, st₀, t, T', Lc, h0, X', hL, e1, e2, ⟨hv, hp, hz, hk⟩, stp⟩ := hr T hT X
  have hv : v = none := by cases hv; rfl
  subst hv
  rw [h0] at hz hk
  obtain ⟨t2, a1, b1⟩ := kk T'.heap (locs ++ Lc) (by rw [e1]; exact hp)
    ⟨Nat.le_trans hS.1 (by rw [e1]; exact hz), fun q h1 h2 => by rw [e1, hk q (Nat.lt_of_lt_of_le h1 hS.1) h2]; exact hS.2.1 q h1 h2, fun q hq => by
      rcases List.mem_append.mp hq with h | h
      · exact hS.2.2 q h
      · exact hL q h⟩ T' rfl X'
  exact ⟨t2, stp t2 a1, b1⟩
end MakeW
def CxB (Γ : GmT) (own : String) (cc : ByteArray) (nL fr mc ms : Nat) (E' : EB) (n' : Nat) (G : EB → Nat → Nat → Nat → Nat → List (Nat × Value) → List Value → Prop) : Prop :=
  ∃ (p : Program) (e : Env) (s : State) (m : MethodId) (args : Array Value) (below : List Frame) (meth : Method) (c : Code), p.tables.exec = Jvm.exec ∧ c.code = cc ∧ c.maxLocals = nL ∧ meth.sig.returnType = none ∧ meth.locks = false ∧ meth.name = "<init>" ∧ s.vm.findClass own = some m.cls ∧ (∀ w ∈ GW, w.before args s = true) ∧ StB Γ s ∧
    G = fun E n cs ss pc lv st => ∀ (H : Heap) (locs : List Loc) (ls : Array Slot), PB Γ E n H → va_S (AB Γ) s.heap H locs → lv_has ls nL lv → W p Γ.1 e (rmB fr mc ms) s m args below meth c H locs cs ss (MQ below (QB Γ E' n') args s mc ms (AB Γ)) (F0 m pc ls st)
theorem MtB_of {Γ : GmT} {y : MethodName} {b : ByteArray} {mL fr mc ms : Nat} {av : List Value} {E E' : EB} {n n' : Nat} (hy : plainName y.cls = true) (hyn : y.name = "<init>") (hl : (lg_sl av).length ≤ mL)
    (k : ∀ G, CxB Γ y.cls b mL fr mc ms E' n' G → G E n 0 0 0 (lv_args 0 av) []) : MtB Γ y b mL fr mc ms av E n E' n' := by
  refine Met.ofW (cc := b) (maxL := mL) (ret := none) hy rfl ?_
  intro p e s m args below meth c s₁ B hml hv
  obtain ⟨rfl, hP, hSt⟩ := hv
  have hx := B.exec
  have hb := B.bytes
  have hr := B.returns
  have hts := atoms_spec (ws := Cond.code y b mL none :: GW) B.pre
  have hown : s.vm.findClass y.cls = some m.cls := findClass_of_methodNamed B.named
  have hlocks := B.notSynchronized
  have hin : meth.name = "<init>" := (name_of_methodNamed B.named B.method).1.trans hyn
  have h := k _ ⟨p, e, s, m, av.toArray, below, meth, c, hx, hb, hml, hr, hlocks, hin, hown, fun w hw => hts w (List.mem_cons_of_mem _ hw), hSt, rfl⟩
  rw [lg_entry_eq]
  exact h s.heap [] _ hP va_S.rf (lv_entry av hl)
section MakeRows
variable {Γ : GmT} {own : String} {cc : ByteArray} {nL fr mc ms : Nat} {E' : EB} {n' : Nat} {G : EB → Nat → Nat → Nat → Nat → List (Nat × Value) → List Value → Prop} {E : EB} {n cs ss pc : Nat} {lv lv' : List (Nat × Value)} {st0 : List Value}
theorem b_aload (C : CxB Γ own cc nL fr mc ms E' n' G) {k : Fin 4} {i x : Nat} (q : Nat) (d : decode cc pc = .ok (.aload_n k, 1)) (hi : (k : Nat) = i) (hq : lv[q]? = some (i, .ref x)) (kk : G E n cs ss (pc + 1) lv (.ref x :: st0)) : G E n cs ss pc lv st0 := by
  obtain ⟨p, e, s, m, args, below, meth, c, hx, hb, hml, hr, hlk, hin, hown, hts, hSt, rfl⟩ := C
  intro H locs ls hP hS hl
  exact lv_aload_n hx hb d hi (lv_at hl q hq) (kk H locs ls hP hS hl)
theorem b_iload (C : CxB Γ own cc nL fr mc ms E' n' G) {k : Fin 4} {i : Nat} {x : Int32} (q : Nat) (d : decode cc pc = .ok (.iload_n k, 1)) (hi : (k : Nat) = i) (hq : lv[q]? = some (i, .int x)) (kk : G E n cs ss (pc + 1) lv (.int x :: st0)) : G E n cs ss pc lv st0 := by
  obtain ⟨p, e, s, m, args, below, meth, c, hx, hb, hml, hr, hlk, hin, hown, hts, hSt, rfl⟩ := C
  intro H locs ls hP hS hl
  exact lv_iload_n hx hb d hi (lv_at hl q hq) (kk H locs ls hP hS hl)
theorem b_iconst (C : CxB Γ own cc nL fr mc ms E' n' G) {k : Int} {v : Int32} (d : decode cc pc = .ok (.iconst k, 1)) (hv : Int32.ofInt k = v) (kk : G E n cs ss (pc + 1) lv (.int v :: st0)) : G E n cs ss pc lv st0 := by
  obtain ⟨p, e, s, m, args, below, meth, c, hx, hb, hml, hr, hlk, hin, hown, hts, hSt, rfl⟩ := C
  intro H locs ls hP hS hl
  exact lv_iconst hx hb d hv (kk H locs ls hP hS hl)
theorem b_bipush (C : CxB Γ own cc nL fr mc ms E' n' G) {k : Int} {v : Int32} (d : decode cc pc = .ok (.bipush k, 2)) (hv : (Int8.ofInt k).toInt32 = v) (kk : G E n cs ss (pc + 2) lv (.int v :: st0)) : G E n cs ss pc lv st0 := by
  obtain ⟨p, e, s, m, args, below, meth, c, hx, hb, hml, hr, hlk, hin, hown, hts, hSt, rfl⟩ := C
  intro H locs ls hP hS hl
  exact lv_bipush hx hb d hv (kk H locs ls hP hS hl)
theorem b_sipush (C : CxB Γ own cc nL fr mc ms E' n' G) {k : Int} {v : Int32} (d : decode cc pc = .ok (.sipush k, 3)) (hv : (Int16.ofInt k).toInt32 = v) (kk : G E n cs ss (pc + 3) lv (.int v :: st0)) : G E n cs ss pc lv st0 := by
  obtain ⟨p, e, s, m, args, below, meth, c, hx, hb, hml, hr, hlk, hin, hown, hts, hSt, rfl⟩ := C
  intro H locs ls hP hS hl
  exact lv_sipush hx hb d hv (kk H locs ls hP hS hl)
theorem b_goto (C : CxB Γ own cc nL fr mc ms E' n' G) {off : Int} {tgt : Nat} (d : decode cc pc = .ok (.goto off, 3)) (ht : (pc : Int) + off = (tgt : Int)) (kk : G E n cs ss tgt lv st0) : G E n cs ss pc lv st0 := by
  obtain ⟨p, e, s, m, args, below, meth, c, hx, hb, hml, hr, hlk, hin, hown, hts, hSt, rfl⟩ := C
  intro H locs ls hP hS hl
  exact lv_goto hx hb d ht (kk H locs ls hP hS hl)
theorem b_istore (C : CxB Γ own cc nL fr mc ms E' n' G) {k : Fin 4} {i : Nat} {x : Int32} (d : decode cc pc = .ok (.istore_n k, 1)) (hi : (k : Nat) = i) (hn : i < nL) (hl' : (i, Value.int x) :: lv.filter (fun q => !(q.1 == i) && !(q.1 + 1 == i && q.2.category == 2)) = lv') (kk : G E n cs ss (pc + 1) lv' st0) : G E n cs ss pc lv (.int x :: st0) := by
  obtain ⟨p, e, s, m, args, below, meth, c, hx, hb, hml, hr, hlk, hin, hown, hts, hSt, rfl⟩ := C
  intro H locs ls hP hS hl
  exact lv_istore_n hx hb d hi hl hn hl' (fun ls hl => kk H locs ls hP hS hl)
theorem b_iinc (C : CxB Γ own cc nL fr mc ms E' n' G) {i : Nat} {k : Int} {x v : Int32} (q : Nat) (d : decode cc pc = .ok (.iinc i k, 3)) (hq : lv[q]? = some (i, .int x)) (hv : x + Int32.ofInt k = v) (hn : i < nL) (hl' : (i, Value.int v) :: lv.filter (fun q => !(q.1 == i) && !(q.1 + 1 == i && q.2.category == 2)) = lv') (kk : G E n cs ss (pc + 3) lv' st0) : G E n cs ss pc lv st0 := by
  obtain ⟨p, e, s, m, args, below, meth, c, hx, hb, hml, hr, hlk, hin, hown, hts, hSt, rfl⟩ := C
  intro H locs ls hP hS hl
  exact lv_iinc hx hb d hl hq hv hn hl' (fun ls hl => kk H locs ls hP hS hl)
theorem b_icmpge (C : CxB Γ own cc nL fr mc ms E' n' G) {x y : Int32} {off : Int} {tgt : Nat} (d : decode cc pc = .ok (.if_icmp .ge off, 3)) (ht : (pc : Int) + off = (tgt : Int)) (kt : y ≤ x → G E n cs ss tgt lv st0) (kf : ¬ y ≤ x → G E n cs ss (pc + 3) lv st0) : G E n cs ss pc lv (.int y :: .int x :: st0) := by
  obtain ⟨p, e, s, m, args, below, meth, c, hx, hb, hml, hr, hlk, hin, hown, hts, hSt, rfl⟩ := C
  intro H locs ls hP hS hl
  exact lv_icmp_ge hx hb d ht (fun q => kt q H locs ls hP hS hl) (fun q => kf q H locs ls hP hS hl)
theorem b_icmpgt (C : CxB Γ own cc nL fr mc ms E' n' G) {x y : Int32} {off : Int} {tgt : Nat} (d : decode cc pc = .ok (.if_icmp .gt off, 3)) (ht : (pc : Int) + off = (tgt : Int)) (kt : y < x → G E n cs ss tgt lv st0) (kf : ¬ y < x → G E n cs ss (pc + 3) lv st0) : G E n cs ss pc lv (.int y :: .int x :: st0) := by
  obtain ⟨p, e, s, m, args, below, meth, c, hx, hb, hml, hr, hlk, hin, hown, hts, hSt, rfl⟩ := C
  intro H locs ls hP hS hl
  exact lv_icmp_gt hx hb d ht (fun q => kt q H locs ls hP hS hl) (fun q => kf q H locs ls hP hS hl)
theorem b_lv (C : CxB Γ own cc nL fr mc ms E' n' G) (ks : List Nat) (hl : lv_pick lv ks = lv') (kk : G E n cs ss pc lv' st0) : G E n cs ss pc lv st0 := by
  obtain ⟨p, e, s, m, args, below, meth, c, hx, hb, hml, hr, hlk, hin, hown, hts, hSt, rfl⟩ := C
  intro H locs ls hP hS hv
  exact kk H locs ls hP hS (lv_sub hv ks hl)
theorem b_widen (C : CxB Γ own cc nL fr mc ms E' n' G) {cs1 ss1 : Nat} (h1 : cs ≤ cs1) (h2 : ss ≤ ss1) (kk : G E n cs1 ss1 pc lv st0) : G E n cs ss pc lv st0 := by
  obtain ⟨p, e, s, m, args, below, meth, c, hx, hb, hml, hr, hlk, hin, hown, hts, hSt, rfl⟩ := C
  intro H locs ls hP hS hl
  exact W.widen h1 h2 (kk H locs ls hP hS hl)
theorem b_objInit (C : CxB Γ own cc nL fr mc ms E' n' G) {ix x : Nat} (hw : Cond.methodLink own ix objectInit ∈ GW) (hfr : 1 ≤ fr) (hi : Cond.instanceMethod objectInit ∈ GW) (hcd : Cond.code objectInit ⟨#[0xb1]⟩ 1 none ∈ GW) (d : decode cc pc = .ok (.invokespecial ix, 3)) (kk : G E n cs ss (pc + 3) lv []) : G E n cs ss pc lv [.ref x] := by
  obtain ⟨p, e, s, m, args, below, meth, c, hx, hb, hml, hr, hlk, hin, hown, hts, hSt, rfl⟩ := C
  intro H locs ls hP hS hl
  refine W.objInit hx hb hown (hts _ hw) (hts _ hi) (hts _ hcd) rfl (by rw [hml]; exact hl.1) rfl d hfr ?_ (kk H locs ls hP hS hl)
  show 2 * 0 + 0 + 12 ≤ 40 * fr
  omega
theorem b_ret (C : CxB Γ own cc nL fr mc ms E' n' G) (hc : cs ≤ mc) (hs : ss ≤ ms) (hn : n = n') (hE : ∀ k, k < n' → E k = E' k) (d : decode cc pc = .ok (.return_, 1)) : G E n cs ss pc lv [] := by
  obtain ⟨p, e, s, m, args, below, meth, c, hx, hb, hml, hr, hlk, hin, hown, hts, hSt, rfl⟩ := C
  intro H locs ls hP hS hl
  subst hn
  refine W.widen hc hs ?_
  exact W.vret hx hb hr (fun t ht hW => ⟨rfl, by rw [ht]; exact ⟨fun k hk => by rw [← hE k hk]; exact hP.1 k hk, hP.2⟩, hS.F ht⟩) hS.2.2 d
theorem b_get (C : CxB Γ own cc nL fr mc ms E' n' G) {a ci ix : Nat} {cN : String} {T : u_T} {N : Nat} {fs : List Value} {v : Value} {fnm fds : String} (he : E a = .inr (ci, fs)) (ha : a < n) (hc : cCl[ci]? = some (cN, T, N)) (hW : ∀ w ∈ u_ws cN T N, w ∈ GW) (j : Nat) (hj : j < N) (hT : T j = (cN, fnm, fds, (T j).2.2.2)) (hv : fs[j]? = some v) (hw : Cond.fieldLink own ix cN fnm fds ∈ GW) (d : decode cc pc = .ok (.getfield ix, 3)) (kk : G E n cs ss (pc + 3) lv (v :: st0)) : G E n cs ss pc lv (.ref (Γ.2.1 a) :: st0) := by
  obtain ⟨p, e, s, m, args, below, meth, c, hx, hb, hml, hr, hlk, hin, hown, hts, hSt, rfl⟩ := C
  intro H locs ls hP hS hl
  have e1 : (T j).1 = cN := by rw [hT]
  have e2 : (T j).2.1 = fnm := by rw [hT]
  have e3 : (T j).2.2.1 = fds := by rw [hT]
  have hat := hP.1 a ha
  rw [he] at hat
  have hP1 : va_P Γ.2.2.1 cCl [(Γ.2.1 a, .inr (ci, fs))] H := fun k q hk => by
    have h0 : k < 1 := (List.getElem?_eq_some_iff.mp hk).1
    rw [show k = 0 by omega] at hk
    cases hk
    exact hat
  exact va_get (C := cN) (T := T) (N := N) (ref := cN) hx hb hts hW hown hSt.1 hP1 0 rfl hc j hj (by rw [e2, e3]; exact hts _ hw) (fun x h => by rw [e1] at h; exact h) hv d (kk H locs ls hP hS hl)
/-- a final field of the object itself is written -/
theorem b_putF (C : CxB Γ own cc nL fr mc ms E' n' G) {b ci ix : Nat} {T : u_T} {N : Nat} {fs : List Value} {v : Value} {fnm fds : String} {ty : FieldType} {Y : Nat → FieldType} (ha : b < n) (hc : cCl[ci]? = some (own, T, N)) (hW : ∀ w ∈ u_ws own T N, w ∈ GW) (hY : ∀ k, k < N → parseFieldDescriptor (T k).2.2.1 = some (Y k)) (hN : ∀ a, a < N → ∀ b, b < N → a ≠ b → (T a).2.1 ≠ (T b).2.1) (j : Nat) (hj : j < N) (hT : T j = (own, fnm, fds, true)) (hd : parseFieldDescriptor fds = some ty) (hn : narrow ty v = v) (hfit : fits ty v = true) (hlen : j < fs.length) (hw : Cond.fieldLink own ix own fnm fds ∈ GW) (d : decode cc pc = .ok (.putfield ix, 3))
    (kk : G (oB E b (.inr (ci, fs.set j v))) n cs ss (pc + 3) lv st0) : G (oB E b (.inr (ci, fs))) n cs ss pc lv (v :: .ref (Γ.2.1 b) :: st0) := by
  obtain ⟨p, e, s, m, args, below, meth, c, hx, hb, hml, hr, hlk, hin, hown, hts, hSt, rfl⟩ := C
  intro H locs ls hP hS hl
  have hap := va_apart (own := own) hts hW Y hY hN hSt.1 hc
  have e1 : (T j).1 = own := by rw [hT]
  have e2 : (T j).2.1 = fnm := by rw [hT]
  have e3 : (T j).2.2.1 = fds := by rw [hT]
  have e4 : (T j).2.2.2 = true := by rw [hT]
  have hat := hP.1 b ha
  rw [oB_eq] at hat
  obtain ⟨r, h1, cell, q1, q2, q3, q4⟩ := hat
  have hr' : r = (own, T, N) := Option.some.inj (h1.symm.trans hc)
  subst hr'
  obtain ⟨hS2, hfc, kC, hkC, hkind⟩ := hSt.1.1 ci _ hc
  obtain ⟨cf, kf, fi, f, hi, hsl⟩ := hS2 j hj
  have hlay := hts _ (hW _ (u_in_lay hj))
  unfold u_lay at hlay
  rw [if_pos e4] at hlay
  have hst := (u_facts hfc hkC (u_lays hts hW hj) hi).1
  have hcf : m.cls = cf := by
    obtain ⟨_, _, c', _, _, _, -, -, hf', -, -, -, hown2, -⟩ := Cond.laysFinal_spec hlay
    have e9 : c' = cf := by have := hi.symm.trans hf'; simp at this; exact this.1.symm
    rw [e1] at hown2
    rw [← e9]; exact Option.some.inj (hown.symm.trans hown2)
  have h6 := u_fits hfc hkC hkind (Or.inr hlay) hi (by rw [e3]; exact hd) hn hfit
  have hi2 : s.fieldFound? own fnm fds = some (cf, kf, fi, f) := by rw [← e2, ← e3]; rw [e1] at hi; exact hi
  refine W.putFinK hx hb hown (hts _ hw) hi2 hst hcf hin (by rw [q2]; exact h6) q1 q3 (by rw [hsl]; exact k2_hasslot (q4 j hj)) rfl rfl d fun H' z1 z2 z3 => ?_
  rw [hsl] at z1 ⊢
  have hat' : va_at Γ.2.2.1 cCl (Γ.2.1 b, .inr (ci, fs.set j v)) H' := ⟨_, hc, t_OB.to (V := updV (vp_V fs) j v) ⟨_, z1, q2, q3, t_set q4 hap hj v⟩ (fun i _ => vp_updV_set hlen v i)⟩
  have hP' := PB_set hSt.2.2.2.2 hP z2 z3 hat'
  rw [oB_idem] at hP'
  refine kk H' _ ls hP' (hS.put z2 z3 ?_) hl
  show Γ.2.1 0 ≤ Γ.2.1 b
  rw [hSt.2.2.2.2 b]; omega
/-- another field of the object itself is written -/
theorem b_put (C : CxB Γ own cc nL fr mc ms E' n' G) {b ci ix : Nat} {T : u_T} {N : Nat} {fs : List Value} {v : Value} {fnm fds : String} {ty : FieldType} {Y : Nat → FieldType} (ha : b < n) (hc : cCl[ci]? = some (own, T, N)) (hW : ∀ w ∈ u_ws own T N, w ∈ GW) (hY : ∀ k, k < N → parseFieldDescriptor (T k).2.2.1 = some (Y k)) (hN : ∀ a, a < N → ∀ b, b < N → a ≠ b → (T a).2.1 ≠ (T b).2.1) (j : Nat) (hj : j < N) (hT : T j = (own, fnm, fds, false)) (hd : parseFieldDescriptor fds = some ty) (hn : narrow ty v = v) (hfit : fits ty v = true) (hlen : j < fs.length) (hw : Cond.fieldLink own ix own fnm fds ∈ GW) (d : decode cc pc = .ok (.putfield ix, 3))
    (kk : G (oB E b (.inr (ci, fs.set j v))) n cs ss (pc + 3) lv st0) : G (oB E b (.inr (ci, fs))) n cs ss pc lv (v :: .ref (Γ.2.1 b) :: st0) := by
  obtain ⟨p, e, s, m, args, below, meth, c, hx, hb, hml, hr, hlk, hin, hown, hts, hSt, rfl⟩ := C
  intro H locs ls hP hS hl
  have hap := va_apart (own := own) hts hW Y hY hN hSt.1 hc
  have e1 : (T j).1 = own := by rw [hT]
  have e2 : (T j).2.1 = fnm := by rw [hT]
  have e3 : (T j).2.2.1 = fds := by rw [hT]
  have e4 : (T j).2.2.2 = false := by rw [hT]
  have hat := hP.1 b ha
  rw [oB_eq] at hat
  obtain ⟨r, h1, cell, q1, q2, q3, q4⟩ := hat
  have hr' : r = (own, T, N) := Option.some.inj (h1.symm.trans hc)
  subst hr'
  obtain ⟨hS2, hfc, kC, hkC, hkind⟩ := hSt.1.1 ci _ hc
  obtain ⟨cf, kf, fi, f, hi, hsl⟩ := hS2 j hj
  have hlay := hts _ (hW _ (u_in_lay hj))
  unfold u_lay at hlay
  rw [if_neg (by rw [e4]; decide)] at hlay
  have hst := (u_facts hfc hkC (u_lays hts hW hj) hi).1
  have h6 := u_store hfc hkC hkind hlay hi (by rw [e3]; exact hd) hn hfit
  have hi2 : s.fieldFound? own fnm fds = some (cf, kf, fi, f) := by rw [← e2, ← e3]; rw [e1] at hi; exact hi
  refine W.putK hx hb (f := f) ⟨hown, hts _ hw, ⟨_, _, _, hi2⟩, hst⟩ (by rw [q2]; exact h6) q1 q3 (by rw [hsl]; exact k2_hasslot (q4 j hj)) rfl rfl d fun H' z1 z2 z3 => ?_
  rw [hsl] at z1 ⊢
  have hat' : va_at Γ.2.2.1 cCl (Γ.2.1 b, .inr (ci, fs.set j v)) H' := ⟨_, hc, t_OB.to (V := updV (vp_V fs) j v) ⟨_, z1, q2, q3, t_set q4 hap hj v⟩ (fun i _ => vp_updV_set hlen v i)⟩
  have hP' := PB_set hSt.2.2.2.2 hP z2 z3 hat'
  rw [oB_idem] at hP'
  refine kk H' _ ls hP' (hS.put z2 z3 ?_) hl
  show Γ.2.1 0 ≤ Γ.2.1 b
  rw [hSt.2.2.2.2 b]; omega
end MakeRows
