/-! the world as one list; a goal at a pc; the rows -/
def st (D : Dt) (a : Nat) (f : Nat → Int32) : Dt := fun k => if k = a then f else D k
def wr (D : Dt) (a i : Nat) (v : Int32) : Dt := st D a (upd (D a) i v)
def wsG (Γ : GmT) (D : Dt) : va_W := (List.range 211).map (fun k => (Γ.2.1 k, enc Γ (D k) k))
def AG (Γ : GmT) : Nat → Prop := fun q => ∃ k, k < 211 ∧ q = Γ.2.1 k
def tyG (Γ : GmT) : List (ClassId × FieldType) := [(Γ.2.2.2 10, .byte), (Γ.2.2.2 11, .int), (Γ.2.2.2 12, .boolean), (Γ.2.2.2 13, .object "RiverTuesdays$Row"), (Γ.2.2.2 14, .object "RiverTuesdays$Street"), (Γ.2.2.2 15, .object "RiverTuesdays$Text"), (Γ.2.2.2 16, .object "RiverTuesdays$Waters"), (Γ.2.2.2 17, .array .int)]
abbrev nW1 : Cond := .methodLinkNest "RiverTuesdays$Row" 31 ⟨"RiverTuesdays", "isWithin", "(III)Z"⟩ "RiverTuesdays"
abbrev nW2 : Cond := .methodLinkNest "RiverTuesdays$Jobs" 75 ⟨"RiverTuesdays", "hasBit", "(II)Z"⟩ "RiverTuesdays"
def StG (Γ : GmT) (U : State) : Prop := va_K Γ.2.2.1 cCl (tyG Γ) U ∧ va_Nw nW1 U ∧ va_Nw nW2 U ∧ ∀ i j, i < 211 → j < 211 → Γ.2.1 i = Γ.2.1 j → i = j
theorem StG.warm {Γ : GmT} {s U : State} (hW : s.WarmedH U.vm) (h : StG Γ s) : StG Γ U := ⟨va_K.moved hW.alike h.1, va_Nw.warmM hW h.2.1, va_Nw.warmM hW h.2.2.1, h.2.2.2⟩
theorem wsG_at (Γ : GmT) (D : Dt) {k : Nat} (h : k < 211) : (wsG Γ D)[k]? = some (Γ.2.1 k, enc Γ (D k) k) := by
  unfold wsG
  rw [List.getElem?_map, List.getElem?_range h]
  rfl
theorem wsG_inv {Γ : GmT} {D : Dt} {k : Nat} {q : Nat × va_E} (h : (wsG Γ D)[k]? = some q) : k < 211 ∧ q = (Γ.2.1 k, enc Γ (D k) k) := by
  have hl : k < 211 := by
    have := (List.getElem?_eq_some_iff.mp h).1
    simpa [wsG] using this
  exact ⟨hl, Option.some.inj (h.symm.trans (wsG_at Γ D hl))⟩
theorem wsG_D {Γ : GmT} (D : Dt) (hi : ∀ i j, i < 211 → j < 211 → Γ.2.1 i = Γ.2.1 j → i = j) : va_D (AG Γ) (wsG Γ D) := by
  refine ⟨fun i j p q hp hq e => ?_, fun k q hq => ?_⟩
  · obtain ⟨h1, rfl⟩ := wsG_inv hp
    obtain ⟨h2, rfl⟩ := wsG_inv hq
    exact hi i j h1 h2 e
  · obtain ⟨h1, rfl⟩ := wsG_inv hq
    exact ⟨k, h1, rfl⟩
theorem wsG_set (Γ : GmT) (D : Dt) {k : Nat} (h : k < 211) (d : Nat → Int32) : (wsG Γ D).set k (Γ.2.1 k, enc Γ d k) = wsG Γ (st D k d) := by
  apply List.ext_getElem?
  intro j
  by_cases hj : j = k
  · subst hj
    rw [List.getElem?_set_self (by simpa [wsG] using h), wsG_at Γ _ h]
    simp [st]
  · rw [List.getElem?_set_ne (Ne.symm hj)]
    by_cases hl : j < 211
    · rw [wsG_at Γ _ hl, wsG_at Γ _ hl]
      simp [st, hj]
    · rw [List.getElem?_eq_none (by simpa [wsG] using hl), List.getElem?_eq_none (by simpa [wsG] using hl)]
def QG (Γ : GmT) (r : Option Value) (D' : Dt) : Array Value → State → Outcome → State → Prop := fun _ s o t => o = .returned r ∧ va_P Γ.2.2.1 cCl (wsG Γ D') t.heap ∧ va_F (AG Γ) s t
def rmG (n : Nat) : Room := { frames := n, cells := 0, slots := 0, locals := 40 * n }
/-- a method's contract: from the world D to the world D' with the answer r -/
def Mt (Γ : GmT) (y : MethodName) (b : ByteArray) (mL : Nat) (rt : Option FieldType) (fr : Nat) (av : List Value) (D : Dt) (r : Option Value) (D' : Dt) : Prop :=
  Met Γ.1 y (Cond.code y b mL rt :: GW) (rmG fr) (va_Pc av (fun U => va_P Γ.2.2.1 cCl (wsG Γ D) U.heap ∧ StG Γ U)) (QG Γ r D') 0 0 (AG Γ)
def Cx (Γ : GmT) (own : String) (cc : ByteArray) (nL fr : Nat) (rt : Option FieldType) (r : Option Value) (D' : Dt) (G : Dt → Nat → List (Nat × Value) → List Value → Prop) : Prop :=
  ∃ (p : Program) (e : Env) (s : State) (m : MethodId) (args : Array Value) (below : List Frame) (meth : Method) (c : Code), p.tables.exec = Jvm.exec ∧ c.code = cc ∧ c.maxLocals = nL ∧ meth.sig.returnType = rt ∧ meth.locks = false ∧ s.vm.findClass own = some m.cls ∧ (∀ w ∈ GW, w.before args s = true) ∧ StG Γ s ∧
    G = fun D pc lv st => ∀ (H : Heap) (locs : List Loc) (ls : Array Slot), va_P Γ.2.2.1 cCl (wsG Γ D) H → va_S (AG Γ) s.heap H locs → lv_has ls nL lv → W p Γ.1 e (rmG fr) s m args below meth c H locs 0 0 (MQ below (QG Γ r D') args s 0 0 (AG Γ)) (F0 m pc ls st)
theorem Mt_of {Γ : GmT} {y : MethodName} {b : ByteArray} {mL : Nat} {rt : Option FieldType} {fr : Nat} {av : List Value} {D D' : Dt} {r : Option Value} (hy : plainName y.cls = true) (hl : (lg_sl av).length ≤ mL)
    (k : ∀ G, Cx Γ y.cls b mL fr rt r D' G → G D 0 (lv_args 0 av) []) : Mt Γ y b mL rt fr av D r D' := by
  refine Met.ofW (cc := b) (maxL := mL) (ret := rt) hy rfl ?_
  intro p e s m args below meth c s₁ B hml hv
  obtain ⟨rfl, hP, hSt⟩ := hv
  have hx := B.exec
  have hb := B.bytes
  have hr := B.returns
  have hts := atoms_spec (ws := Cond.code y b mL rt :: GW) B.pre
  have hown : s.vm.findClass y.cls = some m.cls := findClass_of_methodNamed B.named
  have hlocks := B.notSynchronized
  have h := k _ ⟨p, e, s, m, av.toArray, below, meth, c, hx, hb, hml, hr, hlocks, hown, fun w hw => hts w (List.mem_cons_of_mem _ hw), hSt, rfl⟩
  rw [lg_entry_eq]
  exact h s.heap [] _ hP va_S.rf (lv_entry av hl)
def inb (i : Int32) (n : Nat) : Bool := decide (¬ (i < 0 ∨ n ≤ i.toNatClampNeg))
theorem inb_in {i : Int32} {n : Nat} (h : inb i n = true) : vp_in i n := (of_decide_eq_true h : ¬ (i < 0 ∨ n ≤ i.toNatClampNeg))
theorem inb_lt {i : Int32} {n : Nat} (h : inb i n = true) : i.toNatClampNeg < n := Nat.not_le.mp fun q => inb_in h (Or.inr q)
def bnd {α β γ : Type} (o : Option (α × β)) (k : α → β → Option γ) : Option γ := match o with
  | some (a, b) => k a b
  | none => none
theorem bnd_some {α β γ : Type} {o : Option (α × β)} {k : α → β → Option γ} {q : γ} (h : bnd o k = some q) : ∃ a b, o = some (a, b) ∧ k a b = some q := by
  cases o with
  | none => cases h
  | some x => exact ⟨x.1, x.2, rfl, h⟩
def itr {τ : Type} (bot : τ) (F : τ → τ) (n : Nat) : τ := Nat.rec bot (fun _ ih => F ih) n
theorem ite_t {α : Type} {c : Prop} [Decidable c] {T : Option α} {q : α} (hf : (if c then T else none) = some q) : c ∧ T = some q := by
  by_cases h : c
  · rw [if_pos h] at hf; exact ⟨h, hf⟩
  · rw [if_neg h] at hf; cases hf
theorem ite_e {α : Type} {c : Prop} [Decidable c] {T : Option α} {q : α} (hf : (if c then none else T) = some q) : ¬ c ∧ T = some q := by
  by_cases h : c
  · rw [if_pos h] at hf; cases hf
  · rw [if_neg h] at hf; exact ⟨h, hf⟩
theorem lrem_mod_ (x y : Int64) : x - (x / y) * y = x % y := by
  apply Int64.toInt_inj.mp
  have h1 := Int64.le_toInt (x % y)
  have h2 := Int64.toInt_lt (x % y)
  rw [Int64.toInt_sub, Int64.toInt_mul, Int64.toInt_div, Int.bmod_mul_bmod, Int.sub_bmod_bmod, Int.mul_comm (x.toInt.tdiv y.toInt), ← Int.tmod_def, ← Int64.toInt_mod]
  exact Int.bmod_eq_of_le_mul_two (by omega) (by omega)
section RowsG
variable {Γ : GmT} {own : String} {cc : ByteArray} {nL fr : Nat} {rt : Option FieldType} {r : Option Value} {D' : Dt} {G : Dt → Nat → List (Nat × Value) → List Value → Prop} {D : Dt} {pc : Nat} {lv lv' : List (Nat × Value)} {st0 : List Value} {x0 : Int32} {l0 : Int64}
theorem r_lv (C : Cx Γ own cc nL fr rt r D' G) (ks : List Nat) (hl : lv_pick lv ks = lv') (k : G D pc lv' st0) : G D pc lv st0 := by
  obtain ⟨p, e, s, m, args, below, meth, c, hx, hb, hml, hr, hlk, hown, hts, hSt, rfl⟩ := C
  intro H locs ls hP hS hv
  exact k H locs ls hP hS (lv_sub hv ks hl)
theorem r_iconst (C : Cx Γ own cc nL fr rt r D' G) {n : Int} {v : Int32} (d : decode cc pc = .ok (.iconst n, 1)) (hv : Int32.ofInt n = v) (k : G D (pc + 1) lv (.int v :: st0)) : G D pc lv st0 := by
  obtain ⟨p, e, s, m, args, below, meth, c, hx, hb, hml, hr, hlk, hown, hts, hSt, rfl⟩ := C
  intro H locs ls hP hS hl
  exact lv_iconst hx hb d hv (k H locs ls hP hS hl)
theorem r_bipush (C : Cx Γ own cc nL fr rt r D' G) {n : Int} {v : Int32} (d : decode cc pc = .ok (.bipush n, 2)) (hv : (Int8.ofInt n).toInt32 = v) (k : G D (pc + 2) lv (.int v :: st0)) : G D pc lv st0 := by
  obtain ⟨p, e, s, m, args, below, meth, c, hx, hb, hml, hr, hlk, hown, hts, hSt, rfl⟩ := C
  intro H locs ls hP hS hl
  exact lv_bipush hx hb d hv (k H locs ls hP hS hl)
theorem r_sipush (C : Cx Γ own cc nL fr rt r D' G) {n : Int} {v : Int32} (d : decode cc pc = .ok (.sipush n, 3)) (hv : (Int16.ofInt n).toInt32 = v) (k : G D (pc + 3) lv (.int v :: st0)) : G D pc lv st0 := by
  obtain ⟨p, e, s, m, args, below, meth, c, hx, hb, hml, hr, hlk, hown, hts, hSt, rfl⟩ := C
  intro H locs ls hP hS hl
  exact lv_sipush hx hb d hv (k H locs ls hP hS hl)
theorem r_lconst (C : Cx Γ own cc nL fr rt r D' G) {n : Fin 2} {v : Int64} (d : decode cc pc = .ok (.lconst n, 1)) (hv : Int64.ofNat (n : Nat) = v) (k : G D (pc + 1) lv (.long v :: st0)) : G D pc lv st0 := by
  obtain ⟨p, e, s, m, args, below, meth, c, hx, hb, hml, hr, hlk, hown, hts, hSt, rfl⟩ := C
  intro H locs ls hP hS hl
  exact lv_lconst hx hb d hv (k H locs ls hP hS hl)
theorem r_ldc (C : Cx Γ own cc nL fr rt r D' G) {ix : Nat} {v : Int32} (hw : Cond.constant own ix v ∈ GW) (d : decode cc pc = .ok (.ldc ix, 2)) (k : G D (pc + 2) lv (.int v :: st0)) : G D pc lv st0 := by
  obtain ⟨p, e, s, m, args, below, meth, c, hx, hb, hml, hr, hlk, hown, hts, hSt, rfl⟩ := C
  intro H locs ls hP hS hl
  exact lv_ldc hx hb hown (hts _ hw) d (k H locs ls hP hS hl)
theorem r_ldcw (C : Cx Γ own cc nL fr rt r D' G) {ix : Nat} {v : Int32} (hw : Cond.constant own ix v ∈ GW) (d : decode cc pc = .ok (.ldc_w ix, 3)) (k : G D (pc + 3) lv (.int v :: st0)) : G D pc lv st0 := by
  obtain ⟨p, e, s, m, args, below, meth, c, hx, hb, hml, hr, hlk, hown, hts, hSt, rfl⟩ := C
  intro H locs ls hP hS hl
  exact lv_ldcw hx hb hown (hts _ hw) d (k H locs ls hP hS hl)
theorem r_ldc2 (C : Cx Γ own cc nL fr rt r D' G) {ix : Nat} {v : Int64} (hw : Cond.constantLong own ix v ∈ GW) (d : decode cc pc = .ok (.ldc2_w ix, 3)) (k : G D (pc + 3) lv (.long v :: st0)) : G D pc lv st0 := by
  obtain ⟨p, e, s, m, args, below, meth, c, hx, hb, hml, hr, hlk, hown, hts, hSt, rfl⟩ := C
  intro H locs ls hP hS hl
  exact lv_ldc2 hx hb hown (hts _ hw) d (k H locs ls hP hS hl)
theorem r_iload_n (C : Cx Γ own cc nL fr rt r D' G) {n : Fin 4} {i : Nat} {x : Int32} (q : Nat) (d : decode cc pc = .ok (.iload_n n, 1)) (hi : (n : Nat) = i) (hq : lv[q]? = some (i, .int x)) (k : G D (pc + 1) lv (.int x :: st0)) : G D pc lv st0 := by
  obtain ⟨p, e, s, m, args, below, meth, c, hx, hb, hml, hr, hlk, hown, hts, hSt, rfl⟩ := C
  intro H locs ls hP hS hl
  exact lv_iload_n hx hb d hi (lv_at hl q hq) (k H locs ls hP hS hl)
theorem r_iload (C : Cx Γ own cc nL fr rt r D' G) {i : Nat} {x : Int32} (q : Nat) (d : decode cc pc = .ok (.iload i, 2)) (hq : lv[q]? = some (i, .int x)) (k : G D (pc + 2) lv (.int x :: st0)) : G D pc lv st0 := by
  obtain ⟨p, e, s, m, args, below, meth, c, hx, hb, hml, hr, hlk, hown, hts, hSt, rfl⟩ := C
  intro H locs ls hP hS hl
  exact lv_iload hx hb d (lv_at hl q hq) (k H locs ls hP hS hl)
theorem r_lload_n (C : Cx Γ own cc nL fr rt r D' G) {n : Fin 4} {i : Nat} {x : Int64} (q : Nat) (d : decode cc pc = .ok (.lload_n n, 1)) (hi : (n : Nat) = i) (hq : lv[q]? = some (i, .long x)) (k : G D (pc + 1) lv (.long x :: st0)) : G D pc lv st0 := by
  obtain ⟨p, e, s, m, args, below, meth, c, hx, hb, hml, hr, hlk, hown, hts, hSt, rfl⟩ := C
  intro H locs ls hP hS hl
  exact lv_lload_n hx hb d hi (lv_at hl q hq) (k H locs ls hP hS hl)
theorem r_lload (C : Cx Γ own cc nL fr rt r D' G) {i : Nat} {x : Int64} (q : Nat) (d : decode cc pc = .ok (.lload i, 2)) (hq : lv[q]? = some (i, .long x)) (k : G D (pc + 2) lv (.long x :: st0)) : G D pc lv st0 := by
  obtain ⟨p, e, s, m, args, below, meth, c, hx, hb, hml, hr, hlk, hown, hts, hSt, rfl⟩ := C
  intro H locs ls hP hS hl
  exact lv_lload hx hb d (lv_at hl q hq) (k H locs ls hP hS hl)
theorem r_aload_n (C : Cx Γ own cc nL fr rt r D' G) {n : Fin 4} {i x : Nat} (q : Nat) (d : decode cc pc = .ok (.aload_n n, 1)) (hi : (n : Nat) = i) (hq : lv[q]? = some (i, .ref x)) (k : G D (pc + 1) lv (.ref x :: st0)) : G D pc lv st0 := by
  obtain ⟨p, e, s, m, args, below, meth, c, hx, hb, hml, hr, hlk, hown, hts, hSt, rfl⟩ := C
  intro H locs ls hP hS hl
  exact lv_aload_n hx hb d hi (lv_at hl q hq) (k H locs ls hP hS hl)
theorem r_aload (C : Cx Γ own cc nL fr rt r D' G) {i x : Nat} (q : Nat) (d : decode cc pc = .ok (.aload i, 2)) (hq : lv[q]? = some (i, .ref x)) (k : G D (pc + 2) lv (.ref x :: st0)) : G D pc lv st0 := by
  obtain ⟨p, e, s, m, args, below, meth, c, hx, hb, hml, hr, hlk, hown, hts, hSt, rfl⟩ := C
  intro H locs ls hP hS hl
  exact lv_aload hx hb d (lv_at hl q hq) (k H locs ls hP hS hl)
theorem r_istore_n (C : Cx Γ own cc nL fr rt r D' G) {n : Fin 4} {i : Nat} {x : Int32} (d : decode cc pc = .ok (.istore_n n, 1)) (hi : (n : Nat) = i) (hn : i < nL) (hl' : (i, Value.int x) :: lv.filter (fun q => !(q.1 == i) && !(q.1 + 1 == i && q.2.category == 2)) = lv') (k : G D (pc + 1) lv' st0) : G D pc lv (.int x :: st0) := by
  obtain ⟨p, e, s, m, args, below, meth, c, hx, hb, hml, hr, hlk, hown, hts, hSt, rfl⟩ := C
  intro H locs ls hP hS hl
  exact lv_istore_n hx hb d hi hl hn hl' (fun ls hl => k H locs ls hP hS hl)
theorem r_istore (C : Cx Γ own cc nL fr rt r D' G) {i : Nat} {x : Int32} (d : decode cc pc = .ok (.istore i, 2)) (hn : i < nL) (hl' : (i, Value.int x) :: lv.filter (fun q => !(q.1 == i) && !(q.1 + 1 == i && q.2.category == 2)) = lv') (k : G D (pc + 2) lv' st0) : G D pc lv (.int x :: st0) := by
  obtain ⟨p, e, s, m, args, below, meth, c, hx, hb, hml, hr, hlk, hown, hts, hSt, rfl⟩ := C
  intro H locs ls hP hS hl
  exact lv_istore hx hb d hl hn hl' (fun ls hl => k H locs ls hP hS hl)
theorem r_astore_n (C : Cx Γ own cc nL fr rt r D' G) {n : Fin 4} {i x : Nat} (d : decode cc pc = .ok (.astore_n n, 1)) (hi : (n : Nat) = i) (hn : i < nL) (hl' : (i, Value.ref x) :: lv.filter (fun q => !(q.1 == i) && !(q.1 + 1 == i && q.2.category == 2)) = lv') (k : G D (pc + 1) lv' st0) : G D pc lv (.ref x :: st0) := by
  obtain ⟨p, e, s, m, args, below, meth, c, hx, hb, hml, hr, hlk, hown, hts, hSt, rfl⟩ := C
  intro H locs ls hP hS hl
  exact lv_astore_n hx hb d hi hl hn hl' (fun ls hl => k H locs ls hP hS hl)
theorem r_astore (C : Cx Γ own cc nL fr rt r D' G) {i x : Nat} (d : decode cc pc = .ok (.astore i, 2)) (hn : i < nL) (hl' : (i, Value.ref x) :: lv.filter (fun q => !(q.1 == i) && !(q.1 + 1 == i && q.2.category == 2)) = lv') (k : G D (pc + 2) lv' st0) : G D pc lv (.ref x :: st0) := by
  obtain ⟨p, e, s, m, args, below, meth, c, hx, hb, hml, hr, hlk, hown, hts, hSt, rfl⟩ := C
  intro H locs ls hP hS hl
  exact lv_astore hx hb d hl hn hl' (fun ls hl => k H locs ls hP hS hl)
theorem r_lstore_n (C : Cx Γ own cc nL fr rt r D' G) {n : Fin 4} {i : Nat} {x : Int64} (d : decode cc pc = .ok (.lstore_n n, 1)) (hi : (n : Nat) = i) (hn : i + 1 < nL) (hl' : (i, Value.long x) :: lv.filter (fun q => !(q.1 == i) && (!(q.1 == i + 1) && !(q.1 + 1 == i && q.2.category == 2))) = lv') (k : G D (pc + 1) lv' st0) : G D pc lv (.long x :: st0) := by
  obtain ⟨p, e, s, m, args, below, meth, c, hx, hb, hml, hr, hlk, hown, hts, hSt, rfl⟩ := C
  intro H locs ls hP hS hl
  exact lv_lstore_n hx hb d hi hl hn hl' (fun ls hl => k H locs ls hP hS hl)
theorem r_lstore (C : Cx Γ own cc nL fr rt r D' G) {i : Nat} {x : Int64} (d : decode cc pc = .ok (.lstore i, 2)) (hn : i + 1 < nL) (hl' : (i, Value.long x) :: lv.filter (fun q => !(q.1 == i) && (!(q.1 == i + 1) && !(q.1 + 1 == i && q.2.category == 2))) = lv') (k : G D (pc + 2) lv' st0) : G D pc lv (.long x :: st0) := by
  obtain ⟨p, e, s, m, args, below, meth, c, hx, hb, hml, hr, hlk, hown, hts, hSt, rfl⟩ := C
  intro H locs ls hP hS hl
  exact lv_lstore hx hb d hl hn hl' (fun ls hl => k H locs ls hP hS hl)
theorem r_iinc (C : Cx Γ own cc nL fr rt r D' G) {i : Nat} {n : Int} {x v : Int32} (q : Nat) (d : decode cc pc = .ok (.iinc i n, 3)) (hq : lv[q]? = some (i, .int x)) (hv : x + Int32.ofInt n = v) (hn : i < nL) (hl' : (i, Value.int v) :: lv.filter (fun q => !(q.1 == i) && !(q.1 + 1 == i && q.2.category == 2)) = lv') (k : G D (pc + 3) lv' st0) : G D pc lv st0 := by
  obtain ⟨p, e, s, m, args, below, meth, c, hx, hb, hml, hr, hlk, hown, hts, hSt, rfl⟩ := C
  intro H locs ls hP hS hl
  exact lv_iinc hx hb d hl hq hv hn hl' (fun ls hl => k H locs ls hP hS hl)
theorem r_iadd (C : Cx Γ own cc nL fr rt r D' G) {x y : Int32} (d : decode cc pc = .ok (.iadd, 1)) (k : G D (pc + 1) lv (.int (x + y) :: st0)) : G D pc lv (.int y :: .int x :: st0) := by
  obtain ⟨p, e, s, m, args, below, meth, c, hx, hb, hml, hr, hlk, hown, hts, hSt, rfl⟩ := C
  intro H locs ls hP hS hl
  exact lv_iadd hx hb d (k H locs ls hP hS hl)
theorem r_isub (C : Cx Γ own cc nL fr rt r D' G) {x y : Int32} (d : decode cc pc = .ok (.isub, 1)) (k : G D (pc + 1) lv (.int (x - y) :: st0)) : G D pc lv (.int y :: .int x :: st0) := by
  obtain ⟨p, e, s, m, args, below, meth, c, hx, hb, hml, hr, hlk, hown, hts, hSt, rfl⟩ := C
  intro H locs ls hP hS hl
  exact lv_isub hx hb d (k H locs ls hP hS hl)
theorem r_imul (C : Cx Γ own cc nL fr rt r D' G) {x y : Int32} (d : decode cc pc = .ok (.imul, 1)) (k : G D (pc + 1) lv (.int (x * y) :: st0)) : G D pc lv (.int y :: .int x :: st0) := by
  obtain ⟨p, e, s, m, args, below, meth, c, hx, hb, hml, hr, hlk, hown, hts, hSt, rfl⟩ := C
  intro H locs ls hP hS hl
  exact lv_imul hx hb d (k H locs ls hP hS hl)
theorem r_iand (C : Cx Γ own cc nL fr rt r D' G) {x y : Int32} (d : decode cc pc = .ok (.iand, 1)) (k : G D (pc + 1) lv (.int (x &&& y) :: st0)) : G D pc lv (.int y :: .int x :: st0) := by
  obtain ⟨p, e, s, m, args, below, meth, c, hx, hb, hml, hr, hlk, hown, hts, hSt, rfl⟩ := C
  intro H locs ls hP hS hl
  exact lv_iand hx hb d (k H locs ls hP hS hl)
theorem r_ior (C : Cx Γ own cc nL fr rt r D' G) {x y : Int32} (d : decode cc pc = .ok (.ior, 1)) (k : G D (pc + 1) lv (.int (x ||| y) :: st0)) : G D pc lv (.int y :: .int x :: st0) := by
  obtain ⟨p, e, s, m, args, below, meth, c, hx, hb, hml, hr, hlk, hown, hts, hSt, rfl⟩ := C
  intro H locs ls hP hS hl
  exact lv_ior hx hb d (k H locs ls hP hS hl)
theorem r_ixor (C : Cx Γ own cc nL fr rt r D' G) {x y : Int32} (d : decode cc pc = .ok (.ixor, 1)) (k : G D (pc + 1) lv (.int (x ^^^ y) :: st0)) : G D pc lv (.int y :: .int x :: st0) := by
  obtain ⟨p, e, s, m, args, below, meth, c, hx, hb, hml, hr, hlk, hown, hts, hSt, rfl⟩ := C
  intro H locs ls hP hS hl
  exact lv_ixor hx hb d (k H locs ls hP hS hl)
theorem r_ishl (C : Cx Γ own cc nL fr rt r D' G) {x y : Int32} (d : decode cc pc = .ok (.ishl, 1)) (k : G D (pc + 1) lv (.int (x <<< (y &&& 31)) :: st0)) : G D pc lv (.int y :: .int x :: st0) := by
  obtain ⟨p, e, s, m, args, below, meth, c, hx, hb, hml, hr, hlk, hown, hts, hSt, rfl⟩ := C
  intro H locs ls hP hS hl
  exact lv_ishl hx hb d (k H locs ls hP hS hl)
theorem r_ishr (C : Cx Γ own cc nL fr rt r D' G) {x y : Int32} (d : decode cc pc = .ok (.ishr, 1)) (k : G D (pc + 1) lv (.int (x >>> (y &&& 31)) :: st0)) : G D pc lv (.int y :: .int x :: st0) := by
  obtain ⟨p, e, s, m, args, below, meth, c, hx, hb, hml, hr, hlk, hown, hts, hSt, rfl⟩ := C
  intro H locs ls hP hS hl
  exact lv_ishr hx hb d (k H locs ls hP hS hl)
theorem r_ladd (C : Cx Γ own cc nL fr rt r D' G) {x y : Int64} (d : decode cc pc = .ok (.ladd, 1)) (k : G D (pc + 1) lv (.long (x + y) :: st0)) : G D pc lv (.long y :: .long x :: st0) := by
  obtain ⟨p, e, s, m, args, below, meth, c, hx, hb, hml, hr, hlk, hown, hts, hSt, rfl⟩ := C
  intro H locs ls hP hS hl
  exact lv_ladd hx hb d (k H locs ls hP hS hl)
theorem r_lsub (C : Cx Γ own cc nL fr rt r D' G) {x y : Int64} (d : decode cc pc = .ok (.lsub, 1)) (k : G D (pc + 1) lv (.long (x - y) :: st0)) : G D pc lv (.long y :: .long x :: st0) := by
  obtain ⟨p, e, s, m, args, below, meth, c, hx, hb, hml, hr, hlk, hown, hts, hSt, rfl⟩ := C
  intro H locs ls hP hS hl
  exact lv_lsub hx hb d (k H locs ls hP hS hl)
theorem r_lmul (C : Cx Γ own cc nL fr rt r D' G) {x y : Int64} (d : decode cc pc = .ok (.lmul, 1)) (k : G D (pc + 1) lv (.long (x * y) :: st0)) : G D pc lv (.long y :: .long x :: st0) := by
  obtain ⟨p, e, s, m, args, below, meth, c, hx, hb, hml, hr, hlk, hown, hts, hSt, rfl⟩ := C
  intro H locs ls hP hS hl
  exact lv_lmul hx hb d (k H locs ls hP hS hl)
theorem r_land (C : Cx Γ own cc nL fr rt r D' G) {x y : Int64} (d : decode cc pc = .ok (.land, 1)) (k : G D (pc + 1) lv (.long (x &&& y) :: st0)) : G D pc lv (.long y :: .long x :: st0) := by
  obtain ⟨p, e, s, m, args, below, meth, c, hx, hb, hml, hr, hlk, hown, hts, hSt, rfl⟩ := C
  intro H locs ls hP hS hl
  exact lv_land hx hb d (k H locs ls hP hS hl)
theorem r_iushr (C : Cx Γ own cc nL fr rt r D' G) {x y : Int32} (d : decode cc pc = .ok (.iushr, 1)) (k : G D (pc + 1) lv (.int ((x.toUInt32 >>> (y.toUInt32 &&& Int32.toUInt32 31)).toInt32) :: st0)) : G D pc lv (.int y :: .int x :: st0) := by
  obtain ⟨p, e, s, m, args, below, meth, c, hx, hb, hml, hr, hlk, hown, hts, hSt, rfl⟩ := C
  intro H locs ls hP hS hl
  exact lv_iushr hx hb d rfl (k H locs ls hP hS hl)
theorem r_idiv (C : Cx Γ own cc nL fr rt r D' G) {α : Type} {T : Option α} {z : α} {x y : Int32} (d : decode cc pc = .ok (.idiv, 1)) (hf : (if y = 0 then none else T) = some z) (k : T = some z → G D (pc + 1) lv (.int (x / y) :: st0)) : G D pc lv (.int y :: .int x :: st0) := by
  obtain ⟨hne, hf⟩ := ite_e hf
  obtain ⟨p, e, s, m, args, below, meth, c, hx, hb, hml, hr, hlk, hown, hts, hSt, rfl⟩ := C
  intro H locs ls hP hS hl
  exact lv_idiv hx hb d hne (k hf H locs ls hP hS hl)
theorem r_irem (C : Cx Γ own cc nL fr rt r D' G) {α : Type} {T : Option α} {z : α} {x y : Int32} (d : decode cc pc = .ok (.irem, 1)) (hf : (if y = 0 then none else T) = some z) (k : T = some z → G D (pc + 1) lv (.int (x % y) :: st0)) : G D pc lv (.int y :: .int x :: st0) := by
  obtain ⟨hne, hf⟩ := ite_e hf
  obtain ⟨p, e, s, m, args, below, meth, c, hx, hb, hml, hr, hlk, hown, hts, hSt, rfl⟩ := C
  intro H locs ls hP hS hl
  have k2 := k hf H locs ls hP hS hl
  rw [← irem_eq_mod] at k2
  exact lv_irem hx hb d hne k2
theorem r_ldiv (C : Cx Γ own cc nL fr rt r D' G) {α : Type} {T : Option α} {z : α} {x y : Int64} (d : decode cc pc = .ok (.ldiv, 1)) (hf : (if y = 0 then none else T) = some z) (k : T = some z → G D (pc + 1) lv (.long (x / y) :: st0)) : G D pc lv (.long y :: .long x :: st0) := by
  obtain ⟨hne, hf⟩ := ite_e hf
  obtain ⟨p, e, s, m, args, below, meth, c, hx, hb, hml, hr, hlk, hown, hts, hSt, rfl⟩ := C
  intro H locs ls hP hS hl
  exact lv_ldiv hx hb d hne (k hf H locs ls hP hS hl)
theorem r_lrem (C : Cx Γ own cc nL fr rt r D' G) {α : Type} {T : Option α} {z : α} {x y : Int64} (d : decode cc pc = .ok (.lrem, 1)) (hf : (if y = 0 then none else T) = some z) (k : T = some z → G D (pc + 1) lv (.long (x % y) :: st0)) : G D pc lv (.long y :: .long x :: st0) := by
  obtain ⟨hne, hf⟩ := ite_e hf
  obtain ⟨p, e, s, m, args, below, meth, c, hx, hb, hml, hr, hlk, hown, hts, hSt, rfl⟩ := C
  intro H locs ls hP hS hl
  have k2 := k hf H locs ls hP hS hl
  rw [← lrem_mod_] at k2
  exact lv_lrem hx hb d hne k2
theorem r_ineg (C : Cx Γ own cc nL fr rt r D' G) {x : Int32} (d : decode cc pc = .ok (.ineg, 1)) (k : G D (pc + 1) lv (.int (-x) :: st0)) : G D pc lv (.int x :: st0) := by
  obtain ⟨p, e, s, m, args, below, meth, c, hx, hb, hml, hr, hlk, hown, hts, hSt, rfl⟩ := C
  intro H locs ls hP hS hl
  exact lv_ineg hx hb d (k H locs ls hP hS hl)
theorem r_i2l (C : Cx Γ own cc nL fr rt r D' G) {x : Int32} (d : decode cc pc = .ok (.i2l, 1)) (k : G D (pc + 1) lv (.long (x.toInt64) :: st0)) : G D pc lv (.int x :: st0) := by
  obtain ⟨p, e, s, m, args, below, meth, c, hx, hb, hml, hr, hlk, hown, hts, hSt, rfl⟩ := C
  intro H locs ls hP hS hl
  exact lv_i2l hx hb d rfl (k H locs ls hP hS hl)
theorem r_l2i (C : Cx Γ own cc nL fr rt r D' G) {x : Int64} (d : decode cc pc = .ok (.l2i, 1)) (k : G D (pc + 1) lv (.int (x.toInt32) :: st0)) : G D pc lv (.long x :: st0) := by
  obtain ⟨p, e, s, m, args, below, meth, c, hx, hb, hml, hr, hlk, hown, hts, hSt, rfl⟩ := C
  intro H locs ls hP hS hl
  exact lv_l2i hx hb d rfl (k H locs ls hP hS hl)
theorem r_i2b (C : Cx Γ own cc nL fr rt r D' G) {x : Int32} (d : decode cc pc = .ok (.i2b, 1)) (k : G D (pc + 1) lv (.int (x.toInt8.toInt32) :: st0)) : G D pc lv (.int x :: st0) := by
  obtain ⟨p, e, s, m, args, below, meth, c, hx, hb, hml, hr, hlk, hown, hts, hSt, rfl⟩ := C
  intro H locs ls hP hS hl
  exact lv_i2b hx hb d rfl (k H locs ls hP hS hl)
theorem r_dup (C : Cx Γ own cc nL fr rt r D' G) {va : Value} (d : decode cc pc = .ok (.dup, 1)) (h : va.category = 1) (k : G D (pc + 1) lv (va :: va :: st0)) : G D pc lv (va :: st0) := by
  obtain ⟨p, e, s, m, args, below, meth, c, hx, hb, hml, hr, hlk, hown, hts, hSt, rfl⟩ := C
  intro H locs ls hP hS hl
  exact lv_dup hx hb d h (k H locs ls hP hS hl)
theorem r_dup2 (C : Cx Γ own cc nL fr rt r D' G) {va vb : Value} (d : decode cc pc = .ok (.dup2, 1)) (h : va.category = 1) (h2 : vb.category = 1) (k : G D (pc + 1) lv (va :: vb :: va :: vb :: st0)) : G D pc lv (va :: vb :: st0) := by
  obtain ⟨p, e, s, m, args, below, meth, c, hx, hb, hml, hr, hlk, hown, hts, hSt, rfl⟩ := C
  intro H locs ls hP hS hl
  exact lv_dup2_11 hx hb d h h2 (k H locs ls hP hS hl)
theorem r_lcmp (C : Cx Γ own cc nL fr rt r D' G) {x y : Int64} (d : decode cc pc = .ok (.lcmp, 1)) (k : G D (pc + 1) lv (.int (lg_cmp x y) :: st0)) : G D pc lv (.long y :: .long x :: st0) := by
  obtain ⟨p, e, s, m, args, below, meth, c, hx, hb, hml, hr, hlk, hown, hts, hSt, rfl⟩ := C
  intro H locs ls hP hS hl
  exact W.lcmp hx hb d (k H locs ls hP hS hl)
theorem r_goto (C : Cx Γ own cc nL fr rt r D' G) {off : Int} {tgt : Nat} (d : decode cc pc = .ok (.goto off, 3)) (ht : (pc : Int) + off = (tgt : Int)) (k : G D tgt lv st0) : G D pc lv st0 := by
  obtain ⟨p, e, s, m, args, below, meth, c, hx, hb, hml, hr, hlk, hown, hts, hSt, rfl⟩ := C
  intro H locs ls hP hS hl
  exact lv_goto hx hb d ht (k H locs ls hP hS hl)
theorem r_if_eq (C : Cx Γ own cc nL fr rt r D' G) {α : Type} {T F : Option α} {z : α} {x : Int32} {off : Int} {tgt : Nat} (d : decode cc pc = .ok (.ifCond .eq off, 3)) (ht : (pc : Int) + off = (tgt : Int)) (hf : (if x = 0 then T else F) = some z) (kt : x = 0 → T = some z → G D tgt lv st0) (kf : ¬ (x = 0) → F = some z → G D (pc + 3) lv st0) : G D pc lv (.int x :: st0) := by
  obtain ⟨p, e, s, m, args, below, meth, c, hx, hb, hml, hr, hlk, hown, hts, hSt, rfl⟩ := C
  intro H locs ls hP hS hl
  exact lv_if_eq hx hb d ht (fun q => kt q (by rw [if_pos q] at hf; exact hf) H locs ls hP hS hl) (fun q => kf q (by rw [if_neg q] at hf; exact hf) H locs ls hP hS hl)
theorem r_icmp_eq (C : Cx Γ own cc nL fr rt r D' G) {α : Type} {T F : Option α} {z : α} {x y : Int32} {off : Int} {tgt : Nat} (d : decode cc pc = .ok (.if_icmp .eq off, 3)) (ht : (pc : Int) + off = (tgt : Int)) (hf : (if x = y then T else F) = some z) (kt : x = y → T = some z → G D tgt lv st0) (kf : ¬ (x = y) → F = some z → G D (pc + 3) lv st0) : G D pc lv (.int y :: .int x :: st0) := by
  obtain ⟨p, e, s, m, args, below, meth, c, hx, hb, hml, hr, hlk, hown, hts, hSt, rfl⟩ := C
  intro H locs ls hP hS hl
  exact lv_icmp_eq hx hb d ht (fun q => kt q (by rw [if_pos q] at hf; exact hf) H locs ls hP hS hl) (fun q => kf q (by rw [if_neg q] at hf; exact hf) H locs ls hP hS hl)
theorem r_if_ne (C : Cx Γ own cc nL fr rt r D' G) {α : Type} {T F : Option α} {z : α} {x : Int32} {off : Int} {tgt : Nat} (d : decode cc pc = .ok (.ifCond .ne off, 3)) (ht : (pc : Int) + off = (tgt : Int)) (hf : (if x = 0 then F else T) = some z) (kt : ¬ (x = 0) → T = some z → G D tgt lv st0) (kf : x = 0 → F = some z → G D (pc + 3) lv st0) : G D pc lv (.int x :: st0) := by
  obtain ⟨p, e, s, m, args, below, meth, c, hx, hb, hml, hr, hlk, hown, hts, hSt, rfl⟩ := C
  intro H locs ls hP hS hl
  exact lv_if_ne hx hb d ht (fun q => kt q (by rw [if_neg q] at hf; exact hf) H locs ls hP hS hl) (fun q => kf q (by rw [if_pos q] at hf; exact hf) H locs ls hP hS hl)
theorem r_icmp_ne (C : Cx Γ own cc nL fr rt r D' G) {α : Type} {T F : Option α} {z : α} {x y : Int32} {off : Int} {tgt : Nat} (d : decode cc pc = .ok (.if_icmp .ne off, 3)) (ht : (pc : Int) + off = (tgt : Int)) (hf : (if x = y then F else T) = some z) (kt : ¬ (x = y) → T = some z → G D tgt lv st0) (kf : x = y → F = some z → G D (pc + 3) lv st0) : G D pc lv (.int y :: .int x :: st0) := by
  obtain ⟨p, e, s, m, args, below, meth, c, hx, hb, hml, hr, hlk, hown, hts, hSt, rfl⟩ := C
  intro H locs ls hP hS hl
  exact lv_icmp_ne hx hb d ht (fun q => kt q (by rw [if_neg q] at hf; exact hf) H locs ls hP hS hl) (fun q => kf q (by rw [if_pos q] at hf; exact hf) H locs ls hP hS hl)
theorem r_if_lt (C : Cx Γ own cc nL fr rt r D' G) {α : Type} {T F : Option α} {z : α} {x : Int32} {off : Int} {tgt : Nat} (d : decode cc pc = .ok (.ifCond .lt off, 3)) (ht : (pc : Int) + off = (tgt : Int)) (hf : (if x < 0 then T else F) = some z) (kt : x < 0 → T = some z → G D tgt lv st0) (kf : ¬ (x < 0) → F = some z → G D (pc + 3) lv st0) : G D pc lv (.int x :: st0) := by
  obtain ⟨p, e, s, m, args, below, meth, c, hx, hb, hml, hr, hlk, hown, hts, hSt, rfl⟩ := C
  intro H locs ls hP hS hl
  exact lv_if_lt hx hb d ht (fun q => kt q (by rw [if_pos q] at hf; exact hf) H locs ls hP hS hl) (fun q => kf q (by rw [if_neg q] at hf; exact hf) H locs ls hP hS hl)
theorem r_icmp_lt (C : Cx Γ own cc nL fr rt r D' G) {α : Type} {T F : Option α} {z : α} {x y : Int32} {off : Int} {tgt : Nat} (d : decode cc pc = .ok (.if_icmp .lt off, 3)) (ht : (pc : Int) + off = (tgt : Int)) (hf : (if x < y then T else F) = some z) (kt : x < y → T = some z → G D tgt lv st0) (kf : ¬ (x < y) → F = some z → G D (pc + 3) lv st0) : G D pc lv (.int y :: .int x :: st0) := by
  obtain ⟨p, e, s, m, args, below, meth, c, hx, hb, hml, hr, hlk, hown, hts, hSt, rfl⟩ := C
  intro H locs ls hP hS hl
  exact lv_icmp_lt hx hb d ht (fun q => kt q (by rw [if_pos q] at hf; exact hf) H locs ls hP hS hl) (fun q => kf q (by rw [if_neg q] at hf; exact hf) H locs ls hP hS hl)
theorem r_if_ge (C : Cx Γ own cc nL fr rt r D' G) {α : Type} {T F : Option α} {z : α} {x : Int32} {off : Int} {tgt : Nat} (d : decode cc pc = .ok (.ifCond .ge off, 3)) (ht : (pc : Int) + off = (tgt : Int)) (hf : (if 0 ≤ x then T else F) = some z) (kt : 0 ≤ x → T = some z → G D tgt lv st0) (kf : ¬ (0 ≤ x) → F = some z → G D (pc + 3) lv st0) : G D pc lv (.int x :: st0) := by
  obtain ⟨p, e, s, m, args, below, meth, c, hx, hb, hml, hr, hlk, hown, hts, hSt, rfl⟩ := C
  intro H locs ls hP hS hl
  exact lv_if_ge hx hb d ht (fun q => kt q (by rw [if_pos q] at hf; exact hf) H locs ls hP hS hl) (fun q => kf q (by rw [if_neg q] at hf; exact hf) H locs ls hP hS hl)
theorem r_icmp_ge (C : Cx Γ own cc nL fr rt r D' G) {α : Type} {T F : Option α} {z : α} {x y : Int32} {off : Int} {tgt : Nat} (d : decode cc pc = .ok (.if_icmp .ge off, 3)) (ht : (pc : Int) + off = (tgt : Int)) (hf : (if y ≤ x then T else F) = some z) (kt : y ≤ x → T = some z → G D tgt lv st0) (kf : ¬ (y ≤ x) → F = some z → G D (pc + 3) lv st0) : G D pc lv (.int y :: .int x :: st0) := by
  obtain ⟨p, e, s, m, args, below, meth, c, hx, hb, hml, hr, hlk, hown, hts, hSt, rfl⟩ := C
  intro H locs ls hP hS hl
  exact lv_icmp_ge hx hb d ht (fun q => kt q (by rw [if_pos q] at hf; exact hf) H locs ls hP hS hl) (fun q => kf q (by rw [if_neg q] at hf; exact hf) H locs ls hP hS hl)
theorem r_if_gt (C : Cx Γ own cc nL fr rt r D' G) {α : Type} {T F : Option α} {z : α} {x : Int32} {off : Int} {tgt : Nat} (d : decode cc pc = .ok (.ifCond .gt off, 3)) (ht : (pc : Int) + off = (tgt : Int)) (hf : (if 0 < x then T else F) = some z) (kt : 0 < x → T = some z → G D tgt lv st0) (kf : ¬ (0 < x) → F = some z → G D (pc + 3) lv st0) : G D pc lv (.int x :: st0) := by
  obtain ⟨p, e, s, m, args, below, meth, c, hx, hb, hml, hr, hlk, hown, hts, hSt, rfl⟩ := C
  intro H locs ls hP hS hl
  exact lv_if_gt hx hb d ht (fun q => kt q (by rw [if_pos q] at hf; exact hf) H locs ls hP hS hl) (fun q => kf q (by rw [if_neg q] at hf; exact hf) H locs ls hP hS hl)
theorem r_icmp_gt (C : Cx Γ own cc nL fr rt r D' G) {α : Type} {T F : Option α} {z : α} {x y : Int32} {off : Int} {tgt : Nat} (d : decode cc pc = .ok (.if_icmp .gt off, 3)) (ht : (pc : Int) + off = (tgt : Int)) (hf : (if y < x then T else F) = some z) (kt : y < x → T = some z → G D tgt lv st0) (kf : ¬ (y < x) → F = some z → G D (pc + 3) lv st0) : G D pc lv (.int y :: .int x :: st0) := by
  obtain ⟨p, e, s, m, args, below, meth, c, hx, hb, hml, hr, hlk, hown, hts, hSt, rfl⟩ := C
  intro H locs ls hP hS hl
  exact lv_icmp_gt hx hb d ht (fun q => kt q (by rw [if_pos q] at hf; exact hf) H locs ls hP hS hl) (fun q => kf q (by rw [if_neg q] at hf; exact hf) H locs ls hP hS hl)
theorem r_if_le (C : Cx Γ own cc nL fr rt r D' G) {α : Type} {T F : Option α} {z : α} {x : Int32} {off : Int} {tgt : Nat} (d : decode cc pc = .ok (.ifCond .le off, 3)) (ht : (pc : Int) + off = (tgt : Int)) (hf : (if x ≤ 0 then T else F) = some z) (kt : x ≤ 0 → T = some z → G D tgt lv st0) (kf : ¬ (x ≤ 0) → F = some z → G D (pc + 3) lv st0) : G D pc lv (.int x :: st0) := by
  obtain ⟨p, e, s, m, args, below, meth, c, hx, hb, hml, hr, hlk, hown, hts, hSt, rfl⟩ := C
  intro H locs ls hP hS hl
  exact lv_if_le hx hb d ht (fun q => kt q (by rw [if_pos q] at hf; exact hf) H locs ls hP hS hl) (fun q => kf q (by rw [if_neg q] at hf; exact hf) H locs ls hP hS hl)
theorem r_icmp_le (C : Cx Γ own cc nL fr rt r D' G) {α : Type} {T F : Option α} {z : α} {x y : Int32} {off : Int} {tgt : Nat} (d : decode cc pc = .ok (.if_icmp .le off, 3)) (ht : (pc : Int) + off = (tgt : Int)) (hf : (if x ≤ y then T else F) = some z) (kt : x ≤ y → T = some z → G D tgt lv st0) (kf : ¬ (x ≤ y) → F = some z → G D (pc + 3) lv st0) : G D pc lv (.int y :: .int x :: st0) := by
  obtain ⟨p, e, s, m, args, below, meth, c, hx, hb, hml, hr, hlk, hown, hts, hSt, rfl⟩ := C
  intro H locs ls hP hS hl
  exact lv_icmp_le hx hb d ht (fun q => kt q (by rw [if_pos q] at hf; exact hf) H locs ls hP hS hl) (fun q => kf q (by rw [if_neg q] at hf; exact hf) H locs ls hP hS hl)
theorem r_tsOut (C : Cx Γ own cc nL fr rt r D' G) {dflt lo hi : Int} {offs : Array Int} {len : Nat} {x : Int32} {tgt : Nat} (d : decode cc pc = .ok (.tableswitch dflt lo hi offs, len)) (h : x.toInt < lo ∨ hi < x.toInt) (ht : (pc : Int) + dflt = (tgt : Int)) (k : G D tgt lv st0) : G D pc lv (.int x :: st0) := by
  obtain ⟨p, e, s, m, args, below, meth, c, hx, hb, hml, hr, hlk, hown, hts, hSt, rfl⟩ := C
  intro H locs ls hP hS hl
  exact lv_tableOut hx hb d h ht (k H locs ls hP hS hl)
theorem r_tsIn (C : Cx Γ own cc nL fr rt r D' G) {dflt lo hi : Int} {offs : Array Int} {len : Nat} {x : Int32} {off : Int} {tgt : Nat} (d : decode cc pc = .ok (.tableswitch dflt lo hi offs, len)) (h1 : ¬ x.toInt < lo) (h2 : ¬ hi < x.toInt) (ho : offs[(x.toInt - lo).toNat]? = some off) (ht : (pc : Int) + off = (tgt : Int)) (k : G D tgt lv st0) : G D pc lv (.int x :: st0) := by
  obtain ⟨p, e, s, m, args, below, meth, c, hx, hb, hml, hr, hlk, hown, hts, hSt, rfl⟩ := C
  intro H locs ls hP hS hl
  exact lv_tableIn hx hb d h1 h2 ho ht (k H locs ls hP hS hl)
theorem r_iret (C : Cx Γ own cc nL fr (some .int) (some (.int x0)) D' G) {x : Int32} (d : decode cc pc = .ok (.ireturn, 1)) (hf : some (x, D) = some (x0, D')) : G D pc lv [.int x] := by
  obtain ⟨rfl, rfl⟩ := Prod.mk.inj (Option.some.inj hf)
  obtain ⟨p, e, s, m, args, below, meth, c, hx, hb, hml, hr, hlk, hown, hts, hSt, rfl⟩ := C
  intro H locs ls hP hS hl
  exact W.iret hx hb hr (fun t ht _ => ⟨rfl, by rw [ht]; exact hP, hS.F ht⟩) hS.2.2 d hlk
theorem r_zret (C : Cx Γ own cc nL fr (some .boolean) (some (.int x0)) D' G) {x : Int32} (d : decode cc pc = .ok (.ireturn, 1)) (hn : narrow .boolean (.int x) = .int x) (hf : some (x, D) = some (x0, D')) : G D pc lv [.int x] := by
  obtain ⟨rfl, rfl⟩ := Prod.mk.inj (Option.some.inj hf)
  obtain ⟨p, e, s, m, args, below, meth, c, hx, hb, hml, hr, hlk, hown, hts, hSt, rfl⟩ := C
  intro H locs ls hP hS hl
  exact W.zret hx hb hr hn (fun t ht _ => ⟨rfl, by rw [ht]; exact hP, hS.F ht⟩) hS.2.2 d hlk
theorem r_zretc (C : Cx Γ own cc nL fr (some .boolean) (some (.int x0)) D' G) {x : Int32} (d : decode cc pc = .ok (.ireturn, 1)) (hf : (if x = 0 ∨ x = 1 then some (x, D) else none) = some (x0, D')) : G D pc lv [.int x] := by
  obtain ⟨hc, hf⟩ := ite_t hf
  refine r_zret C d ?_ hf
  rcases hc with rfl | rfl <;> rfl
theorem r_lret (C : Cx Γ own cc nL fr (some .long) (some (.long l0)) D' G) {x : Int64} (d : decode cc pc = .ok (.lreturn, 1)) (hf : some (x, D) = some (l0, D')) : G D pc lv [.long x] := by
  obtain ⟨rfl, rfl⟩ := Prod.mk.inj (Option.some.inj hf)
  obtain ⟨p, e, s, m, args, below, meth, c, hx, hb, hml, hr, hlk, hown, hts, hSt, rfl⟩ := C
  intro H locs ls hP hS hl
  exact W.lret hx hb hr (fun t ht _ => ⟨rfl, by rw [ht]; exact hP, hS.F ht⟩) hS.2.2 d hlk
theorem r_vret (C : Cx Γ own cc nL fr none none D' G) {u : Unit} (d : decode cc pc = .ok (.return_, 1)) (hf : some ((), D) = some (u, D')) : G D pc lv [] := by
  obtain ⟨-, rfl⟩ := Prod.mk.inj (Option.some.inj hf)
  obtain ⟨p, e, s, m, args, below, meth, c, hx, hb, hml, hr, hlk, hown, hts, hSt, rfl⟩ := C
  intro H locs ls hP hS hl
  exact W.vret hx hb hr (fun t ht _ => ⟨rfl, by rw [ht]; exact hP, hS.F ht⟩) hS.2.2 d hlk
/-- a field is read: v is the value at its slot -/
theorem r_get (C : Cx Γ own cc nL fr rt r D' G) {a ci ix : Nat} {cN : String} {T : u_T} {n : Nat} {fs : List Value} {v : Value} {fnm fds : String} (he : enc Γ (D a) a = .inr (ci, fs)) (ha : a < 211) (hc : cCl[ci]? = some (cN, T, n)) (hW : ∀ w ∈ u_ws cN T n, w ∈ GW) (j : Nat) (hj : j < n) (hT : T j = (cN, fnm, fds, (T j).2.2.2)) (hv : fs[j]? = some v) (hw : Cond.fieldLink own ix cN fnm fds ∈ GW) (d : decode cc pc = .ok (.getfield ix, 3)) (k : G D (pc + 3) lv (v :: st0)) : G D pc lv (.ref (Γ.2.1 a) :: st0) := by
  obtain ⟨p, e, s, m, args, below, meth, c, hx, hb, hml, hr, hlk, hown, hts, hSt, rfl⟩ := C
  intro H locs ls hP hS hl
  have e1 : (T j).1 = cN := by rw [hT]
  have e2 : (T j).2.1 = fnm := by rw [hT]
  have e3 : (T j).2.2.1 = fds := by rw [hT]
  exact va_get (C := cN) (T := T) (N := n) (ref := cN) hx hb hts hW hown hSt.1 hP a ((wsG_at Γ D ha).trans (by rw [he])) hc j hj (by rw [e2, e3]; exact hts _ hw) (fun x h => by rw [e1] at h; exact h) hv d (k H locs ls hP hS hl)
/-- an int field is written -/
theorem r_put (C : Cx Γ own cc nL fr rt r D' G) {a ci ix : Nat} {cN : String} {T : u_T} {n : Nat} {fs : List Value} {v : Value} {fnm fds : String} {ty : FieldType} {d1 : Nat → Int32} {Y : Nat → FieldType} (he : enc Γ (D a) a = .inr (ci, fs)) (ha : a < 211) (hc : cCl[ci]? = some (cN, T, n)) (hW : ∀ w ∈ u_ws cN T n, w ∈ GW) (hY : ∀ k, k < n → parseFieldDescriptor (T k).2.2.1 = some (Y k)) (hN : ∀ a, a < n → ∀ b, b < n → a ≠ b → (T a).2.1 ≠ (T b).2.1) (j : Nat) (hj : j < n) (hT : T j = (cN, fnm, fds, false)) (hd : parseFieldDescriptor fds = some ty) (hn : narrow ty v = v) (hfit : fits ty v = true) (hlen : j < fs.length) (he1 : enc Γ d1 a = .inr (ci, fs.set j v)) (hw : Cond.fieldLink own ix cN fnm fds ∈ GW) (d : decode cc pc = .ok (.putfield ix, 3)) (k : G (st D a d1) (pc + 3) lv st0) : G D pc lv (v :: .ref (Γ.2.1 a) :: st0) := by
  obtain ⟨p, e, s, m, args, below, meth, c, hx, hb, hml, hr, hlk, hown, hts, hSt, rfl⟩ := C
  intro H locs ls hP hS hl
  have e1 : (T j).1 = cN := by rw [hT]
  have e2 : (T j).2.1 = fnm := by rw [hT]
  have e3 : (T j).2.2.1 = fds := by rw [hT]
  refine va_put (C := cN) (T := T) (N := n) (ref := cN) (ty := ty) hx hb hts hW Y hY hN hown hSt.1 hP (wsG_D D hSt.2.2.2) hS a ((wsG_at Γ D ha).trans (by rw [he])) hc j hj (by rw [e2, e3]; exact hts _ hw) (fun x h => by rw [e1] at h; exact h) (by rw [hT]) (by rw [e3]; exact hd) hn hfit hlen d (fun H1 locs1 hP1 hD1 hS1 => ?_)
  rw [← he1, wsG_set Γ D ha] at hP1
  exact k H1 locs1 ls hP1 hS1 hl
theorem r_iald (C : Cx Γ own cc nL fr rt r D' G) {α : Type} {T : Option α} {z : α} {a n : Nat} {i : Int32} (ha : isA 11 a n) (d : decode cc pc = .ok (.iaload, 1)) (hf : (if inb i n = true then T else none) = some z) (k : T = some z → G D (pc + 1) lv (.int (D a i.toNatClampNeg) :: st0)) : G D pc lv (.int i :: .ref (Γ.2.1 a) :: st0) := by
  obtain ⟨hin, hf⟩ := ite_t hf
  obtain ⟨p, e, s, m, args, below, meth, c, hx, hb, hml, hr, hlk, hown, hts, hSt, rfl⟩ := C
  intro H locs ls hP hS hl
  obtain ⟨h1, h2⟩ := ha
  exact va_iald hx hb hSt.1 hP a 1 ((wsG_at Γ D (kd_lt (by omega))).trans (by rw [enc11 Γ _ h1, h2])) rfl (inb_in hin) d (k hf H locs ls hP hS hl)
theorem r_bald (C : Cx Γ own cc nL fr rt r D' G) {α : Type} {T : Option α} {z : α} {a n : Nat} {i : Int32} (ha : isA 10 a n) (d : decode cc pc = .ok (.baload, 1)) (hf : (if inb i n = true then T else none) = some z) (k : T = some z → G D (pc + 1) lv (.int (D a i.toNatClampNeg) :: st0)) : G D pc lv (.int i :: .ref (Γ.2.1 a) :: st0) := by
  obtain ⟨hin, hf⟩ := ite_t hf
  obtain ⟨p, e, s, m, args, below, meth, c, hx, hb, hml, hr, hlk, hown, hts, hSt, rfl⟩ := C
  intro H locs ls hP hS hl
  obtain ⟨h1, h2⟩ := ha
  exact va_bald hx hb hSt.1 hP a 0 ((wsG_at Γ D (kd_lt (by omega))).trans (by rw [enc10 Γ _ h1, h2])) rfl (inb_in hin) d (k hf H locs ls hP hS hl)
theorem r_zald (C : Cx Γ own cc nL fr rt r D' G) {α : Type} {T : Option α} {z : α} {a n : Nat} {i : Int32} (ha : isA 12 a n) (d : decode cc pc = .ok (.baload, 1)) (hf : (if inb i n = true then T else none) = some z) (k : T = some z → G D (pc + 1) lv (.int (D a i.toNatClampNeg) :: st0)) : G D pc lv (.int i :: .ref (Γ.2.1 a) :: st0) := by
  obtain ⟨hin, hf⟩ := ite_t hf
  obtain ⟨p, e, s, m, args, below, meth, c, hx, hb, hml, hr, hlk, hown, hts, hSt, rfl⟩ := C
  intro H locs ls hP hS hl
  obtain ⟨h1, h2⟩ := ha
  exact va_zald hx hb hSt.1 hP a 2 ((wsG_at Γ D (kd_lt (by omega))).trans (by rw [enc12 Γ _ h1, h2])) rfl (inb_in hin) d (k hf H locs ls hP hS hl)
theorem r_iast (C : Cx Γ own cc nL fr rt r D' G) {α : Type} {T : Option α} {z : α} {a n : Nat} {i x : Int32} (ha : isA 11 a n) (d : decode cc pc = .ok (.iastore, 1)) (hf : (if inb i n = true then T else none) = some z) (k : T = some z → G (wr D a i.toNatClampNeg x) (pc + 1) lv st0) : G D pc lv (.int x :: .int i :: .ref (Γ.2.1 a) :: st0) := by
  obtain ⟨hin, hf⟩ := ite_t hf
  obtain ⟨p, e, s, m, args, below, meth, c, hx, hb, hml, hr, hlk, hown, hts, hSt, rfl⟩ := C
  intro H locs ls hP hS hl
  obtain ⟨h1, h2⟩ := ha
  refine va_iast hx hb hSt.1 hP (wsG_D D hSt.2.2.2) hS a 1 ((wsG_at Γ D (kd_lt (by omega))).trans (by rw [enc11 Γ _ h1, h2])) rfl (inb_in hin) d (fun H1 locs1 hP1 hD1 hS1 => ?_)
  rw [← h2, ← enc11 Γ _ h1, wsG_set Γ D (kd_lt (by omega))] at hP1
  exact k hf H1 locs1 ls hP1 hS1 hl
theorem r_bast (C : Cx Γ own cc nL fr rt r D' G) {α : Type} {T : Option α} {z : α} {a n : Nat} {i x : Int32} (ha : isA 10 a n) (d : decode cc pc = .ok (.bastore, 1)) (hf : (if inb i n = true then T else none) = some z) (k : T = some z → G (wr D a i.toNatClampNeg (vp_nar .byte x)) (pc + 1) lv st0) : G D pc lv (.int x :: .int i :: .ref (Γ.2.1 a) :: st0) := by
  obtain ⟨hin, hf⟩ := ite_t hf
  obtain ⟨p, e, s, m, args, below, meth, c, hx, hb, hml, hr, hlk, hown, hts, hSt, rfl⟩ := C
  intro H locs ls hP hS hl
  obtain ⟨h1, h2⟩ := ha
  refine va_bast hx hb hSt.1 hP (wsG_D D hSt.2.2.2) hS a 0 ((wsG_at Γ D (kd_lt (by omega))).trans (by rw [enc10 Γ _ h1, h2])) rfl (inb_in hin) d (fun H1 locs1 hP1 hD1 hS1 => ?_)
  rw [← h2, ← enc10 Γ _ h1, wsG_set Γ D (kd_lt (by omega))] at hP1
  exact k hf H1 locs1 ls hP1 hS1 hl
theorem r_zast (C : Cx Γ own cc nL fr rt r D' G) {α : Type} {T : Option α} {z : α} {a n : Nat} {i x : Int32} (ha : isA 12 a n) (d : decode cc pc = .ok (.bastore, 1)) (hf : (if inb i n = true then T else none) = some z) (k : T = some z → G (wr D a i.toNatClampNeg (vp_nar .boolean x)) (pc + 1) lv st0) : G D pc lv (.int x :: .int i :: .ref (Γ.2.1 a) :: st0) := by
  obtain ⟨hin, hf⟩ := ite_t hf
  obtain ⟨p, e, s, m, args, below, meth, c, hx, hb, hml, hr, hlk, hown, hts, hSt, rfl⟩ := C
  intro H locs ls hP hS hl
  obtain ⟨h1, h2⟩ := ha
  refine va_zast hx hb hSt.1 hP (wsG_D D hSt.2.2.2) hS a 2 ((wsG_at Γ D (kd_lt (by omega))).trans (by rw [enc12 Γ _ h1, h2])) rfl (inb_in hin) d (fun H1 locs1 hP1 hD1 hS1 => ?_)
  rw [← h2, ← enc12 Γ _ h1, wsG_set Γ D (kd_lt (by omega))] at hP1
  exact k hf H1 locs1 ls hP1 hS1 hl
theorem r_alen (C : Cx Γ own cc nL fr rt r D' G) {a n t : Nat} (ha : isA t a n) (ht : t = 10 ∨ t = 11) (d : decode cc pc = .ok (.arraylength, 1)) (k : G D (pc + 1) lv (.int (Int32.ofNat n) :: st0)) : G D pc lv (.ref (Γ.2.1 a) :: st0) := by
  obtain ⟨p, e, s, m, args, below, meth, c, hx, hb, hml, hr, hlk, hown, hts, hSt, rfl⟩ := C
  intro H locs ls hP hS hl
  obtain ⟨h1, h2⟩ := ha
  rcases ht with rfl | rfl
  · exact va_alen (x := (n, .inl (D a))) hx hb hSt.1 hP a 0 ((wsG_at Γ D (kd_lt (by omega))).trans (by rw [enc10 Γ _ h1, h2])) (ty := .byte) rfl rfl d (k H locs ls hP hS hl)
  · exact va_alen (x := (n, .inl (D a))) hx hb hSt.1 hP a 1 ((wsG_at Γ D (kd_lt (by omega))).trans (by rw [enc11 Γ _ h1, h2])) (ty := .int) rfl rfl d (k H locs ls hP hS hl)
theorem r_aald13 (C : Cx Γ own cc nL fr rt r D' G) {α : Type} {T : Option α} {z : α} {a n : Nat} {i : Int32} (ha : isA 13 a n) (d : decode cc pc = .ok (.aaload, 1)) (hf : (if inb i n = true then T else none) = some z) (k : inb i n = true → T = some z → G D (pc + 1) lv (.ref (Γ.2.1 (111 + 2 * i.toNatClampNeg)) :: st0)) : G D pc lv (.int i :: .ref (Γ.2.1 a) :: st0) := by
  obtain ⟨hin, hf⟩ := ite_t hf
  obtain ⟨p, e, s, m, args, below, meth, c, hx, hb, hml, hr, hlk, hown, hts, hSt, rfl⟩ := C
  intro H locs ls hP hS hl
  obtain ⟨h1, h2⟩ := ha
  have hc : H[Γ.2.1 a]? = some (arrV (Γ.2.2.2 13) n (fun j => va_rf (some (Γ.2.1 (111 + 2 * j))))) := hP a (Γ.2.1 a, .inl (Γ.2.2.2 13, n, .inr (.inr (.inr (.inr (fun j => some (Γ.2.1 (111 + 2 * j)))))))) ((wsG_at Γ D (kd_lt (by omega))).trans (by rw [enc13 Γ _ h1, h2]))
  exact W.aald (ty := .object "RiverTuesdays$Row") hx hb hc ((hSt.1.2 3 _ rfl).1 n _) rfl (fun q => by cases q) (by show ¬ (i < 0 ∨ (arrV _ _ _).slots.size ≤ _); rw [arrV_size]; exact inb_in hin) (by rw [arrV_read _ _ (inb_lt hin)]; rfl) rfl rfl d (k hin hf H locs ls hP hS hl)
theorem r_aald14 (C : Cx Γ own cc nL fr rt r D' G) {α : Type} {T : Option α} {z : α} {a n : Nat} {i : Int32} (ha : isA 14 a n) (d : decode cc pc = .ok (.aaload, 1)) (hf : (if inb i n = true then T else none) = some z) (k : inb i n = true → T = some z → G D (pc + 1) lv (.ref (Γ.2.1 (131 + 15 * i.toNatClampNeg)) :: st0)) : G D pc lv (.int i :: .ref (Γ.2.1 a) :: st0) := by
  obtain ⟨hin, hf⟩ := ite_t hf
  obtain ⟨p, e, s, m, args, below, meth, c, hx, hb, hml, hr, hlk, hown, hts, hSt, rfl⟩ := C
  intro H locs ls hP hS hl
  obtain ⟨h1, h2⟩ := ha
  have hc : H[Γ.2.1 a]? = some (arrV (Γ.2.2.2 14) n (fun j => va_rf (some (Γ.2.1 (131 + 15 * j))))) := hP a (Γ.2.1 a, .inl (Γ.2.2.2 14, n, .inr (.inr (.inr (.inr (fun j => some (Γ.2.1 (131 + 15 * j)))))))) ((wsG_at Γ D (kd_lt (by omega))).trans (by rw [enc14 Γ _ h1, h2]))
  exact W.aald (ty := .object "RiverTuesdays$Street") hx hb hc ((hSt.1.2 4 _ rfl).1 n _) rfl (fun q => by cases q) (by show ¬ (i < 0 ∨ (arrV _ _ _).slots.size ≤ _); rw [arrV_size]; exact inb_in hin) (by rw [arrV_read _ _ (inb_lt hin)]; rfl) rfl rfl d (k hin hf H locs ls hP hS hl)
theorem r_aald15 (C : Cx Γ own cc nL fr rt r D' G) {α : Type} {T : Option α} {z : α} {a n : Nat} {i : Int32} (ha : isA 15 a n) (d : decode cc pc = .ok (.aaload, 1)) (hf : (if inb i n = true then T else none) = some z) (k : inb i n = true → T = some z → G D (pc + 1) lv (.ref (Γ.2.1 (123 + 2 * i.toNatClampNeg)) :: st0)) : G D pc lv (.int i :: .ref (Γ.2.1 a) :: st0) := by
  obtain ⟨hin, hf⟩ := ite_t hf
  obtain ⟨p, e, s, m, args, below, meth, c, hx, hb, hml, hr, hlk, hown, hts, hSt, rfl⟩ := C
  intro H locs ls hP hS hl
  obtain ⟨h1, h2⟩ := ha
  have hc : H[Γ.2.1 a]? = some (arrV (Γ.2.2.2 15) n (fun j => va_rf (some (Γ.2.1 (123 + 2 * j))))) := hP a (Γ.2.1 a, .inl (Γ.2.2.2 15, n, .inr (.inr (.inr (.inr (fun j => some (Γ.2.1 (123 + 2 * j)))))))) ((wsG_at Γ D (kd_lt (by omega))).trans (by rw [enc15 Γ _ h1, h2]))
  exact W.aald (ty := .object "RiverTuesdays$Text") hx hb hc ((hSt.1.2 5 _ rfl).1 n _) rfl (fun q => by cases q) (by show ¬ (i < 0 ∨ (arrV _ _ _).slots.size ≤ _); rw [arrV_size]; exact inb_in hin) (by rw [arrV_read _ _ (inb_lt hin)]; rfl) rfl rfl d (k hin hf H locs ls hP hS hl)
theorem r_aald16 (C : Cx Γ own cc nL fr rt r D' G) {α : Type} {T : Option α} {z : α} {a n : Nat} {i : Int32} (ha : isA 16 a n) (d : decode cc pc = .ok (.aaload, 1)) (hf : (if inb i n = true then T else none) = some z) (k : inb i n = true → T = some z → G D (pc + 1) lv (.ref (Γ.2.1 (46 + 6 * i.toNatClampNeg)) :: st0)) : G D pc lv (.int i :: .ref (Γ.2.1 a) :: st0) := by
  obtain ⟨hin, hf⟩ := ite_t hf
  obtain ⟨p, e, s, m, args, below, meth, c, hx, hb, hml, hr, hlk, hown, hts, hSt, rfl⟩ := C
  intro H locs ls hP hS hl
  obtain ⟨h1, h2⟩ := ha
  have hc : H[Γ.2.1 a]? = some (arrV (Γ.2.2.2 16) n (fun j => va_rf (some (Γ.2.1 (46 + 6 * j))))) := hP a (Γ.2.1 a, .inl (Γ.2.2.2 16, n, .inr (.inr (.inr (.inr (fun j => some (Γ.2.1 (46 + 6 * j)))))))) ((wsG_at Γ D (kd_lt (by omega))).trans (by rw [enc16 Γ _ h1, h2]))
  exact W.aald (ty := .object "RiverTuesdays$Waters") hx hb hc ((hSt.1.2 6 _ rfl).1 n _) rfl (fun q => by cases q) (by show ¬ (i < 0 ∨ (arrV _ _ _).slots.size ≤ _); rw [arrV_size]; exact inb_in hin) (by rw [arrV_read _ _ (inb_lt hin)]; rfl) rfl rfl d (k hin hf H locs ls hP hS hl)
theorem r_aald17 (C : Cx Γ own cc nL fr rt r D' G) {α : Type} {T : Option α} {z : α} {a n : Nat} {i : Int32} (ha : isA 17 a n) (d : decode cc pc = .ok (.aaload, 1)) (hf : (if inb i n = true then T else none) = some z) (k : inb i n = true → T = some z → G D (pc + 1) lv (.ref (Γ.2.1 (37 + 1 * i.toNatClampNeg)) :: st0)) : G D pc lv (.int i :: .ref (Γ.2.1 a) :: st0) := by
  obtain ⟨hin, hf⟩ := ite_t hf
  obtain ⟨p, e, s, m, args, below, meth, c, hx, hb, hml, hr, hlk, hown, hts, hSt, rfl⟩ := C
  intro H locs ls hP hS hl
  obtain ⟨h1, h2⟩ := ha
  have hc : H[Γ.2.1 a]? = some (arrV (Γ.2.2.2 17) n (fun j => va_rf (some (Γ.2.1 (37 + 1 * j))))) := hP a (Γ.2.1 a, .inl (Γ.2.2.2 17, n, .inr (.inr (.inr (.inr (fun j => some (Γ.2.1 (37 + 1 * j)))))))) ((wsG_at Γ D (kd_lt (by omega))).trans (by rw [enc17 Γ _ h1, h2]))
  exact W.aald (ty := .array .int) hx hb hc ((hSt.1.2 7 _ rfl).1 n _) rfl (fun q => by cases q) (by show ¬ (i < 0 ∨ (arrV _ _ _).slots.size ≤ _); rw [arrV_size]; exact inb_in hin) (by rw [arrV_read _ _ (inb_lt hin)]; rfl) rfl rfl d (k hin hf H locs ls hP hS hl)
/-- System.arraycopy of ints -/
theorem r_acopy (C : Cx Γ own cc nL fr rt r D' G) {α : Type} {T : Option α} {z : α} {a a0 n n0 ix : Nat} {sp dp w : Int32} (ha0 : isA 11 a0 n0) (ha : isA 11 a n) (hw : Cond.methodLink own ix arraycopyName ∈ GW) (hnat : Cond.native arraycopyName ∈ GW) (hstat : Cond.static arraycopyName ∈ GW) (hini : Cond.initialized "java/lang/System" ∈ GW) (hfr : 1 ≤ fr) (hloc : (st0.map fun v => v.category).sum + (nativeFrameWords "java/lang/System" "arraycopy" 5 + 11) ≤ 40 * fr) (d : decode cc pc = .ok (.invokestatic ix, 3)) (hf : (if ¬ sp < 0 ∧ ¬ dp < 0 ∧ ¬ w < 0 ∧ sp.toNatClampNeg + w.toNatClampNeg ≤ n0 ∧ dp.toNatClampNeg + w.toNatClampNeg ≤ n then T else none) = some z) (k : T = some z → G (st D a (va_cpy (D a0) (D a) sp.toNatClampNeg dp.toNatClampNeg w.toNatClampNeg)) (pc + 3) lv st0) : G D pc lv (.int w :: .int dp :: .ref (Γ.2.1 a) :: .int sp :: .ref (Γ.2.1 a0) :: st0) := by
  obtain ⟨⟨g1, g2, g3, g4, g5⟩, hf⟩ := ite_t hf
  obtain ⟨p, e, s, m, args, below, meth, c, hx, hb, hml, hr, hlk, hown, hts, hSt, rfl⟩ := C
  intro H locs ls hP hS hl
  obtain ⟨h1, h2⟩ := ha0
  obtain ⟨h3, h4⟩ := ha
  refine va_copyi hx hb (hml.trans hl.1.symm) hown (hts _ hw) (hts _ hnat) (hts _ hstat) (hts _ hini) hSt.1 hP (wsG_D D hSt.2.2.2) hS a0 a 1 1 (ty := .int) ((wsG_at Γ D (kd_lt (by omega))).trans (by rw [enc11 Γ _ h1, h2])) ((wsG_at Γ D (kd_lt (by omega))).trans (by rw [enc11 Γ _ h3, h4])) rfl rfl rfl g1 g2 g3 g4 g5 (fun _ _ => rfl) hfr hloc d (fun H1 locs1 hP1 hD1 hS1 => ?_)
  rw [← h4, ← enc11 Γ _ h3, wsG_set Γ D (kd_lt (by omega))] at hP1
  exact k hf H1 locs1 ls hP1 hS1 hl
/-- behind a call: the world of its contract -/
theorem w_call {p : Program} {e : Env} {R : Room} {s : State} {m : MethodId} {args : Array Value} {below : List Frame} {meth : Method} {c : Code} {H : Heap} {locs : List Loc} {Q : State → Prop} {ls : Array Slot} {st1 rest : List Value} {a : Array Value} {rv : Option Value} {D1 : Dt}
    (hr : va_Run p Γ.1 e R s m args below meth c H locs 0 0 0 0 (F0 m pc ls st1) rest (QG Γ rv D1 a) (AG Γ)) (hS : va_S (AG Γ) s.heap H locs)
    (kk : ∀ (H1 : Heap) (locs1 : List Loc), va_P Γ.2.2.1 cCl (wsG Γ D1) H1 → va_S (AG Γ) s.heap H1 locs1 → W p Γ.1 e R s m args below meth c H1 locs1 0 0 Q (F0 m (pc + 3) ls (rv.toList ++ rest))) : W p Γ.1 e R s m args below meth c H locs 0 0 Q (F0 m pc ls st1) := by
  intro T hT X
  obtain ⟨v, st₀, t, T', L, h0, X', hL, e1, e2, ⟨hv, hp, hz, hk⟩, stp⟩ := hr T hT X
  have hv : v = rv := by cases hv; rfl
  subst hv
  rw [h0] at hz hk
  obtain ⟨t2, a1, b1⟩ := kk T'.heap (locs ++ L) (by rw [e1]; exact hp)
    ⟨Nat.le_trans hS.1 (by rw [e1]; exact hz), fun q h1 h2 => by rw [e1, hk q (Nat.lt_of_lt_of_le h1 hS.1) h2]; exact hS.2.1 q h1 h2, fun q hq => by
      rcases List.mem_append.mp hq with h | h
      · exact hS.2.2 q h
      · exact hL q h⟩ T' rfl X'
  exact ⟨t2, stp t2 a1, b1⟩
theorem blindG {av : List Value} {D : Dt} : FrameBlind (va_Pc av (fun U => va_P Γ.2.2.1 cCl (wsG Γ D) U.heap ∧ StG Γ U)) := fun a U g mk q => by
  obtain ⟨q0, qP, q1, q2, q3, q4⟩ := q
  exact ⟨q0, qP, va_K.moved (u := U) (U := U.calling g mk a) (Vm.Alike.refl U.vm) q1, va_Nw.same rfl rfl q2, va_Nw.same rfl rfl q3, q4⟩
/-- what a method's name needs: that its class is plain, how many it takes -/
def okY (y : MethodName) (n : Nat) : Prop := y.cls ≠ "java/lang/invoke/MethodHandle" ∧ y.cls ≠ "java/lang/invoke/VarHandle" ∧ (parseMethodDescriptor y.desc).map (fun d => d.parameters.length) = some n
def okV (y : MethodName) (b : ByteArray) (mL : Nat) (crt : Option FieldType) (n ci : Nat) : Prop := Cond.instanceMethod y ∈ GW ∧ Cond.selects y.cls y y ∈ GW ∧ Cond.initialized y.cls ∈ GW ∧ Cond.code y b mL crt ∈ GW ∧ okY y n ∧ (cCl[ci]?).map (fun q => q.1) = some y.cls
def okS (y : MethodName) (b : ByteArray) (mL : Nat) (crt : Option FieldType) (n : Nat) : Prop := Cond.static y ∈ GW ∧ Cond.initialized y.cls ∈ GW ∧ Cond.code y b mL crt ∈ GW ∧ okY y n
theorem r_callV (C : Cx Γ own cc nL fr rt r D' G) {ρ α : Type} {fc : Option (ρ × Dt)} {K : ρ → Dt → Option α} {z : α} {mk : ρ → Option Value} {y : MethodName} {b : ByteArray} {mL cfr n ci ix a : Nat} {crt : Option FieldType} {As rest : List Value}
    (hy : okV y b mL crt n ci) (hw : Cond.methodLink own ix y ∈ GW) (ha : kd a = ci) (hci : ci < 10) (hfr : cfr + 1 ≤ fr ∧ 8 + (mL + 11) + 40 * cfr ≤ 40 * fr) (hn : As.length = n) (hst : st0 = As.reverse ++ .ref (Γ.2.1 a) :: rest) (hcat : (rest.map fun v => v.category).sum ≤ 8)
    (d : decode cc pc = .ok (.invokevirtual ix, 3)) (hf : bnd fc K = some z) (M : ∀ x D1, fc = some (x, D1) → Mt Γ y b mL crt cfr (.ref (Γ.2.1 a) :: As) D (mk x) D1)
    (k : ∀ x D1, fc = some (x, D1) → K x D1 = some z → G D1 (pc + 3) lv ((mk x).toList ++ rest)) : G D pc lv st0 := by
  obtain ⟨x, D1, h1, h2⟩ := bnd_some hf
  have M := M x D1 h1
  have k := k x D1 h1 h2
  obtain ⟨p, e, s, m, args, below, meth, c, hx, hb, hml, hr, hlk, hown, hts, hSt, rfl⟩ := C
  intro H locs ls hP hS hl
  obtain ⟨y1, y2, y3, y4, y5, y6⟩ := hy
  have cb : CallW (rmG fr) s args own y.cls ix y b mL crt (Cond.code y b mL crt :: GW) (rmG cfr) 0 0 n := ⟨callB_of n hts (gGWc y4) rfl rfl rfl (hts _ y3) (hts _ hw) y5 hfr, hts _ y1, hts _ y2⟩
  have hrec : ∃ cellB : Cell, H[Γ.2.1 a]? = some cellB ∧ cellB.vm.isStatics = false ∧ s.vm.findClass y.cls = some cellB.cls := by
    obtain ⟨q, hq, hq2⟩ := Option.map_eq_some_iff.mp y6
    have he : ∃ fs, enc Γ (D a) a = .inr (ci, fs) := by
      subst ha
      unfold enc
      rcases (show kd a = 0 ∨ kd a = 1 ∨ kd a = 2 ∨ kd a = 3 ∨ kd a = 4 ∨ kd a = 5 ∨ kd a = 6 ∨ kd a = 7 ∨ kd a = 8 ∨ kd a = 9 by omega) with h | h | h | h | h | h | h | h | h | h <;> rw [h] <;> exact ⟨_, rfl⟩
    obtain ⟨fs, he⟩ := he
    have h3 := va_recv hSt.1 hP hq (q0 := a) ((wsG_at Γ D (kd_lt (by omega))).trans (by rw [he]))
    rw [hq2] at h3
    exact h3
  refine w_call (va_runV (As := As) (rest := rest) ⟨hx, hb, hml, hown, hts⟩ M cb ⟨blindG, hrec, fun U hU hW => ⟨rfl, by rw [hU]; exact hP, hSt.warm hW⟩⟩ rfl hn hl.1 hst (lv_room hcat) d ⟨Nat.le_refl 0, Nat.le_refl 0⟩) hS (fun H1 locs1 hP1 hS1 => k H1 locs1 ls hP1 hS1 hl)
theorem r_callS (C : Cx Γ own cc nL fr rt r D' G) {ρ α : Type} {fc : Option (ρ × Dt)} {K : ρ → Dt → Option α} {z : α} {mk : ρ → Option Value} {y : MethodName} {b : ByteArray} {mL cfr n ix : Nat} {crt : Option FieldType} {As rest : List Value}
    (hy : okS y b mL crt n) (hw : Cond.methodLink own ix y ∈ GW) (hfr : cfr + 1 ≤ fr ∧ 8 + (mL + 11) + 40 * cfr ≤ 40 * fr) (hn : As.length = n) (hst : st0 = As.reverse ++ rest) (hcat : (rest.map fun v => v.category).sum ≤ 8)
    (d : decode cc pc = .ok (.invokestatic ix, 3)) (hf : bnd fc K = some z) (M : ∀ x D1, fc = some (x, D1) → Mt Γ y b mL crt cfr As D (mk x) D1)
    (k : ∀ x D1, fc = some (x, D1) → K x D1 = some z → G D1 (pc + 3) lv ((mk x).toList ++ rest)) : G D pc lv st0 := by
  obtain ⟨x, D1, h1, h2⟩ := bnd_some hf
  have M := M x D1 h1
  have k := k x D1 h1 h2
  obtain ⟨p, e, s, m, args, below, meth, c, hx, hb, hml, hr, hlk, hown, hts, hSt, rfl⟩ := C
  intro H locs ls hP hS hl
  obtain ⟨y1, y3, y4, y5⟩ := hy
  refine w_call (va_runS (As := As) (rest := rest) ⟨hx, hb, hml, hown, hts⟩ M ⟨callB_of n hts (gGWc y4) rfl rfl rfl (hts _ y3) (hts _ hw) y5 hfr, hts _ y1⟩ ⟨blindG, fun U hU hW => ⟨rfl, by rw [hU]; exact hP, hSt.warm hW⟩⟩ rfl hn hl.1 hst (lv_room hcat) d ⟨Nat.le_refl 0, Nat.le_refl 0⟩) hS (fun H1 locs1 hP1 hS1 => k H1 locs1 ls hP1 hS1 hl)
/-- a private static method of a nest mate -/
theorem r_callN (C : Cx Γ own cc nL fr rt r D' G) {ρ α : Type} {fc : Option (ρ × Dt)} {K : ρ → Dt → Option α} {z : α} {mk : ρ → Option Value} {y : MethodName} {b : ByteArray} {mL cfr n ix : Nat} {crt : Option FieldType} {As rest : List Value}
    (hy : okS y b mL crt n) (hw : ∀ U, StG Γ U → va_Nw (.methodLinkNest own ix y "RiverTuesdays") U) (hfr : cfr + 1 ≤ fr ∧ 8 + (mL + 11) + 40 * cfr ≤ 40 * fr) (hn : As.length = n) (hst : st0 = As.reverse ++ rest) (hcat : (rest.map fun v => v.category).sum ≤ 8)
    (d : decode cc pc = .ok (.invokestatic ix, 3)) (hf : bnd fc K = some z) (M : ∀ x D1, fc = some (x, D1) → Mt Γ y b mL crt cfr As D (mk x) D1)
    (k : ∀ x D1, fc = some (x, D1) → K x D1 = some z → G D1 (pc + 3) lv ((mk x).toList ++ rest)) : G D pc lv st0 := by
  obtain ⟨x, D1, h1, h2⟩ := bnd_some hf
  have M := M x D1 h1
  have k := k x D1 h1 h2
  obtain ⟨p, e, s, m, args, below, meth, c, hx, hb, hml, hr, hlk, hown, hts, hSt, rfl⟩ := C
  intro H locs ls hP hS hl
  obtain ⟨y1, y3, y4, y5⟩ := hy
  refine w_call (va_runSN (As := As) (rest := rest) ⟨hx, hb, hml, hown, hts⟩ M ⟨va_cnB n hts (gGWc y4) rfl rfl rfl (hw s hSt) (hts _ y3) y5 hfr, hts _ y1, trivial⟩ ⟨blindG, fun U hU hW => ⟨rfl, by rw [hU]; exact hP, hSt.warm hW⟩⟩ rfl hn hl.1 hst (lv_room hcat) d ⟨Nat.le_refl 0, Nat.le_refl 0⟩) hS (fun H1 locs1 hP1 hS1 => k H1 locs1 ls hP1 hS1 hl)
end RowsG
