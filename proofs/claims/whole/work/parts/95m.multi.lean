/-! multianewarray with two lengths, out of the model: the states it goes through, its walk, its row -/
def mn_out (cA : ClassId) (N h : Nat) : Nat → Cell
  | 0 => { cls := cA, slots := Array.replicate N .null, vm := .none }
  | i + 1 => (mn_out cA N h i).setSlot i (.ref (h + 1 + i))
def mn_in (cI : ClassId) (K : Nat) : Cell := { cls := cI, slots := Array.replicate K (.int 0), vm := .none }
def mn_st (U : State) (cA cI : ClassId) (N K : Nat) : Nat → State
  | 0 => U.pushCell (mn_out cA N U.heap.size 0)
  | i + 1 => ((mn_st U cA cI N K i).pushCell (mn_in cI K)).setCell U.heap.size (mn_out cA N U.heap.size (i + 1))
def mn_lc (h : Nat) : Nat → List Loc
  | 0 => []
  | i + 1 => mn_lc h i ++ [⟨h, i⟩]
theorem mn_lc_base (h : Nat) : ∀ i, ∀ l ∈ mn_lc h i, l.base = h
  | 0 => fun l hl => by cases hl
  | i + 1 => fun l hl => by
    rcases List.mem_append.mp hl with h1 | h1
    · exact mn_lc_base h i l h1
    · rw [List.mem_singleton.mp h1]
theorem mn_out_facts (cA : ClassId) (N h : Nat) : ∀ i, (mn_out cA N h i).cls = cA ∧ (mn_out cA N h i).vm = .none ∧ (mn_out cA N h i).slots.size = N
  | 0 => ⟨rfl, rfl, Array.size_replicate⟩
  | i + 1 => by
    obtain ⟨h1, h2, h3⟩ := mn_out_facts cA N h i
    exact ⟨h1, h2, by show ((mn_out cA N h i).slots.setIfInBounds i _).size = N; rw [Array.size_setIfInBounds, h3]⟩
theorem mn_st_facts (U : State) (cA cI : ClassId) (N K : Nat) : ∀ i : Nat, (mn_st U cA cI N K i).vm = U.vm ∧ (mn_st U cA cI N K i).slotsUsed = U.slotsUsed + (N + i * K) ∧ (mn_st U cA cI N K i).heap.size = U.heap.size + 1 + i ∧ (mn_st U cA cI N K i).heap[U.heap.size]? = some (mn_out cA N U.heap.size i) ∧ (∀ q, q < U.heap.size → (mn_st U cA cI N K i).heap[q]? = U.heap[q]?) ∧ (∀ j, j < i → (mn_st U cA cI N K i).heap[U.heap.size + 1 + j]? = some (mn_in cI K)) ∧ (mn_st U cA cI N K i).topJava? = U.topJava?
  | 0 => by
    refine ⟨rfl, ?_, ?_, ?_, fun q hq => ?_, fun j hj => absurd hj (Nat.not_lt_zero j), rfl⟩
    · show U.slotsUsed + (Array.replicate N Value.null).size = _
      rw [Array.size_replicate, Nat.zero_mul, Nat.add_zero]
    · show (U.heap.push _).size = _
      rw [Array.size_push]
    · show (U.heap.push _)[U.heap.size]? = _
      rw [Array.getElem?_push_size]
    · show (U.heap.push _)[q]? = _
      rw [Array.getElem?_push, if_neg (Nat.ne_of_lt hq)]
  | i + 1 => by
    obtain ⟨h1, h2, h3, h4, h5, h6, h7⟩ := mn_st_facts U cA cI N K i
    have e : mn_st U cA cI N K (i + 1) = ((mn_st U cA cI N K i).pushCell (mn_in cI K)).setCell U.heap.size (mn_out cA N U.heap.size (i + 1)) := rfl
    rw [e]
    generalize mn_st U cA cI N K i = V at h1 h2 h3 h4 h5 h6 h7
    have hz : (V.pushCell (mn_in cI K)).heap.size = U.heap.size + 1 + i + 1 := by
      show (V.heap.push _).size = _
      rw [Array.size_push, h3]
    refine ⟨h1, ?_, ?_, ?_, fun q hq => ?_, fun j hj => ?_, h7⟩
    · show V.slotsUsed + (Array.replicate K (Value.int 0)).size = _
      rw [Array.size_replicate, h2, Nat.succ_mul]
      omega
    · show ((V.pushCell (mn_in cI K)).heap.setIfInBounds _ _).size = _
      rw [Array.size_setIfInBounds, hz]
      omega
    · show ((V.pushCell (mn_in cI K)).heap.setIfInBounds _ _)[U.heap.size]? = _
      rw [Array.getElem?_setIfInBounds_self_of_lt (by rw [hz]; omega)]
    · show ((V.pushCell (mn_in cI K)).heap.setIfInBounds _ _)[q]? = _
      rw [Array.getElem?_setIfInBounds_ne (by omega)]
      show (V.heap.push _)[q]? = _
      rw [Array.getElem?_push, if_neg (by omega), h5 q hq]
    · show ((V.pushCell (mn_in cI K)).heap.setIfInBounds _ _)[U.heap.size + 1 + j]? = _
      rw [Array.getElem?_setIfInBounds_ne (by omega)]
      show (V.heap.push _)[U.heap.size + 1 + j]? = _
      rw [Array.getElem?_push]
      by_cases e : j = i
      · rw [if_pos (by omega)]
      · rw [if_neg (by omega), h6 j (by omega)]
theorem mn_st_top (U : State) (g : JFrame) (cA cI : ClassId) (N K : Nat) : ∀ i : Nat, mn_st (U.setTop g) cA cI N K i = (mn_st U cA cI N K i).setTop g
  | 0 => rfl
  | i + 1 => by
    show ((mn_st (U.setTop g) cA cI N K i).pushCell _).setCell _ _ = _
    rw [mn_st_top U g cA cI N K i]
    rfl
section MnStand
variable {p : Program} {l : Launch} {e : Env} {R : Room} {s : State} {m : MethodId} {args : Array Value} {below : List Frame} {meth : Method} {c : Code} {U : State} {locs : List Loc} {cells slots : Nat}
theorem mn_stand (X : Stand p l e R s m args below meth c U locs cells slots) (cA cI : ClassId) (N K : Nat) : ∀ i : Nat, Stand p l e R s m args below meth c (mn_st U cA cI N K i) (locs ++ mn_lc U.heap.size i) (cells + 1 + i) (slots + N + i * K)
  | 0 => by
    have h := X.pushed (mn_out cA N U.heap.size 0)
    rw [(mn_out_facts cA N U.heap.size 0).2.2] at h
    rw [Nat.zero_mul]
    show Stand p l e R s m args below meth c (mn_st U cA cI N K 0) (locs ++ []) _ _
    rw [List.append_nil]
    exact h
  | i + 1 => by
    have h := (mn_stand X cA cI N K i).pushed (mn_in cI K)
    rw [show (mn_in cI K).slots.size = K from Array.size_replicate] at h
    obtain ⟨-, -, h3, h4, -, -, -⟩ := mn_st_facts U cA cI N K i
    have h5 : ((mn_st U cA cI N K i).pushCell (mn_in cI K)).heap[U.heap.size]? = some (mn_out cA N U.heap.size i) := by
      show ((mn_st U cA cI N K i).heap.push _)[U.heap.size]? = _
      rw [Array.getElem?_push, if_neg (by omega), h4]
    have h6 := h.stored h5 i (.ref (U.heap.size + 1 + i))
    rw [List.append_assoc] at h6
    rw [show cells + 1 + (i + 1) = cells + 1 + i + 1 by omega, show slots + N + (i + 1) * K = slots + N + i * K + K by rw [Nat.succ_mul]; omega]
    exact h6
end MnStand
section MnWp
variable {E : CtlPost} {e : Env} {d : Bool} {acts : List Action} {V : State}
theorem mn_one {cI cc : ClassId} {kI : Class} {k : Int32} (hk : V.vm.classes[cI]? = some kI) (hkind : kI.kind = .array cc .int) (h0 : ¬ k < 0) (hl : ¬ k.toNatClampNeg > e.platform.arrayLengthLimit) (hh : ¬ k.toNatClampNeg * componentBytes .int > e.platform.maxHeapBytes) (hc : V.heap.size < e.platform.maxCells) (hs : V.slotsUsed + k.toNatClampNeg ≤ e.platform.maxSlots) {Q : Addr → Pre} (hq : ∀ acts', Q V.heap.size d acts' (V.pushCell (mn_in cI k.toNatClampNeg))) : wp (multianewarray.make cI [k]) Q E e d acts V := by
  simp only [multianewarray.make, wp_bind', W.ite, if_neg h0, wp_pure', W.theClass, hk, Option.some.injEq, exists_eq_left', hkind]
  exact W.newArray_of hk hkind hl hh hc hs rfl hq
theorem mn_fits {U : State} {cA cI : ClassId} {kA : Class} (hk : U.vm.classes[cA]? = some kA) (hkind : kA.kind = .array cI (.array .int)) (i : Nat) (a : Addr) : U.fitsSlot cA .none i (.ref a) = true := by
  simp [State.fitsSlot, State.slotType?, hk, hkind, fits]
theorem mn_loop {U : State} {cA cI cc : ClassId} {kA kI : Class} {N : Nat} {k : Int32} (hkA : U.vm.classes[cA]? = some kA) (hkindA : kA.kind = .array cI (.array .int)) (hk : U.vm.classes[cI]? = some kI) (hkind : kI.kind = .array cc .int) (h0 : ¬ k < 0) (hl : ¬ k.toNatClampNeg > e.platform.arrayLengthLimit) (hh : ¬ k.toNatClampNeg * componentBytes .int > e.platform.maxHeapBytes) (hc : U.heap.size + (1 + N) ≤ e.platform.maxCells) (hs : U.slotsUsed + (N + N * k.toNatClampNeg) ≤ e.platform.maxSlots)
    {f : Nat → PUnit → Sem (ForInStep PUnit)} (hf : ∀ i u, f i u = (do let a ← multianewarray.make cI [k]; Jvm.writeLoc U.heap.size i (.ref a); Pure.pure (ForInStep.yield PUnit.unit))) {Q : PUnit → Pre} (hq : ∀ d' acts', Q PUnit.unit d' acts' (mn_st U cA cI N k.toNatClampNeg N)) :
    ∀ (j i : Nat) (d : Bool) (acts : List Action), i + j = N → wp (forIn (List.range' i j) PUnit.unit f) Q E e d acts (mn_st U cA cI N k.toNatClampNeg i)
  | 0, i, d, acts, hi => by
    have hi : i = N := hi
    subst hi
    simp only [List.range'_zero, List.forIn_nil, wp_pure']
    exact hq d acts
  | j + 1, i, d, acts, hi => by
    obtain ⟨h1, h2, h3, h4, -, -, -⟩ := mn_st_facts U cA cI N k.toNatClampNeg i
    obtain ⟨o1, o2, o3⟩ := mn_out_facts cA N U.heap.size i
    have hle : i * k.toNatClampNeg + k.toNatClampNeg ≤ N * k.toNatClampNeg := by
      rw [← Nat.succ_mul]
      exact Nat.mul_le_mul_right _ (by omega)
    simp only [List.range'_succ, List.forIn_cons, hf, wp_bind']
    refine mn_one (by rw [h1]; exact hk) hkind h0 hl hh (by omega) (by omega) (fun acts' => ?_)
    rw [h3]
    simp only [wp_bind', W.writeLoc, wp_pure']
    refine ⟨mn_out cA N U.heap.size i, ?_, (by rw [o2]; exact VmData.noConfusion), (by rw [o3]; omega), ?_, ?_⟩
    · show ((mn_st U cA cI N k.toNatClampNeg i).heap.push _)[U.heap.size]? = _
      rw [Array.getElem?_push, if_neg (by omega), h4]
    · rw [o1, o2]
      exact mn_fits (U := (mn_st U cA cI N k.toNatClampNeg i).pushCell _) (show (mn_st U cA cI N k.toNatClampNeg i).vm.classes[cA]? = _ by rw [h1]; exact hkA) hkindA i _
    · exact mn_loop hkA hkindA hk hkind h0 hl hh hc hs hf hq j (i + 1) _ _ (by omega)
theorem mn_make {U : State} {cA cI cc : ClassId} {kA kI : Class} {n k : Int32} (hkA : U.vm.classes[cA]? = some kA) (hkindA : kA.kind = .array cI (.array .int)) (hk : U.vm.classes[cI]? = some kI) (hkind : kI.kind = .array cc .int) (n0 : ¬ n < 0) (h0 : ¬ k < 0) (nz : (n == 0) = false) (nl : ¬ n.toNatClampNeg > e.platform.arrayLengthLimit) (nh : ¬ n.toNatClampNeg * componentBytes (.array .int) > e.platform.maxHeapBytes) (hl : ¬ k.toNatClampNeg > e.platform.arrayLengthLimit) (hh : ¬ k.toNatClampNeg * componentBytes .int > e.platform.maxHeapBytes) (hc : U.heap.size + (1 + n.toNatClampNeg) ≤ e.platform.maxCells) (hs : U.slotsUsed + (n.toNatClampNeg + n.toNatClampNeg * k.toNatClampNeg) ≤ e.platform.maxSlots) {Q : Addr → Pre} (hq : ∀ d' acts', Q U.heap.size d' acts' (mn_st U cA cI n.toNatClampNeg k.toNatClampNeg n.toNatClampNeg)) : wp (multianewarray.make cA [n, k]) Q E e d acts U := by
  rw [multianewarray.make]
  simp only [wp_bind', W.ite, if_neg n0, wp_pure', W.theClass, hkA, Option.some.injEq, exists_eq_left', hkindA]
  refine W.newArray_of hkA hkindA nl nh (by omega) (by omega) rfl (fun acts' => ?_)
  simp only [nz, Bool.false_eq_true, if_false, wp_bind', W.ite, wp_pure', Std.Legacy.Range.forIn_eq_forIn_range', Std.Legacy.Range.size]
  refine mn_loop (N := n.toNatClampNeg) hkA hkindA hk hkind h0 hl hh hc hs (fun i u => rfl) (fun d' acts' => ?_) _ 0 _ _ ?_
  · exact hq _ _
  · simp
theorem mn_sem {U : State} {g : JFrame} {index : Nat} {cA cI cc : ClassId} {kA kI : Class} {n k : Int32} {rest : List Value} (ht : U.topJava?.isSome) (hr : U.vm.classReady g.method.cls index cA) (hst : g.stack = .int k :: .int n :: rest) (hkA : U.vm.classes[cA]? = some kA) (hkindA : kA.kind = .array cI (.array .int)) (hk : U.vm.classes[cI]? = some kI) (hkind : kI.kind = .array cc .int) (n0 : ¬ n < 0) (h0 : ¬ k < 0) (nz : (n == 0) = false) (nl : ¬ n.toNatClampNeg > e.platform.arrayLengthLimit) (nh : ¬ n.toNatClampNeg * componentBytes (.array .int) > e.platform.maxHeapBytes) (hl : ¬ k.toNatClampNeg > e.platform.arrayLengthLimit) (hh : ¬ k.toNatClampNeg * componentBytes .int > e.platform.maxHeapBytes) (hc : U.heap.size + (1 + n.toNatClampNeg) ≤ e.platform.maxCells) (hs : U.slotsUsed + (n.toNatClampNeg + n.toNatClampNeg * k.toNatClampNeg) ≤ e.platform.maxSlots) {Q : Unit → Pre} (hq : ∀ d' acts', Q () d' acts' ((mn_st U cA cI n.toNatClampNeg k.toNatClampNeg n.toNatClampNeg).setTop { g with stack := .ref U.heap.size :: rest })) : wp (multianewarray.sem index 2) Q E e d acts (U.setTop g) := by
  simp only [multianewarray.sem, wp_bind', W.resolveClassAt_ready (State.method?_setTop g ht) hr]
  refine (popN_top (f := g) (args := [.int n, .int k]) (rest := rest) ht hst).mpr ?_
  simp only [List.mapM_cons, List.mapM_nil, wp_bind', wp_pure']
  refine mn_make (U := U.setTop { g with stack := rest }) hkA hkindA hk hkind n0 h0 nz nl nh hl hh hc hs (fun d' acts' => ?_)
  simp only [wp_bind', W.mark, W.pushRef]
  rw [mn_st_top]
  have h7 : (mn_st U cA cI n.toNatClampNeg k.toNatClampNeg n.toNatClampNeg).topJava?.isSome := by
    rw [(mn_st_facts U cA cI n.toNatClampNeg k.toNatClampNeg n.toNatClampNeg).2.2.2.2.2.2]
    exact ht
  refine ⟨_, State.topJava?_setTop' _ h7, ?_⟩
  rw [State.setTop_setTop]
  exact hq _ _
theorem mn_cold {U : State} {g : JFrame} {index cA : Nat} {vm' : Vm} {Q : Unit → Pre} (ht : U.topJava?.isSome) (hg : (Jvm.resolveClass g.method.cls index).Gives e.toSetting U.vm (.ok cA) vm') (hr : vm'.classReady g.method.cls index cA) (hz : vm'.classes.size ≤ U.vm.classes.size) : wp (multianewarray.sem index 2) Q E e d acts (U.setTop g) ↔ wp (multianewarray.sem index 2) Q E e d acts ((U.setVm vm').setTop g) := by
  simp only [multianewarray.sem, wp_bind']
  exact W.resolveClassAt_transfer (s := U.setTop g) (State.method?_setTop g ht) hg hr hz
end MnWp
section MnLaw
variable {p : Program} {l : Launch} {e : Env} {R : Room} {s : State} {m : MethodId} {args : Array Value} {below : List Frame} {meth : Method} {c : Code} {T : State} {locs : List Loc} {cells slots : Nat}
theorem mn_law (X : Stand p l e R s m args below meth c T locs cells slots) (hexec : p.tables.exec = Jvm.exec) {own C : String} {index : Nat} (hown : s.vm.findClass own = some m.cls) (hclink : (Cond.classLink own index C).before args s = true) {cA cI cc : ClassId} {kA kI : Class} (hfA : s.vm.findClass C = some cA) (hkA : s.vm.classes[cA]? = some kA) (hkindA : kA.kind = .array cI (.array .int)) (hkI : s.vm.classes[cI]? = some kI) (hkindI : kI.kind = .array cc .int)
    {g : JFrame} (hg : g.method = m) (hdg : decode c.code g.pc = .ok (.multianewarray index 2, 4)) {n k : Int32} {N K : Nat} {rest : List Value} (hst : g.stack = .int k :: .int n :: rest) (n0 : ¬ n < 0) (h0 : ¬ k < 0) (nz : (n == 0) = false) (hN : n.toNatClampNeg = N) (hK : k.toNatClampNeg = K) (nb : N * 4 ≤ 536870912) (kb : K * 4 ≤ 536870912) (hc : cells + (1 + N) ≤ R.cells) (hs : slots + (N + N * K) ≤ R.slots) :
    ∃ vm₁ : Vm, Stand p l e R s m args below meth c (mn_st (T.setVm vm₁) cA cI N K N) (locs ++ mn_lc T.heap.size N) (cells + 1 + N) (slots + N + N * K) ∧ ∀ target, Steps p.tables e below ((mn_st (T.setVm vm₁) cA cI N K N).setTop { g with pc := g.pc + 4, stack := .ref T.heap.size :: rest }) target → Steps p.tables e below (T.setTop g) target := by
  subst hg hN hK
  have hpl : e.platform.magicAccessors = ({} : Platform).magicAccessors := by rw [X.admits.platform]
  obtain ⟨c2, hfc, hcl⟩ := Cond.classLink_spec hown hclink e.platform hpl
  cases hfA.symm.trans hfc
  obtain ⟨hg₁, hwarm₁, hready₁⟩ := State.classEntry (e := e) X.warmed hcl
  generalize T.vm.noted g.method.cls index (.cls cA) = vm₁ at hg₁ hwarm₁ hready₁
  have hal : s.vm.Alike vm₁ := hwarm₁.alike
  obtain ⟨kA₁, hkA₁, heA⟩ := hal.2.2 _ _ hkA
  obtain ⟨kI₁, hkI₁, heI⟩ := hal.2.2 _ _ hkI
  have hkindA₁ : kA₁.kind = .array cI (.array .int) := by rw [heA]; exact hkindA
  have hkindI₁ : kI₁.kind = .array cc .int := by rw [heI]; exact hkindI
  obtain ⟨hr1, hr2⟩ := X.roomAbove hc hs
  have l1 := Launch.admits_arrayLengthLimit X.admits
  have l2 := Launch.admits_maxHeapBytes X.admits
  have X₁ := X.noted hwarm₁
  refine ⟨vm₁, mn_stand X₁ cA cI _ _ _, fun target hrest => ?_⟩
  have hz : vm₁.classes.size ≤ T.vm.classes.size := by no_record
  refine Steps.instr (c := c) (by simpa using X.here) ?_
  simp only [hdg, hexec, wpRun, exec]
  rw [mn_cold X.here.top hg₁ hready₁ hz]
  refine mn_sem (U := T.setVm vm₁) X.here.top hready₁ hst hkA₁ hkindA₁ hkI₁ hkindI₁ n0 h0 nz (by rw [l1]; omega) (by rw [l2]; show ¬ _ * 4 > _; omega) (by rw [l1]; omega) (by rw [l2]; show ¬ _ * 4 > _; omega) hr1 hr2 (fun d' acts' acts2 => ?_)
  simp only [afterInstr]
  rw [State.modifyTopJava_setTop]
  exact hrest
end MnLaw
