/-! Math.max, min, floorMod -/
def imax (x y : Int32) : Int32 := if x < y then y else x
def imin (x y : Int32) : Int32 := if y < x then y else x
def lmin (x y : Int64) : Int64 := if y < x then y else x
def fmodI (x y : Int32) : Int32 := if x % y < 0 then x % y + y else x % y
/-! what Math.floorMod answers, as its bytecode goes -/
def f_J_floorMod (v0 : Int32) (v1 : Int32) (D : Dt) : Option (Int32 × Dt) :=
  (if v1 = 0 then none else (if 0 ≤ (v0 ^^^ v1) then some (v0 % v1, D) else (if (v0 % v1) = 0 then some (v0 % v1, D) else some ((v0 % v1) + v1, D))))
theorem i32_msb (x : Int32) : x.toBitVec.msb = decide (x.toInt < 0) := by
  rw [BitVec.msb_eq_toInt]; rfl
theorem xor_ge {x y : Int32} (hy : 0 < y) : (0 ≤ (x ^^^ y)) ↔ 0 ≤ x := by
  have h0 : (0 : Int32).toInt = 0 := by decide
  rw [Int32.lt_iff_toInt_lt, h0] at hy
  rw [Int32.le_iff_toInt_le, Int32.le_iff_toInt_le, h0]
  have e := i32_msb (x ^^^ y)
  rw [Int32.toBitVec_xor, BitVec.msb_xor, i32_msb x, i32_msb y, show decide (y.toInt < 0) = false from decide_eq_false (by omega), Bool.xor_false] at e
  have := decide_eq_decide.mp e
  omega
theorem f_fmod {x y : Int32} (hy : 0 < y) (D : Dt) : f_J_floorMod x y D = some (fmodI x y, D) := by
  have h0 : (0 : Int32).toInt = 0 := by decide
  have hy1 := hy
  rw [Int32.lt_iff_toInt_lt, h0] at hy1
  have ym : 0 < y.toInt := hy1
  have em : (x % y).toInt = x.toInt.tmod y.toInt := Int32.toInt_mod x y
  unfold f_J_floorMod fmodI
  rw [if_neg (fun q => by rw [q, h0] at ym; omega)]
  by_cases c : 0 ≤ x
  · rw [if_pos ((xor_ge hy).mpr c), if_neg]
    rw [Int32.lt_iff_toInt_lt, em, h0]
    rw [Int32.le_iff_toInt_le, h0] at c
    have := Int.tmod_nonneg y.toInt c
    omega
  · rw [if_neg (fun q => c ((xor_ge hy).mp q))]
    rw [Int32.le_iff_toInt_le, h0] at c
    have h1 := Int.tmod_nonneg y.toInt (show 0 ≤ -x.toInt by omega)
    rw [Int.neg_tmod] at h1
    by_cases d : x % y = 0
    · rw [if_pos d, if_neg]
      rw [d]; decide
    · have d' : (x % y).toInt ≠ 0 := fun q => d (Int32.toInt_inj.mp (by rw [q, h0]))
      rw [if_neg d, if_pos]
      rw [Int32.lt_iff_toInt_lt, h0]
      omega
/-! Math.floorMod's contract -/
theorem fm_row0 : (NativeRow.find? natives y_J_floorMod.cls y_J_floorMod.name y_J_floorMod.desc).isNone = true := by decide +kernel
theorem fm_row (p : Program) : NativeRow.find? p.tables.natives y_J_floorMod.cls y_J_floorMod.name y_J_floorMod.desc = none := by
  cases p <;> exact Option.isNone_iff_eq_none.mp fm_row0
def fm_spec : Spec where
  pre := .and (.code y_J_floorMod b_J_floorMod 3 (some .int)) (.and (.count 2) (.and (.isInt (.arg 0)) (.and (.isInt (.arg 1)) (.lt (.int 0) (.arg 1)))))
  post := .and .returned (.or (.and (.lt (.rem (.arg 0) (.arg 1)) (.int 0)) (.eq .result (.add (.rem (.arg 0) (.arg 1)) (.arg 1)))) (.and (.not (.lt (.rem (.arg 0) (.arg 1)) (.int 0))) (.eq .result (.rem (.arg 0) (.arg 1)))))
  changes := some []
theorem fm_0 : decode b_J_floorMod 0 = .ok (.iload_n 0, 1) := by decide +kernel
theorem fm_1 : decode b_J_floorMod 1 = .ok (.iload_n 1, 1) := by decide +kernel
theorem fm_2 : decode b_J_floorMod 2 = .ok (.irem, 1) := by decide +kernel
theorem fm_3 : decode b_J_floorMod 3 = .ok (.istore_n 2, 1) := by decide +kernel
theorem fm_4 : decode b_J_floorMod 4 = .ok (.iload_n 0, 1) := by decide +kernel
theorem fm_5 : decode b_J_floorMod 5 = .ok (.iload_n 1, 1) := by decide +kernel
theorem fm_6 : decode b_J_floorMod 6 = .ok (.ixor, 1) := by decide +kernel
theorem fm_7 : decode b_J_floorMod 7 = .ok (.ifCond .ge 11, 3) := by decide +kernel
theorem fm_10 : decode b_J_floorMod 10 = .ok (.iload_n 2, 1) := by decide +kernel
theorem fm_11 : decode b_J_floorMod 11 = .ok (.ifCond .eq 7, 3) := by decide +kernel
theorem fm_14 : decode b_J_floorMod 14 = .ok (.iload_n 2, 1) := by decide +kernel
theorem fm_15 : decode b_J_floorMod 15 = .ok (.iload_n 1, 1) := by decide +kernel
theorem fm_16 : decode b_J_floorMod 16 = .ok (.iadd, 1) := by decide +kernel
theorem fm_17 : decode b_J_floorMod 17 = .ok (.ireturn, 1) := by decide +kernel
theorem fm_18 : decode b_J_floorMod 18 = .ok (.iload_n 2, 1) := by decide +kernel
theorem fm_19 : decode b_J_floorMod 19 = .ok (.ireturn, 1) := by decide +kernel
theorem fm_meets (l : Launch) : MeetsLoose l y_J_floorMod fm_spec := by
  refine MeetsLoose.of_body_ov (code := b_J_floorMod) (maxLocals := 3) (ret := some .int) fm_row ?_ ?_
  · intro args s h
    simp only [fm_spec, Cond.before_and, Bool.and_eq_true] at h
    exact h.1
  · intro p e s m args below meth c s₁ B
    have hpre := B.pre
    simp only [fm_spec, Cond.before_and, Bool.and_eq_true] at hpre
    obtain ⟨a, b, rfl⟩ := Cond.two_ints hpre.2.1 hpre.2.2.1 hpre.2.2.2.1
    have hb : 0 < b := by
      have q := hpre.2.2.2.2
      simpa [Cond.before, Cond.holds, Cond.value, Term.eval] using q
    have hb0 : b ≠ 0 := fun q => by rw [q] at hb; revert hb; decide
    have hloc : argsToLocals #[.int a, .int b] 3 = #[.val (.int a), .val (.int b), .unset] := rfl
    have hpost : fm_spec.post.after #[.int a, .int b] s (.returned (some (.int (fmodI a b)))) = fun _ => true := by
      funext s'
      unfold fmodI
      by_cases h : a % b < 0
      · simp [fm_spec, Cond.after, Cond.holds, Cond.value, Term.eval, h, hb0]
      · simp [fm_spec, Cond.after, Cond.holds, Cond.value, Term.eval, h, hb0]
    obtain ⟨fs, hfs⟩ := handOver_isSome (s := s₁) (some (.int (fmodI a b))) B.hears₁
    refine ⟨s₁.setFrames fs, .returned (some (.int (fmodI a b))), ?_, B.here.running, B.ended hfs (by intro h; cases h), ?_, State.sameBut_nil.mpr ?_⟩
    · have hf := f_fmod (x := a) (y := b) hb (fun _ _ => 0)
      unfold f_J_floorMod at hf
      rw [if_neg hb0] at hf
      unfold entryFrame; rw [hloc]
      refine Steps.instrAtOv (c := _) (by simpa using B.here) ?_
      simp [jvm, wpRun, exec, B.here.top, B.exec, B.bytes, fm_0]
      refine Steps.instrAtOv (c := _) (by simpa using B.here) ?_
      simp [jvm, wpRun, exec, B.here.top, B.exec, B.bytes, fm_1]
      refine Steps.instrAtOv (c := _) (by simpa using B.here) ?_
      simp [jvm, wpRun, exec, B.here.top, B.exec, B.bytes, fm_2, hb0, irem_eq_mod]
      refine Steps.instrAtOv (c := _) (by simpa using B.here) ?_
      simp [jvm, wpRun, exec, B.here.top, B.exec, B.bytes, fm_3]
      refine ⟨#[.val (.int a), .val (.int b), .val (.int (a % b))], rfl, ?_⟩
      refine Steps.instrAtOv (c := _) (by simpa using B.here) ?_
      simp [jvm, wpRun, exec, B.here.top, B.exec, B.bytes, fm_4]
      refine Steps.instrAtOv (c := _) (by simpa using B.here) ?_
      simp [jvm, wpRun, exec, B.here.top, B.exec, B.bytes, fm_5]
      refine Steps.instrAtOv (c := _) (by simpa using B.here) ?_
      simp [jvm, wpRun, exec, B.here.top, B.exec, B.bytes, fm_6]
      by_cases c : 0 ≤ (a ^^^ b)
      · rw [if_pos c] at hf
        have hr : fmodI a b = a % b := by injection hf with hf; injection hf with hf _; exact hf.symm
        rw [hr] at hfs
        refine Steps.instrAtOv (c := _) (by simpa using B.here) ?_
        simp [jvm, wpRun, exec, B.here.top, B.exec, B.bytes, fm_7, ifCond.holds, c]
        refine Steps.instrAtOv (c := _) (by simpa using B.here) ?_
        simp [jvm, wpRun, exec, B.here.top, B.exec, B.bytes, fm_18]
        refine Steps.instrAtOv (c := _) (by simpa using B.here) ?_
        simp [jvm, wpRun, exec, B.here.top, B.exec, B.bytes, fm_19, B.method₁, B.returns, narrow]
        intro acts
        rw [ret_to B.frames₁ B.method₁ B.notSynchronized rfl rfl hfs]
        exact Steps.refl _
      · rw [if_neg c] at hf
        refine Steps.instrAtOv (c := _) (by simpa using B.here) ?_
        simp [jvm, wpRun, exec, B.here.top, B.exec, B.bytes, fm_7, ifCond.holds, c]
        refine Steps.instrAtOv (c := _) (by simpa using B.here) ?_
        simp [jvm, wpRun, exec, B.here.top, B.exec, B.bytes, fm_10]
        by_cases d : a % b = 0
        · rw [if_pos d] at hf
          have hr : fmodI a b = a % b := by injection hf with hf; injection hf with hf _; exact hf.symm
          rw [hr, d] at hfs
          refine Steps.instrAtOv (c := _) (by simpa using B.here) ?_
          simp [jvm, wpRun, exec, B.here.top, B.exec, B.bytes, fm_11, ifCond.holds, d]
          refine Steps.instrAtOv (c := _) (by simpa using B.here) ?_
          simp [jvm, wpRun, exec, B.here.top, B.exec, B.bytes, fm_18]
          refine Steps.instrAtOv (c := _) (by simpa using B.here) ?_
          simp [jvm, wpRun, exec, B.here.top, B.exec, B.bytes, fm_19, B.method₁, B.returns, narrow]
          intro acts
          rw [ret_to B.frames₁ B.method₁ B.notSynchronized rfl rfl hfs]
          exact Steps.refl _
        · rw [if_neg d] at hf
          have hr : fmodI a b = a % b + b := by injection hf with hf; injection hf with hf _; exact hf.symm
          rw [hr] at hfs
          refine Steps.instrAtOv (c := _) (by simpa using B.here) ?_
          simp [jvm, wpRun, exec, B.here.top, B.exec, B.bytes, fm_11, ifCond.holds, d]
          refine Steps.instrAtOv (c := _) (by simpa using B.here) ?_
          simp [jvm, wpRun, exec, B.here.top, B.exec, B.bytes, fm_14]
          refine Steps.instrAtOv (c := _) (by simpa using B.here) ?_
          simp [jvm, wpRun, exec, B.here.top, B.exec, B.bytes, fm_15]
          refine Steps.instrAtOv (c := _) (by simpa using B.here) ?_
          simp [jvm, wpRun, exec, B.here.top, B.exec, B.bytes, fm_16]
          refine Steps.instrAtOv (c := _) (by simpa using B.here) ?_
          simp [jvm, wpRun, exec, B.here.top, B.exec, B.bytes, fm_17, B.method₁, B.returns, narrow]
          intro acts
          rw [ret_to B.frames₁ B.method₁ B.notSynchronized rfl rfl hfs]
          exact Steps.refl _
    · rw [hpost]
    · rw [State.frames_setFrames _ B.cur₁, B.back]
theorem fm_V {p : Program} {l : Launch} {e : Env} {R : Room} {s : State} {m : MethodId} {args : Array Value} {below : List Frame} {meth : Method} {c : Code} {cells slots : Nat} {T : State} {locs : List Loc} (X : Stand p l e R s m args below meth c T locs cells slots) (hexec : p.tables.exec = Jvm.exec) {own : String} {index : Nat} (hown : s.vm.findClass own = some m.cls)
    (hlink : (Cond.methodLink own index y_J_floorMod).before args s = true) (hstat : (Cond.static y_J_floorMod).before args s = true) (hinit : (Cond.initialized "java/lang/Math").before args s = true)
    (hcode : (Cond.code y_J_floorMod b_J_floorMod 3 (some .int)).before args s = true)
    {g : JFrame} (hg : g.method = m) (hsize : g.locals.size = c.maxLocals) {a b : Int32} (hb : 0 < b) {rest : List Value} (hstack : g.stack = .int b :: .int a :: rest) (hdg : decode c.code g.pc = .ok (.invokestatic index, 3))
    (hframes : 1 ≤ R.frames) (hlocals : 2 * g.monitorRoom + (rest.map fun v => v.category).sum + 14 ≤ R.locals) (hcells : cells ≤ R.cells) (hslots : slots ≤ R.slots) :
    ∃ vm', Stand p l e R s m args below meth c (T.setVm vm') locs cells slots ∧
      ∀ target, Steps p.tables e below ((T.setVm vm').setTop { g with pc := g.pc + 3, stack := .int (fmodI a b) :: rest }) target → Steps p.tables e below (T.setTop g) target := by
  have hb0 : b ≠ 0 := fun q => by rw [q] at hb; revert hb; decide
  obtain ⟨v, T', X', ⟨first, t, hpost⟩, hstep⟩ := X.staticByContractV hexec hown hlink hstat hinit hcode (by decide)
    (fm_meets l)
    rfl rfl rfl rfl
    (fun args' first o s₂ h => by
      cases o with
      | returned r => exact ⟨r, rfl⟩
      | threw y =>
        have hz : fm_spec.post.value args' first (some (.threw y)) s₂ [] = some true := by simpa [Cond.after, Cond.holds] using h
        exact absurd hz va_nvRet)
    hg hsize (argsL := [.int a, .int b]) (rest := rest)
    (fun sig hs => by
      have h : parseMethodDescriptor "(II)I" = some { parameters := [.int, .int], returnType := some .int } := by decide +kernel
      rw [show y_J_floorMod.desc = "(II)I" from rfl, h] at hs
      rw [← Option.some.inj hs]; rfl)
    hstack hdg
    (fun vm' hW => by
      simp only [fm_spec, Cond.before_and, Bool.and_eq_true]
      refine ⟨?_, rfl, rfl, rfl, ?_⟩
      · have q := hcode
        rw [← Cond.code_setVm hW.alike] at q
        simp only [Cond.before, Cond.holds, Cond.value, State.methodNamed?, State.vm_setVm] at q ⊢
        exact q
      · simpa [Cond.before, Cond.holds, Cond.value, Term.eval] using hb)
    (by show 0 + 1 ≤ R.frames; omega) (by show 2 * g.monitorRoom + (rest.map fun v => v.category).sum + (3 + 11) + 0 ≤ R.locals; omega) (by show cells + 0 ≤ R.cells; omega) (by show slots + 0 ≤ R.slots; omega)
  refine ⟨T', X', fun target h => hstep target ?_⟩
  obtain rfl : v = some (.int (fmodI a b)) := by
    unfold fmodI
    by_cases h1 : a % b < 0
    · rw [if_pos h1]
      rcases v with _ | w
      · simp [fm_spec, Cond.after, Cond.holds, Cond.value, Term.eval, h1, hb0] at hpost
      · cases w <;> simp [fm_spec, Cond.after, Cond.holds, Cond.value, Term.eval, h1, hb0] at hpost
        first | (simp [hpost]; done) | (rename_i r; by_cases hr : r = a % b + b <;> simp [hr] at hpost ⊢)
    · rw [if_neg h1]
      rcases v with _ | w
      · simp [fm_spec, Cond.after, Cond.holds, Cond.value, Term.eval, h1, hb0] at hpost
      · cases w <;> simp [fm_spec, Cond.after, Cond.holds, Cond.value, Term.eval, h1, hb0] at hpost
        first | (simp [hpost]; done) | (rename_i r; by_cases hr : r = a % b <;> simp [hr] at hpost ⊢)
  exact h
theorem r_fmod {Γ : GmT} {own : String} {cc : ByteArray} {nL fr : Nat} {rt : Option FieldType} {r : Option Value} {D' : Dt} {G : Dt → Nat → List (Nat × Value) → List Value → Prop} {D : Dt} {pc ix : Nat} {lv : List (Nat × Value)} {st0 : List Value} (C : Cx Γ own cc nL fr rt r D' G) {α : Type} {T : Option α} {z : α} {x y : Int32} (hw : Cond.methodLink own ix y_J_floorMod ∈ GW) (hfr : 1 ≤ fr) (hloc : (st0.map fun v => v.category).sum + 14 ≤ 40 * fr) (d : decode cc pc = .ok (.invokestatic ix, 3)) (hf : (if 0 < y then T else none) = some z) (k : T = some z → G D (pc + 3) lv (.int (fmodI x y) :: st0)) : G D pc lv (.int y :: .int x :: st0) := by
  by_cases hy : 0 < y
  · rw [if_pos hy] at hf
    have k := k hf
    obtain ⟨p, e, s, m, args, below, meth, c, hx, hb, hml, hr, hlk, hown, hts, hSt, rfl⟩ := C
    intro H locs ls hP hS hl
    have kk := k H locs ls hP hS hl
    intro T hT X
    obtain ⟨vm', X', st⟩ := fm_V X hx hown (hts _ hw) (hts _ ok_J_floorMod.1) (hts _ ok_J_floorMod.2.1) (hts _ ok_J_floorMod.2.2.1) (g := F0 m pc ls (.int y :: .int x :: st0)) rfl (by show ls.size = _; rw [hml]; exact hl.1) (a := x) (b := y) hy (rest := st0) rfl (by rw [hb]; exact d) hfr (by show 2 * 0 + _ + 14 ≤ _; rw [Nat.mul_zero, Nat.zero_add]; exact hloc) (Nat.le_refl 0) (Nat.le_refl 0)
    obtain ⟨t, a1, b1⟩ := kk (T.setVm vm') hT X'
    exact ⟨t, st t a1, b1⟩
  · rw [if_neg hy] at hf
    cases hf
section MathG
variable {Γ : GmT} {own : String} {cc : ByteArray} {nL fr : Nat} {rt : Option FieldType} {r : Option Value} {D' : Dt} {G : Dt → Nat → List (Nat × Value) → List Value → Prop} {D : Dt} {pc ix : Nat} {lv lv' : List (Nat × Value)} {st0 : List Value}
theorem mcode1 : Cond.code Lib.Math.max.name Lib.Math.max.code 2 (some .int) ∈ GW := by
  have h : Lib.Math.max.code = b_J_max := by decide +kernel
  rw [h]
  exact ok_J_max.2.2.1
theorem mcode2 : Cond.code Lib.Math.min.name Lib.Math.min.code 2 (some .int) ∈ GW := by
  have h : Lib.Math.min.code = b_J_min := by decide +kernel
  rw [h]
  exact ok_J_min.2.2.1
theorem mcode3 : Cond.code Lib.MathLoose.min_long.x Lib.MathLoose.min_long.code 4 (some .long) ∈ GW := by
  have h : Lib.MathLoose.min_long.code = b_J_minL := by decide +kernel
  rw [h]
  exact ok_J_minL.2.2.1
theorem r_mmax (C : Cx Γ own cc nL fr rt r D' G) {x y : Int32} (hw : Cond.methodLink own ix y_J_max ∈ GW) (hfr : 1 ≤ fr) (hloc : (st0.map fun v => v.category).sum + 13 ≤ 40 * fr) (d : decode cc pc = .ok (.invokestatic ix, 3)) (k : G D (pc + 3) lv (.int (imax x y) :: st0)) : G D pc lv (.int y :: .int x :: st0) := by
  obtain ⟨p, e, s, m, args, below, meth, c, hx, hb, hml, hr, hlk, hown, hts, hSt, rfl⟩ := C
  intro H locs ls hP hS hl
  exact va_mmax hx hb (hml.trans hl.1.symm) hown (hts _ hw) (hts _ ok_J_max.1) (hts _ ok_J_max.2.1) (hts _ mcode1) hfr hloc (Nat.le_refl 0) (Nat.le_refl 0) d (k H locs ls hP hS hl)
theorem r_mmin (C : Cx Γ own cc nL fr rt r D' G) {x y : Int32} (hw : Cond.methodLink own ix y_J_min ∈ GW) (hfr : 1 ≤ fr) (hloc : (st0.map fun v => v.category).sum + 13 ≤ 40 * fr) (d : decode cc pc = .ok (.invokestatic ix, 3)) (k : G D (pc + 3) lv (.int (imin x y) :: st0)) : G D pc lv (.int y :: .int x :: st0) := by
  obtain ⟨p, e, s, m, args, below, meth, c, hx, hb, hml, hr, hlk, hown, hts, hSt, rfl⟩ := C
  intro H locs ls hP hS hl
  exact va_mmin hx hb (hml.trans hl.1.symm) hown (hts _ hw) (hts _ ok_J_min.1) (hts _ ok_J_min.2.1) (hts _ mcode2) hfr hloc (Nat.le_refl 0) (Nat.le_refl 0) d (k H locs ls hP hS hl)
theorem r_mminl (C : Cx Γ own cc nL fr rt r D' G) {x y : Int64} (hw : Cond.methodLink own ix y_J_minL ∈ GW) (hfr : 1 ≤ fr) (hloc : (st0.map fun v => v.category).sum + 15 ≤ 40 * fr) (d : decode cc pc = .ok (.invokestatic ix, 3)) (k : G D (pc + 3) lv (.long (lmin x y) :: st0)) : G D pc lv (.long y :: .long x :: st0) := by
  obtain ⟨p, e, s, m, args, below, meth, c, hx, hb, hml, hr, hlk, hown, hts, hSt, rfl⟩ := C
  intro H locs ls hP hS hl
  exact va_mmin_long hx hb (hml.trans hl.1.symm) hown (hts _ hw) (hts _ ok_J_minL.1) (hts _ ok_J_minL.2.1) (hts _ mcode3) hfr hloc (Nat.le_refl 0) (Nat.le_refl 0) d (k H locs ls hP hS hl)
end MathG
