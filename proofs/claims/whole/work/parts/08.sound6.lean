/-! calls -/
def pm_cw (Ts : List Cond) (y : MethodName) (bytes : ByteArray) (ml : Nat) (rt : Option FieldType) (hs : List (Nat × Nat × Nat × Nat)) : Prop := (Cond.code y bytes ml rt ∈ Ts ∧ hs = []) ∨ Cond.codeWith y bytes ml rt hs ∈ Ts
theorem pm_code {Ts : List Cond} {y : MethodName} {bytes : ByteArray} {ml : Nat} {rt : Option FieldType} {hs : List (Nat × Nat × Nat × Nat)} {s : State} {mk : MethodId} (hts : ∀ w ∈ Ts, ∀ a : Array Value, w.before a s = true) (h : pm_cw Ts y bytes ml rt hs) (hn : s.methodNamed? y = some mk) :
    ∃ methM cM, s.vm.method? mk = some methM ∧ methM.code = some cM ∧ cM.code = bytes ∧ cM.maxLocals = ml ∧ methM.sig.returnType = rt ∧ methM.locks = false ∧ cM.exceptionTable.toList.map (fun h => (h.startPc, h.endPc, h.handlerPc, h.catchType)) = hs ∧ parseMethodDescriptor y.desc = some methM.sig := by
  rcases h with ⟨h, rfl⟩ | h
  · obtain ⟨methM, cM, h1, h2, h3, h4, h5, h6, h7, h8⟩ := Cond.code_spec hn (hts _ h #[])
    refine ⟨methM, cM, h1, h2, h3, h4, h5, h6, ?_, h8⟩
    have : cM.exceptionTable = #[] := Array.isEmpty_iff.mp h7
    rw [this]; rfl
  · obtain ⟨m', methM, cM, h0, h1, h2, h3, h4, h5, h6, h7, h8⟩ := Cond.codeWith_spec (hts _ h #[])
    cases hn.symm.trans h0
    exact ⟨methM, cM, h1, h2, h3, h4, h6, h7, h5, h8⟩
theorem pm_named {Ts : List Cond} {y : MethodName} {bytes : ByteArray} {ml : Nat} {rt : Option FieldType} {hs : List (Nat × Nat × Nat × Nat)} {s : State} (hts : ∀ w ∈ Ts, ∀ a : Array Value, w.before a s = true) (h : pm_cw Ts y bytes ml rt hs) : ∃ mk, s.methodNamed? y = some mk := by
  rcases h with ⟨h, rfl⟩ | h
  · exact Cond.code_named (hts _ h #[])
  · obtain ⟨m', methM, cM, h0, -⟩ := Cond.codeWith_spec (hts _ h #[])
    exact ⟨m', h0⟩
/-- what a call's site needs: kinds 0, 1 virtual, 2, 3 static, 4, 5 a constructor; the odd ones between nest mates -/
def pm_sok (cl : List vw_C) (Ts Nw : List Cond) (own : String) (y : MethodName) (ix k ci n : Nat) : Prop :=
  (parseMethodDescriptor y.desc).map (fun d => d.parameters.length) = some n ∧
  ((k = 0 ∧ Cond.methodLink own ix y ∈ Ts) ∨ (k = 1 ∧ ∃ host, Cond.methodLinkNest own ix y host ∈ Nw) ∨ (k = 2 ∧ Cond.methodLink own ix y ∈ Ts) ∨ (k = 3 ∧ ∃ host, Cond.methodLinkNest own ix y host ∈ Nw) ∨ (k = 4 ∧ Cond.methodLink own ix y ∈ Ts) ∨ (k = 5 ∧ ∃ host, Cond.methodLinkNest own ix y host ∈ Nw)) ∧
  ((k = 0 ∨ k = 1) → Cond.instanceMethod y ∈ Ts ∧ ∃ C T N, cl[ci]? = some (C, T, N) ∧ Cond.selects C y y ∈ Ts) ∧ ((k = 2 ∨ k = 3) → Cond.static y ∈ Ts) ∧ ((k = 4 ∨ k = 5) → Cond.instanceMethod y ∈ Ts ∧ y.name = "<init>")
section PM5
variable {p : Program} {l : Launch} {e : Env} {R : Room} {s T : State} {m : MethodId} {args : Array Value} {below : List Frame} {meth : Method} {c : Code} {locs : List Loc} {cells slots : Nat}
variable {Ts Nw : List Cond} {own : String} {y : MethodName} {bytes : ByteArray} {ml ix k ci n : Nat} {rt : Option FieldType} {hs : List (Nat × Nat × Nat × Nat)} {cl : List vw_C}
/-- the invoking instruction is done: the callee is about to be entered -/
def pm_Inv (p : Program) (l : Launch) (e : Env) (R : Room) (s : State) (m : MethodId) (args : Array Value) (below : List Frame) (meth : Method) (c : Code) (T : State) (locs : List Loc) (cells slots : Nat) (g : JFrame) (rest : List Value) (y : MethodName) (a : Array Value) : Prop :=
  ∃ (mk : MethodId) (vm₁ : Vm), s.methodNamed? y = some mk ∧ s.WarmedH vm₁ ∧ Stand p l e R s m args below meth c (T.setVm vm₁) locs cells slots ∧ ∀ tg, (∀ acts, Steps p.tables e below (doInvoke e ((T.setVm vm₁).setTop { g with stack := rest }) acts mk a).1 tg) → Steps p.tables e below (T.setTop g) tg
theorem pm_invV (X : Stand p l e R s m args below meth c T locs cells slots) (hx : p.tables.exec = Jvm.exec) (hown : s.vm.findClass own = some m.cls) (hts : ∀ w ∈ Ts, ∀ a : Array Value, w.before a s = true) (hnw : ∀ w ∈ Nw, va_Nw w s) (hcw : pm_cw Ts y bytes ml rt hs) (hmh : y.cls ≠ "java/lang/invoke/MethodHandle" ∧ y.cls ≠ "java/lang/invoke/VarHandle") (hs : pm_sok cl Ts Nw own y ix k ci n) (hk : k = 0 ∨ k = 1)
    {C : String} {Tt : u_T} {N : Nat} (hc : cl[ci]? = some (C, Tt, N)) {b : Addr} {cellB : Cell} (hcell : T.heap[b]? = some cellB) (hobj : cellB.vm.isStatics = false) (hcls : s.vm.findClass C = some cellB.cls)
    {g : JFrame} (hg : g.method = m) {argsL rest : List Value} (hlen : argsL.length = n) (hstack : g.stack = argsL.reverse ++ .ref b :: rest) (hd : decode c.code g.pc = .ok (.invokevirtual ix, 3)) :
    pm_Inv p l e R s m args below meth c T locs cells slots g rest y (Value.ref b :: argsL).toArray := by
  obtain ⟨hpd, hlk, h01, -, -⟩ := hs
  obtain ⟨wi, C', T', N', hc', wsel⟩ := h01 hk
  cases hc.symm.trans hc'
  obtain ⟨mk, methM, hnamed, hmethM, hstM, habM⟩ := Cond.instanceMethod_spec (hts _ wi args)
  obtain ⟨methM', cM, hmethM', -, -, -, -, -, -, hsigM⟩ := pm_code hts hcw hnamed
  cases hmethM.symm.trans hmethM'
  obtain ⟨c2, r2, m2, q1, q2, q3, q4, kP, hkP, hkPi⟩ := Cond.selects_spec (hts _ wsel args)
  cases hcls.symm.trans q1
  cases (State.methodFound?_of_named hnamed hmh).symm.trans q2
  cases hnamed.symm.trans q3
  have hselP : selectMethod e.platform s.vm cellB.cls mk = .method mk := by rw [Launch.admits_selectMethod X.admits]; exact q4
  have hln : argsL.length = methM.sig.parameters.length := by
    rw [hsigM] at hpd
    rw [hlen]; exact (Option.some.inj hpd).symm
  rcases hlk with ⟨rfl, hlk⟩ | ⟨rfl, host, hlk⟩ | ⟨rfl, -⟩ | ⟨rfl, -⟩ | ⟨rfl, -⟩ | ⟨rfl, -⟩ <;> try (exfalso; omega)
  · obtain ⟨vm₁, X₁, hstep₁⟩ := X.invokevirtual hx hown (hts _ hlk args) hnamed hmethM hstM hkP hkPi hmh (a := b) (cell := cellB) hcell (fun z h => by rw [h] at hobj; cases hobj) hselP hmethM habM hkP hkPi (g := g) hg (argsL := argsL) (rest := rest) hln hstack hd
    exact ⟨mk, vm₁, hnamed, X₁.warmed, X₁, hstep₁⟩
  · obtain ⟨vm₁, X₁, hstep₁⟩ := X.invokevirtualNest hx hown (va_Nw.use rfl (hnw _ hlk)) hnamed hmethM hstM hkP hkPi hmh (a := b) (cell := cellB) hcell (fun z h => by rw [h] at hobj; cases hobj) hselP hmethM habM hkP hkPi (g := g) hg (argsL := argsL) (rest := rest) hln hstack hd
    exact ⟨mk, vm₁, hnamed, X₁.warmed, X₁, hstep₁⟩
theorem pm_invS (X : Stand p l e R s m args below meth c T locs cells slots) (hx : p.tables.exec = Jvm.exec) (hown : s.vm.findClass own = some m.cls) (hts : ∀ w ∈ Ts, ∀ a : Array Value, w.before a s = true) (hnw : ∀ w ∈ Nw, va_Nw w s) (hcw : pm_cw Ts y bytes ml rt hs) (hmh : y.cls ≠ "java/lang/invoke/MethodHandle" ∧ y.cls ≠ "java/lang/invoke/VarHandle") (hinit : Cond.initialized y.cls ∈ Ts) (hs : pm_sok cl Ts Nw own y ix k ci n) (hk : k = 2 ∨ k = 3)
    {g : JFrame} (hg : g.method = m) {argsL rest : List Value} (hlen : argsL.length = n) (hstack : g.stack = argsL.reverse ++ rest) (hd : decode c.code g.pc = .ok (.invokestatic ix, 3)) :
    pm_Inv p l e R s m args below meth c T locs cells slots g rest y argsL.toArray := by
  obtain ⟨hpd, hlk, -, h23, -⟩ := hs
  obtain ⟨mk, hnamed⟩ := pm_named hts hcw
  obtain ⟨methM, cM, hmethM, -, -, -, -, -, -, hsigM⟩ := pm_code hts hcw hnamed
  have hstatic : methM.isStatic = true := Cond.static_spec hnamed hmethM (hts _ (h23 hk) args)
  obtain ⟨kP, hkP, -⟩ := className_of_methodNamed hnamed
  have hinitP : kP.init = .initialized := Cond.initialized_spec (findClass_of_methodNamed hnamed) hkP (hts _ hinit args)
  have hln : argsL.length = methM.sig.parameters.length := by
    rw [hsigM] at hpd
    rw [hlen]; exact (Option.some.inj hpd).symm
  rcases hlk with ⟨rfl, -⟩ | ⟨rfl, -⟩ | ⟨rfl, hlk⟩ | ⟨rfl, host, hlk⟩ | ⟨rfl, -⟩ | ⟨rfl, -⟩ <;> try (exfalso; omega)
  · obtain ⟨vm₁, X₁, hstep₁⟩ := X.invokestatic hx hown (hts _ hlk args) hnamed hmethM hstatic hkP hinitP hmh (g := g) hg (argsL := argsL) (rest := rest) hln hstack hd
    exact ⟨mk, vm₁, hnamed, X₁.warmed, X₁, hstep₁⟩
  · obtain ⟨vm₁, X₁, hstep₁⟩ := X.invokestaticNest hx hown (va_Nw.use rfl (hnw _ hlk)) hnamed hmethM hstatic hkP hinitP hmh (g := g) hg (argsL := argsL) (rest := rest) hln hstack hd
    exact ⟨mk, vm₁, hnamed, X₁.warmed, X₁, hstep₁⟩
theorem pm_invI (X : Stand p l e R s m args below meth c T locs cells slots) (hx : p.tables.exec = Jvm.exec) (hown : s.vm.findClass own = some m.cls) (hts : ∀ w ∈ Ts, ∀ a : Array Value, w.before a s = true) (hnw : ∀ w ∈ Nw, va_Nw w s) (hcw : Cond.code y bytes ml none ∈ Ts) (hmh : y.cls ≠ "java/lang/invoke/MethodHandle" ∧ y.cls ≠ "java/lang/invoke/VarHandle") (hs : pm_sok cl Ts Nw own y ix k ci n) (hk : k = 4 ∨ k = 5)
    {g : JFrame} (hg : g.method = m) {b : Addr} {argsL rest : List Value} (hlen : argsL.length = n) (hstack : g.stack = argsL.reverse ++ .ref b :: rest) (hd : decode c.code g.pc = .ok (.invokespecial ix, 3)) :
    pm_Inv p l e R s m args below meth c T locs cells slots g rest y (Value.ref b :: argsL).toArray := by
  obtain ⟨hpd, hlk, -, -, h45⟩ := hs
  obtain ⟨wi, hnm⟩ := h45 hk
  have hpl : e.platform.magicAccessors = ({} : Platform).magicAccessors := by rw [X.admits.platform]
  have hln : ∀ sig, parseMethodDescriptor y.desc = some sig → argsL.length = sig.parameters.length := by
    intro sig h
    rw [h] at hpd
    rw [hlen]; exact (Option.some.inj hpd).symm
  subst hg
  rcases hlk with ⟨rfl, -⟩ | ⟨rfl, -⟩ | ⟨rfl, -⟩ | ⟨rfl, -⟩ | ⟨rfl, hlk⟩ | ⟨rfl, host, hlk⟩ <;> try (exfalso; omega)
  · obtain ⟨mk, methM, cM, kP, vm₁, hnamed, hmethM, hcodeM, -, hlocalsM, -, hkP, -, hW₁, hstep₁⟩ := Steps.initColdArgs (e := e) X.here hx X.warmed hpl hown hnm hmh (hts _ hlk args) (hts _ wi args) (hts _ hcw args) (f := g) rfl hln hstack hd
    exact ⟨mk, vm₁, hnamed, hW₁, X.noted hW₁, hstep₁⟩
  · obtain ⟨mk, methM, cM, kP, vm₁, hnamed, hmethM, hcodeM, -, hlocalsM, -, hkP, -, hW₁, hstep₁⟩ := Steps.initColdArgsNest (e := e) X.here hx X.warmed hpl hown hnm hmh (va_Nw.use rfl (hnw _ hlk)) (hts _ wi args) (hts _ hcw args) (f := g) rfl hln hstack hd
    exact ⟨mk, vm₁, hnamed, hW₁, X.noted hW₁, hstep₁⟩
end PM5
theorem pm_lgsz : ∀ vs : List Value, (lg_sl vs).length = (vs.map fun v => v.category).sum
  | [] => rfl
  | v :: vs => by
    have h := pm_lgsz vs
    rcases lv_cat v with hv | hv <;> simp [lg_sl, hv] at h ⊢ <;> omega
theorem pm_args_rl (z : Nat) (so : UInt32 → Nat) : ∀ (vs : List Value) (i : Nat), lv_args i (pm_rs z so vs) = pm_rl z so (lv_args i vs)
  | [], _ => rfl
  | v :: vs, i => by
    show (i, pm_rv z so v) :: lv_args (if (pm_rv z so v).category = 2 then i + 2 else i + 1) (pm_rs z so vs) = (i, pm_rv z so v) :: pm_rl z so (lv_args (if v.category = 2 then i + 2 else i + 1) vs)
    rw [pm_cat, pm_args_rl z so vs]
