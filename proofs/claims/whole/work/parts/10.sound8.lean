/-! THE PURE MACHINE TELLS THE TRUTH: where it comes to an end, the JVM does, with the same answer and the same heap -/
/-- what the tables and the old heap say at every state of the run -/
def pm_facts (P : pm_P) (cl : List vw_C) (Ts Tx Nw : List Cond) (SC : String) (SL : List (String × String × String × UInt32)) (CL : List (Nat × Nat × String)) (z : Nat) (so : UInt32 → Nat) (cA : Nat → ClassId) (D : va_G) (U : State) : Prop :=
  (∀ w ∈ Ts, ∀ a : Array Value, w.before a U = true) ∧ (∀ w ∈ Tx, ∀ a : Array Value, w.before a U = true) ∧ (∀ w ∈ Nw, va_Nw w U) ∧ va_K D cl [(cA 0, .int), (cA 1, .long), (cA 2, .object SC)] U ∧ va_AO SC U ∧
  (∀ a : UInt32, a < 3 → va_T .int (so a) (pm_old P a).1 (fun j => .int ((pm_old P a).2 j)) (fun q => z ≤ q) U U.heap) ∧ (∀ q ∈ SL, va_Z q.1 q.2.1 q.2.2.1 (.ref (so q.2.2.2)) (fun q => z ≤ q) U U.heap) ∧ (∀ q ∈ CL, ∃ cT, U.vm.findClass q.2.2 = some cT ∧ U.vm.assignable (D.1 q.1) cT = pm_isa P q.1 q.2.1)
def pm_rm (fr lo : Nat) : Room := { frames := fr, cells := 0, slots := 0, locals := lo }
/-- what a method needs of the tables -/
def pm_mok (P : pm_P) (mm : Nat → MethodName × ByteArray) (rf : Nat → Nat × Nat) (dm : Nat → Bool) (cl : List vw_C) (Ts Tx Nw : List Cond) (SC : String) (SL : List (String × String × String × UInt32)) (CL : List (Nat × Nat × String)) (z : Nat) (so : UInt32 → Nat) (mi : Nat) : Prop :=
  (mi ≠ 0 ∧ pm_cw Ts (mm mi).1 (mm mi).2 (pm_mxl P mi) (pm_ret P mi) (pm_hdl P mi) ∧ Cond.initialized (mm mi).1.cls ∈ Ts ∧ plainFor (mm mi).1 = true ∧ ((mm mi).1.cls ≠ "java/lang/invoke/MethodHandle" ∧ (mm mi).1.cls ≠ "java/lang/invoke/VarHandle") ∧ ∀ pc i n, pm_cod P mi pc = some (i, n) → decode (mm mi).2 pc = .ok (i, n)) ∧
  (∀ ix v, pm_cst P mi ix = some v → pm_cok Ts (mm mi).1.cls ix v) ∧
  (∀ ix kd ci k ty, pm_fld P mi ix = some (kd, ci, k, ty) → pm_fok cl Ts Nw (mm mi).1.cls (decide ((mm mi).1.name = "<init>")) ix kd ci k ty) ∧
  (∀ ix ci fs, pm_mak P mi ix = some (ci, fs) → pm_nok z so cl Ts (mm mi).1.cls ix ci fs) ∧
  (∀ ix ci, pm_arr P mi ix = some ci → Cond.classLink (mm mi).1.cls ix SC ∈ Ts) ∧
  (∀ ix q, pm_cal P mi ix = some (6, q) → pm_k6 Ts (mm mi).1.cls (pm_rm (rf mi).1 (rf mi).2) ix) ∧
  (∀ ix q, pm_cal P mi ix = some (7, q) → pm_k7 Ts (mm mi).1.cls (pm_rm (rf mi).1 (rf mi).2) ix) ∧
  (∀ ix k ci y n, pm_cal P mi ix = some (k, ci, y, n) → k < 6 → dm y = true ∧ pm_sok cl Ts Nw (mm mi).1.cls (mm y).1 ix k ci n ∧ (rf y).1 + 1 ≤ (rf mi).1 ∧ 8 + (pm_mxl P y + 11) + (rf y).2 ≤ (rf mi).2 ∧ (k = 4 ∨ k = 5 → pm_ret P y = none ∧ pm_hdl P y = [] ∧ Cond.code (mm y).1 (mm y).2 (pm_mxl P y) none ∈ Ts)) ∧
  (∀ pc ci, pm_exc P mi pc = some ci → pm_xok cl (Ts ++ Tx) (mm mi).1.cls (mm mi).2 (pm_rm (rf mi).1 (rf mi).2) pc ci ∧ pm_hdl P mi = []) ∧
  (∀ ix i, pm_sta P mi ix = some i → ∃ C n d, (C, n, d, i) ∈ SL ∧ (Cond.fieldLink (mm mi).1.cls ix C n d ∈ Ts ∨ ∃ host, Cond.fieldLinkNest (mm mi).1.cls ix C n d host ∈ Nw)) ∧
  (∀ h ∈ pm_hdl P mi, h.2.2.2 ≠ 0 ∧ ∃ name, Cond.classLink (mm mi).1.cls h.2.2.2 name ∈ Ts ∧ ∀ ci, pm_isa P ci 0 = true → (ci, h.2.2.2, name) ∈ CL)
/-- a frame of method mi -/
def pm_fr (P : pm_P) (mm : Nat → MethodName × ByteArray) (rf : Nat → Nat × Nat) (z : Nat) (s0 : State) (H0 : Heap) (mi : Nat) (p : Program) (R : Room) (s : State) (m : MethodId) (meth : Method) (c : Code) : Prop :=
  (p.tables.exec = Jvm.exec ∧ c.code = (mm mi).2 ∧ c.maxLocals = pm_mxl P mi ∧ meth.sig.returnType = pm_ret P mi ∧ meth.locks = false ∧ meth.name = (mm mi).1.name ∧ c.exceptionTable.toList.map (fun h => (h.startPc, h.endPc, h.handlerPc, h.catchType)) = pm_hdl P mi) ∧
  s.vm.findClass (mm mi).1.cls = some m.cls ∧ (rf mi).1 ≤ R.frames ∧ (rf mi).2 ≤ R.locals ∧ s0.WarmedH s.vm ∧ ∀ q : Nat, q < z → s.heap[q]? = H0[q]?
theorem pm_k6.mono {Ts : List Cond} {own : String} {fr lo ix : Nat} {R : Room} (h : pm_k6 Ts own (pm_rm fr lo) ix) (h1 : fr ≤ R.frames) (h2 : lo ≤ R.locals) : pm_k6 Ts own R ix := ⟨h.1, h.2.1, h.2.2.1, Nat.le_trans h.2.2.2.1 h1, Nat.le_trans h.2.2.2.2 h2⟩
theorem pm_k7.mono {Ts : List Cond} {own : String} {fr lo ix : Nat} {R : Room} (h : pm_k7 Ts own (pm_rm fr lo) ix) (h1 : fr ≤ R.frames) (h2 : lo ≤ R.locals) : pm_k7 Ts own R ix := ⟨h.1, h.2.1, h.2.2.1, h.2.2.2.1, Nat.le_trans h.2.2.2.2.1 h1, Nat.le_trans h.2.2.2.2.2 h2⟩
theorem pm_xok.mono {cl : List vw_C} {Ts : List Cond} {own : String} {cc : ByteArray} {fr lo pc ci : Nat} {R : Room} (h : pm_xok cl Ts own cc (pm_rm fr lo) pc ci) (h1 : fr ≤ R.frames) (h2 : lo ≤ R.locals) : pm_xok cl Ts own cc R pc ci := by
  obtain ⟨X, T, names, ix, ic, a1, a2, a3, a4, a5, a6, a7, a8, a9, a10, a11, a12⟩ := h
  exact ⟨X, T, names, ix, ic, a1, a2, a3, a4, a5, a6, a7, a8, a9, a10, Nat.lt_of_lt_of_le a11 h1, Nat.le_trans a12 h2⟩
theorem pm_weaken {tb : Tables} {e : Env} {f : Frame} {below : List Frame} {a b : State} (h : Steps tb e (f :: below) a b) : Steps tb e below a b := by
  obtain ⟨n, h1, h2⟩ := h
  exact ⟨n, h1, fun k hk => Within.weaken (mid := [f]) (h2 k hk)⟩
