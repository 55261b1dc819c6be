/-! the end of a method: it returns, or makes an exception and throws it -/
def pm_oc (z : Nat) (so : UInt32 → Nat) : pm_O → Outcome
  | .inl v => .returned (v.map (pm_rv z so))
  | .inr a => .threw (z + a)
def pm_Q (z : Nat) (so : UInt32 → Nat) (cA : Nat → ClassId) (D : va_G) (cl : List vw_C) (H0 : Heap) (below : List Frame) (s : State) (o : pm_O) (σ' : pm_S) (mc ms : Nat) : State → Prop := fun t =>
  t.status = .running ∧ Ended t below (pm_oc z so o) ∧ pm_rel z so cA D cl H0 σ' t.heap ∧ s.WarmedH t.vm ∧ ∃ L : List Loc, s.sameButNew ({ t with vm := s.vm } : State) L mc ms ∧ ∀ q ∈ L, z ≤ q.base
section PM4
variable {p : Program} {l : Launch} {e : Env} {R : Room} {s T : State} {m : MethodId} {args : Array Value} {below : List Frame} {meth : Method} {c : Code} {H H0 : Heap} {locs : List Loc} {cells slots : Nat}
variable {cc : ByteArray} {pc n nL mi z : Nat} {ls : Array Slot} {lv : pm_L} {st : List Value} {σ σ' : pm_S} {so : UInt32 → Nat} {cA : Nat → ClassId} {D : va_G} {cl : List vw_C} {tys : List (ClassId × FieldType)} {P : pm_P} {i : Instr} {Ts Nw : List Cond} {own SC : String} {o : pm_O}
theorem pm_mono {Q Q' : State → Prop} {g : JFrame} (h : W p l e R s m args below meth c H locs cells slots Q g) (hq : ∀ t, Q t → Q' t) : W p l e R s m args below meth c H locs cells slots Q' g := by
  intro T hT X
  obtain ⟨t, a, b⟩ := h T hT X
  exact ⟨t, a, hq t b⟩
theorem pm_ofMQ {v : Option Value} {g : JFrame} (hrel : pm_rel z so cA D cl H0 σ H) (h : W p l e R s m args below meth c H locs cells slots (MQ below (fun _ _ oc t => oc = .returned (v.map (pm_rv z so)) ∧ t.heap = H) args s cells slots (fun q => z ≤ q)) g) : W p l e R s m args below meth c H locs cells slots (pm_Q z so cA D cl H0 below s (.inl v) σ cells slots) g := by
  refine pm_mono h ?_
  rintro t ⟨oc, h1, h2, ⟨rfl, h3⟩, L, ⟨-, h4, h5⟩, h6⟩
  exact ⟨h1, h2, by rw [h3]; exact hrel, h4, L, h5, h6⟩
theorem pm_ret_ok (hx : p.tables.exec = Jvm.exec) (hb : c.code = cc) (hd : decode cc pc = .ok (i, n)) (hn : pm_ln i n = true) (hr : meth.sig.returnType = pm_ret P mi) (hlk : meth.locks = false) (hi : ∀ ix, i ≠ .new ix)
    (h : pm_dn P mi pc st σ i = some (o, σ')) (hrel : pm_rel z so cA D cl H0 σ H) (hlocs : ∀ q ∈ locs, z ≤ q.base) : σ' = σ ∧ W p l e R s m args below meth c H locs cells slots (pm_Q z so cA D cl H0 below s o σ cells slots) (F0 m pc ls (pm_rs z so st)) := by
  cases i <;> try (exact absurd (show (none : Option (pm_O × pm_S)) = some _ from h) (by simp))
  case new ix => exact absurd rfl (hi ix)
  case ireturn =>
    have hn : n = 1 := by simpa [pm_ln] using hn
    subst hn
    dsimp only [pm_dn] at h
    split at h
    · next v ty hty =>
      split at h
      · next hok =>
        cases h
        refine ⟨rfl, pm_ofMQ hrel ?_⟩
        exact W.zret hx hb (hr.trans hty) (pm_ok_rv (z := z) (so := so) hok).1 (fun t ht _ => ⟨rfl, ht⟩) hlocs hd hlk
      · cases h
    · cases h
  case lreturn =>
    have hn : n = 1 := by simpa [pm_ln] using hn
    subst hn
    dsimp only [pm_dn] at h
    split at h
    · next v hty =>
      cases h
      refine ⟨rfl, pm_ofMQ hrel ?_⟩
      exact W.lret hx hb (hr.trans hty) (fun t ht _ => ⟨rfl, ht⟩) hlocs hd hlk
    · cases h
  case areturn =>
    have hn : n = 1 := by simpa [pm_ln] using hn
    subst hn
    dsimp only [pm_dn] at h
    split at h
    · next v nm hty =>
      cases h
      refine ⟨rfl, pm_ofMQ hrel ?_⟩
      exact W.aret hx hb (hr.trans hty) (Or.inl ⟨_, rfl⟩) (Or.inr ⟨_, rfl⟩) (fun t ht _ => ⟨rfl, ht⟩) hlocs hd hlk
    · next v nm hty =>
      cases h
      refine ⟨rfl, pm_ofMQ hrel ?_⟩
      exact W.aret hx hb (hr.trans hty) (Or.inr ⟨_, rfl⟩) (Or.inr ⟨_, rfl⟩) (fun t ht _ => ⟨rfl, ht⟩) hlocs hd hlk
    · cases h
  case return_ =>
    have hn : n = 1 := by simpa [pm_ln] using hn
    subst hn
    dsimp only [pm_dn] at h
    split at h
    · next hty =>
      cases h
      refine ⟨rfl, pm_ofMQ (v := none) hrel ?_⟩
      exact W.vret hx hb (hr.trans hty) (fun t ht _ => ⟨rfl, ht⟩) hlocs hd hlk
    · cases h
/-- the same stand, counted from here: as if the method were invoked at this heap -/
theorem pm_rebase (X : Stand p l e R s m args below meth c T locs cells slots) (hrc : cells ≤ R.cells) (hrs : slots ≤ R.slots) :
    Stand p l e { frames := R.frames, cells := R.cells - cells, slots := R.slots - slots, locals := R.locals } (T.setFrames (.invoking m args :: below)) m args below meth c T [] 0 0 := by
  obtain ⟨g₀, hfr⟩ := X.frames_eq
  obtain ⟨th, hth, -⟩ := State.frames_cons hfr
  have hcur : T.cur < T.threads.size := State.cur_lt_of_frames hfr
  have hF : (T.setFrames (.invoking m args :: below)).frames = .invoking m args :: below := State.frames_setFrames _ hcur
  obtain ⟨th2, hth2, -⟩ := State.frames_cons hF
  have hcur2 : (T.setFrames (.invoking m args :: below)).cur < (T.setFrames (.invoking m args :: below)).threads.size := State.cur_lt_of_frames hF
  refine ⟨X.admits, X.cas, X.clock, hF, ?_, ?_, X.method', X.code, X.here, X.tail, State.WarmedH.refl (T.setFrames (.invoking m args :: below)), ?_, ?_, ?_⟩
  · obtain ⟨r1, r2, r3, r4⟩ := State.hasRoom_stack X.room
    have r5 := State.hasRoom_real X.room
    have h := X.room
    simp only [State.hasRoom, Bool.and_eq_true, decide_eq_true_eq] at h
    rw [State.localsInUse_invoking X.frames X.method X.code] at r3 r4 r5
    rw [X.frames, List.length_cons] at r1 r2
    have hU : (T.setFrames (.invoking m args :: below)).localsInUse = stackWeight below + vmFrameWords + (c.maxLocals + 11) := State.localsInUse_invoking hF (meth := meth) (c := c) X.method' X.code
    have hh := X.heapSize
    have hu := X.used
    simp only [State.hasRoom, Bool.and_eq_true, decide_eq_true_eq, hF, hU, List.length_cons, State.stackLimits_setFrames, State.stackBytes_setFrames, X.limits, X.bytes]
    refine ⟨⟨⟨⟨by omega, by omega, by omega, by omega, by omega, h.1.1.1.2.2.2.2.2⟩, ?_⟩, ?_⟩, X.book⟩
    · have := h.1.1.2
      show T.heap.size + (R.cells - cells) ≤ e.platform.maxCells
      omega
    · have := h.1.2
      show T.slotsUsed + (R.slots - slots) ≤ e.platform.maxSlots
      omega
  · have hh := X.hears
    cases below with
    | nil =>
      show (T.vm.method? m).any _ = true
      have : (s.vm.method? m).any (·.sig.returnType.isNone) = true := hh
      rw [X.warmed.alike.method?]
      exact this
    | cons f r =>
      cases f with
      | java g =>
        have h1 : ((s.code? g.method).bind fun c => (decode c.code g.pc).toOption).isSome = true := hh
        show (((T.setFrames _).code? g.method).bind fun c => (decode c.code g.pc).toOption).isSome = true
        rw [State.code?_eq] at h1 ⊢
        show ((((T.vm.method? g.method).bind _)).bind _).isSome = true
        rw [X.warmed.alike.method?]
        exact h1
      | native g => rfl
      | proc g => rfl
      | _ =>
        show (T.vm.method? m).any _ = true
        rw [X.warmed.alike.method?]
        exact hh
  · rw [State.stackLimits_setFrames]
  · rw [State.stackBytes_setFrames]
  · have h := (State.sameButNew.refl (T.setFrames (.invoking m args :: below)) hth2).setFrames T.frames hcur2
    rw [State.setFrames_setFrames, State.setFrames_self hth] at h
    exact h
/-- what a place needs that makes an exception and throws it: new X; dup; X.<init>(); athrow -/
def pm_xok (cl : List vw_C) (Ts : List Cond) (own : String) (cc : ByteArray) (R : Room) (pc ci : Nat) : Prop :=
  ∃ (X : String) (T : u_T) (names : List String) (ix ic : Nat), cl[ci]? = some (X, T, 0) ∧ Bundle.fit X = true ∧ (∀ n ∈ names, Bundle.fit n = true) ∧ (∀ w ∈ Bundle.ownAtoms0 own ic X names, w ∈ Ts) ∧ Cond.classLink own ix X ∈ Ts ∧ Cond.initialized X ∈ Ts ∧
  decode cc pc = .ok (.new ix, 3) ∧ decode cc (pc + 3) = .ok (.dup, 1) ∧ decode cc (pc + 4) = .ok (.invokespecial ic, 3) ∧ decode cc (pc + 7) = .ok (.athrow, 1) ∧ names.length + 3 < R.frames ∧ 1 + (13 * (names.length + 1) + 41) ≤ R.locals
theorem pm_same_trans {locs L : List Loc} {k n : Nat} {t : State} (X : Stand p l e R s m args below meth c T locs cells slots) (F : List Frame) (h : (T.setFrames F).sameButNew ({ t with vm := (T.setFrames F).vm } : State) L k n) : s.sameButNew ({ t with vm := s.vm } : State) (locs ++ L) (cells + k) (slots + n) := by
  have h2 : T.sameButNew ({ t with vm := T.vm } : State) L k n := by
    obtain ⟨e1, e2⟩ := h
    refine ⟨?_, e2⟩
    have e3 : ({ t with vm := T.vm } : State) = { (T.setFrames F).setFrames t.frames with heap := t.heap, slotsUsed := t.slotsUsed } := e1
    rw [State.setFrames_setFrames] at e3
    exact e3
  exact X.same.trans (h2.setVm s.vm)
set_option maxHeartbeats 1000000 in
theorem pm_throw_ok (hx : p.tables.exec = Jvm.exec) (htr : e.platform.stackTraces = false) (hb : c.code = cc) (hml : c.maxLocals = nL) (hlk : meth.locks = false) (hno : c.exceptionTable.isEmpty = true) (hown : s.vm.findClass own = some m.cls) (hts : ∀ w ∈ Ts, ∀ (a' : Array Value) (U : State), s.WarmedH U.vm → pm_rel z so cA D cl H0 σ U.heap → w.before a' U = true)
    (hK : va_K D cl tys s) {ci : Nat} (hxo : pm_xok cl Ts own cc R pc ci) (hl : lv_has ls nL (pm_rl z so lv)) (hrel : pm_rel z so cA D cl H0 σ H) (hlocs : ∀ q ∈ locs, z ≤ q.base) (hrc : cells + 1 ≤ R.cells) (hrs : slots + 6 ≤ R.slots) :
    W p l e R s m args below meth c H locs cells slots (pm_Q z so cA D cl H0 below s (.inr σ.2.1) (pm_add σ (.inr (ci, [])) 6) (cells + 1) (slots + 6)) (F0 m pc ls []) := by
  obtain ⟨X, Tt, names, ix, ic, hc, hfit, hnm, hat, w1, w2, d0, d3, d4, d7, hfr, hlo⟩ := hxo
  intro T hT X0
  have Y := pm_rebase X0 (by omega) (by omega)
  have hwd : ∀ w ∈ Ts, w.before args (T.setFrames (.invoking m args :: below)) = true := fun w hw => hts w hw args _ X0.warmed (by show pm_rel z so cA D cl H0 σ T.heap; rw [hT]; exact hrel)
  have hown2 : (T.setFrames (.invoking m args :: below)).vm.findClass own = some m.cls := by
    show T.vm.findClass own = some m.cls
    rw [X0.warmed.alike.findClass]; exact hown
  have hKn := (hK.1 ci _ hc).2
  have hfc : (T.setFrames (.invoking m args :: below)).vm.findClass X = some (D.1 ci) := by
    show T.vm.findClass X = some (D.1 ci)
    rw [X0.warmed.alike.findClass]; exact hKn.1
  have key : W p l e { frames := R.frames, cells := R.cells - cells, slots := R.slots - slots, locals := R.locals } (T.setFrames (.invoking m args :: below)) m args below meth c H [] 0 0
      (fun t => t.status = .running ∧ Ended t below (.threw H.size) ∧ (T.setFrames (.invoking m args :: below)).WarmedH t.vm ∧ (T.setFrames (.invoking m args :: below)).sameButNew ({ t with vm := (T.setFrames (.invoking m args :: below)).vm } : State) [] 1 6 ∧ ∃ ce : Cell, t.heap[H.size]? = some ce ∧ ce.cls = D.1 ci ∧ ce.vm = .none) (F0 m pc ls []) := by
    refine W.newcK hx hb hown2 (hwd _ w1) (hwd (.instantiable X 6) (hat _ (by simp [Bundle.ownAtoms0]))) (hwd _ w2) rfl d0 (by show 0 + 1 ≤ R.cells - cells; omega) (by show 0 + 6 ≤ R.slots - slots; omega) hfc rfl fun H1 kC hkC e1 z1 o1 => ?_
    refine lv_dup hx hb d3 rfl ?_
    intro T1 hT1 X1
    obtain ⟨U, st, run, ended, warm, same, ce, hce, ow⟩ := X1.ctorThrow0 hx htr hown2 hfit hnm (fun a ha => hwd a (hat a ha)) (fun x hx => by cases hx) (a := H.size) hfc hkC (by rw [hT1]; exact e1) (by show T.heap.size ≤ H.size; rw [hT]; exact Nat.le_refl _)
      (g := F0 m (pc + 4) ls [.ref H.size, .ref H.size]) rfl (hl.1.trans hml.symm) rfl rfl (rest := []) rfl (by rw [hb]; exact d4) (by rw [hb]; exact d7) (fun x hx => by
        have : c.exceptionTable = #[] := Array.isEmpty_iff.mp hno
        rw [this] at hx; cases hx) hfr (by show 2 * 0 + 1 + _ ≤ _; omega) hlk
    refine ⟨U, st, run, ended, warm, same, ce, hce, ?_, ow.vm⟩
    exact Option.some.inj (ow.cls.symm.trans hfc)
  obtain ⟨t, st, q1, q2, q3, q4, ce, q5, q6, q7⟩ := key T hT Y
  have hsz := hrel.1
  obtain ⟨f1, f2, f3, -, -, f6⟩ := id q4
  have hz1 : t.heap.size = H.size + 1 := by
    have h1 : H.size < t.heap.size := (Array.getElem?_eq_some_iff.mp q5).1
    have h2 : t.heap.size ≤ T.heap.size + 1 := f3
    rw [hT] at h2
    omega
  have hold : ∀ q : Nat, q < H.size → t.heap[q]? = H[q]? := by
    intro q hq
    have hq' : (T.setFrames (.invoking m args :: below)).heap[q]? = some H[q] := by
      show T.heap[q]? = _
      rw [hT]; exact Array.getElem?_eq_getElem hq
    obtain ⟨c', g1, g2, g3, g4⟩ := f6 q _ hq'
    have e1 : c' = H[q] := by
      rw [g2]
      have : c'.slots = H[q].slots := by
        apply Array.ext_getElem?
        intro i
        exact g4 i (by simp)
      rw [this]
    have g1' : t.heap[q]? = some c' := g1
    rw [g1', e1, Array.getElem?_eq_getElem hq]
  refine ⟨t, st, q1, ?_, ?_, State.WarmedH.trans X0.warmed (show T.WarmedH t.vm from q3), locs ++ [], pm_same_trans X0 _ q4, ?_⟩
  · rw [hsz] at q2; exact q2
  · refine hrel.add hz1 hold ?_
    rw [← hsz]
    exact ⟨_, hc, ce, q5, q6, q7, fun k hk => by cases hk⟩
  · rw [List.append_nil]; exact hlocs
end PM4
