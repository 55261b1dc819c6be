/-! an exception that a callee threw: it is caught in this method (its handlers' classes linked or not), or leaves it -/
theorem pm_search1 {e : Env} {S : State} {f : JFrame} {a : Addr} {cell : Cell} {x : ExceptionTableEntry} {t : List ExceptionTableEntry} {cT : ClassId} {Q : Handler → Pre} {E : CtlPost} {d : Bool} {acts : List Action} (hcov : (decide (x.startPc ≤ f.pc) && decide (f.pc < x.endPc)) = true) (h0 : x.catchType ≠ 0)
    (hl : S.vm.ClassLinks e.platform f.method.cls x.catchType cT) (hcell : S.heap[a]? = some cell) (hobj : ∀ k, cell.vm ≠ .statics k) {k1 k2 : Class} (hk1 : S.vm.classes[cell.cls]? = some k1) (hk2 : S.vm.classes[cT]? = some k2) :
    wp (findHandler.go f a (x :: t)) Q E e d acts S ↔ if S.vm.assignable cell.cls cT = true then Q (.found x.handlerPc) d acts (S.setVm (S.vm.noted f.method.cls x.catchType (.cls cT))) else wp (findHandler.go f a t) Q E e d acts (S.setVm (S.vm.noted f.method.cls x.catchType (.cls cT))) := by
  obtain ⟨ha, ht⟩ := (resolveClass_links e.toSetting hl).op (op := VmOp.resolveClass f.method.cls x.catchType) rfl
  have hal : S.vm.Alike (S.vm.noted f.method.cls x.catchType (.cls cT)) := (Vm.Alike.refl S.vm).noted _ _ _
  obtain ⟨k1', hk1', -⟩ := hal.2.2 _ _ hk1
  obtain ⟨k2', hk2', -⟩ := hal.2.2 _ _ hk2
  cases hfit : S.vm.assignable cell.cls cT
  · have hfit' : (S.vm.noted f.method.cls x.catchType (.cls cT)).assignable cell.cls cT = false := by rw [hal.assignable]; exact hfit
    simp [findHandler.go, hcov, h0, ha, ht, hcell, hobj, hk1', hk2', hfit', VmOp.dirties, VmOp.acts]
  · have hfit' : (S.vm.noted f.method.cls x.catchType (.cls cT)).assignable cell.cls cT = true := by rw [hal.assignable]; exact hfit
    simp [findHandler.go, hcov, h0, ha, ht, hcell, hobj, hk1', hk2', hfit', VmOp.dirties, VmOp.acts]
theorem pm_search {P : pm_P} {e : Env} {s₀ : State} {f : JFrame} {a : Addr} {cell : Cell} {ci : Nat} (hobj : ∀ k, cell.vm ≠ .statics k) {k0 : Class} (hk0 : s₀.vm.classes[cell.cls]? = some k0) :
    ∀ (tb : List ExceptionTableEntry) (S : State) (h : Nat), s₀.WarmedH S.vm → S.heap[a]? = some cell →
      (∀ x ∈ tb, x.catchType ≠ 0 ∧ ∃ cT, s₀.vm.ClassLinks e.platform f.method.cls x.catchType cT ∧ s₀.vm.assignable cell.cls cT = pm_isa P ci x.catchType) →
      pm_find P f.pc ci (tb.map fun x => (x.startPc, x.endPc, x.handlerPc, x.catchType)) = some h →
      ∃ vm', s₀.WarmedH vm' ∧ ∀ (Q : Handler → Pre) (E : CtlPost) (d : Bool) (acts : List Action), wp (findHandler.go f a tb) Q E e d acts S ↔ Q (.found h) d acts (S.setVm vm') := by
  intro tb
  induction tb with
  | nil => intro S h _ _ _ hf; cases hf
  | cons x t ih =>
    intro S h hW hcell hall hf
    have hrest : ∀ y ∈ t, y.catchType ≠ 0 ∧ ∃ cT, s₀.vm.ClassLinks e.platform f.method.cls y.catchType cT ∧ s₀.vm.assignable cell.cls cT = pm_isa P ci y.catchType := fun y hy => hall y (List.mem_cons_of_mem _ hy)
    rw [List.map_cons, pm_find] at hf
    by_cases hcov : x.startPc ≤ f.pc ∧ f.pc < x.endPc
    · rw [if_pos hcov] at hf
      obtain ⟨h0, cT, hl, has⟩ := hall x List.mem_cons_self
      obtain ⟨dk, _, _, kt, hd, _, _, _, _, hkt, _, hopen⟩ := hl.here
      have hW1 := hW.noted hd hopen (State.rightAt_cls hl)
      obtain ⟨k1, hk1, -⟩ := hW.alike.2.2 _ _ hk0
      obtain ⟨k2, hk2, -⟩ := hW.alike.2.2 _ _ hkt
      have hstep : ∀ (Q : Handler → Pre) (E : CtlPost) (d : Bool) (acts : List Action), _ := fun Q E d acts => pm_search1 (Q := Q) (E := E) (d := d) (acts := acts) (t := t) (f := f) (e := e) (x := x) (by simp [hcov]) h0 (hW.classLinks hl) hcell hobj hk1 hk2
      have hasg : S.vm.assignable cell.cls cT = pm_isa P ci x.catchType := by rw [hW.alike.assignable]; exact has
      cases hi : pm_isa P ci x.catchType
      · rw [hi] at hasg hf
        rw [if_neg (by decide)] at hf
        obtain ⟨vm', hW', hq⟩ := ih (S.setVm (S.vm.noted f.method.cls x.catchType (.cls cT))) h hW1 hcell hrest hf
        refine ⟨vm', hW', fun Q E d acts => ?_⟩
        rw [hstep Q E d acts, hasg, if_neg (by decide)]
        exact hq Q E d acts
      · rw [hi] at hasg hf
        rw [if_pos rfl] at hf
        cases hf
        refine ⟨_, hW1, fun Q E d acts => ?_⟩
        rw [hstep Q E d acts, hasg, if_pos rfl]
    · rw [if_neg hcov] at hf
      obtain ⟨vm', hW', hq⟩ := ih S h hW hcell hrest hf
      refine ⟨vm', hW', fun Q E d acts => ?_⟩
      rw [W.findHandler_go_skip (by simp only [covers]; simpa using hcov)]
      exact hq Q E d acts
theorem pm_caught {tb : Tables} {e : Env} {s target : State} {g : JFrame} {c : Code} {below : List Frame} {a : Addr} (h : At s g.method c below) {pc : Nat} {vm' : Vm}
    (hfind : ∀ (Q : Handler → Pre) (E : CtlPost) (d : Bool) (acts : List Action), wp (findHandler g a) Q E e d acts ((s.setTop g).pushFrame (.throwing a)) ↔ Q (.found pc) d acts (((s.setTop g).pushFrame (.throwing a)).setVm vm'))
    (hrest : Steps tb e below ((s.setVm vm').setTop { g with pc := pc, stack := [.ref a] }) target) : Steps tb e below ((s.setTop g).pushFrame (.throwing a)) target := by
  obtain ⟨hgo, hw⟩ := h.throwing a
  refine Steps.head hgo hw ?_
  obtain ⟨g₀, hg⟩ := Option.isSome_iff_exists.mp h.top
  obtain ⟨r, hr⟩ := State.topJava?_eq_some.mp hg
  have hstep : (stepThrowing e ((s.setTop g).pushFrame (.throwing a)) a (.java g :: r)).1 = (((s.setTop g).pushFrame (.throwing a)).setVm vm').setFrames (.java { g with pc := pc, stack := [.ref a] } :: r) := by
    simp only [stepThrowing, searchFrame, vmDo]
    generalize hres : Sem.go _ e false [] _ = res
    obtain ⟨as, rfl, ha⟩ := Sem.eq_ok_of hres (a := Handler.found pc) (s' := ((s.setTop g).pushFrame (.throwing a)).setVm vm') (acts' := []) (by simp [hfind _ _ _ _])
    rfl
  rw [stepThread_throwing (frames_entered h.top _), hr, List.tail_cons, hstep]
  have hr' : (s.setVm vm').frames = .java g₀ :: r := hr
  rw [State.setTop_of_frames _ hr'] at hrest
  have e1 : (((s.setTop g).pushFrame (.throwing a)).setVm vm').setFrames (.java { g with pc := pc, stack := [.ref a] } :: r) = (s.setVm vm').setFrames (.java { g with pc := pc, stack := [.ref a] } :: r) := by
    rw [State.pushFrame, State.setTop_of_frames _ hr, State.setFrames_setFrames]
    have h1 : ∀ F : List Frame, (s.setFrames F).setVm vm' = (s.setVm vm').setFrames F := fun F => rfl
    rw [h1, State.setFrames_setFrames]
  rw [e1]
  exact hrest
