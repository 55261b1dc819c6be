section PM10
variable {p : Program} {l : Launch} {e : Env} {P : pm_P} {mm : Nat → MethodName × ByteArray} {rf : Nat → Nat × Nat} {dm : Nat → Bool} {cl : List vw_C} {Ts Tx Nw : List Cond} {SC : String} {SL : List (String × String × String × UInt32)} {CL : List (Nat × Nat × String)} {z : Nat} {so : UInt32 → Nat} {cA : Nat → ClassId} {D : va_G} {s0 : State} {H0 : Heap}
/-- what a call's instruction does: the callee is known, and stands before its first instruction -/
theorem pm_ca_ok (hbase : ∀ U : State, s0.WarmedH U.vm → (∀ q : Nat, q < z → U.heap[q]? = H0[q]?) → pm_facts P cl Ts Tx Nw SC SL CL z so cA D U) (hall : ∀ mi, dm mi = true → pm_mok P mm rf dm cl Ts Tx Nw SC SL CL z so mi)
    {mi pc n y : Nat} {as rest st : List Value} {σ : pm_S} {i : Instr} (hmi : dm mi = true) {R : Room} {s : State} {m : MethodId} {args : Array Value} {below : List Frame} {meth : Method} {c : Code} (hfr : pm_fr P mm rf z s0 H0 mi p R s m meth c)
    (hcod : pm_cod P mi pc = some (i, n)) (hn : pm_ln i n = true) (h : pm_ca P mi st σ i = some (y, as, rest)) {T : State} {locs : List Loc} {cells slots : Nat} {ls : Array Slot} (X : Stand p l e R s m args below meth c T locs cells slots) (hrel : pm_rel z so cA D cl H0 σ T.heap) :
    dm y = true ∧ pm_asz as ≤ pm_mxl P y ∧ (rest.map fun v => v.category).sum ≤ 8 ∧ (rf y).1 + 1 ≤ (rf mi).1 ∧ 8 + (pm_mxl P y + 11) + (rf y).2 ≤ (rf mi).2 ∧ n = 3 ∧
      pm_Inv p l e R s m args below meth c T locs cells slots (F0 m pc ls (pm_rs z so st)) (pm_rs z so rest) (mm y).1 (pm_rs z so as).toArray := by
  obtain ⟨⟨hm0, hmcw, hmin, hmpl, hmh, hdec⟩, hcst, hfld, hmak, harr, hk6, hk7, hcal, hexc, hsta, hhdl⟩ := hall mi hmi
  obtain ⟨⟨hx, hb, hml, hr, hlk, hnm, hht⟩, hown, hfrm, hlo, hws, hold0⟩ := hfr
  obtain ⟨hts, htx, hnw, hK, hao, hold, hstz, hcls⟩ := hbase s hws hold0
  have hd := hdec _ _ _ hcod
  rw [← hb] at hd
  have hrev : ∀ (k : Nat) (q : List Value), (st.take k).reverse.length = k → pm_rs z so (st.drop k) = q → pm_rs z so st = (pm_rs z so (st.take k).reverse).reverse ++ q := by
    intro k q _ hq
    rw [← hq]
    unfold pm_rs
    rw [List.map_reverse, List.reverse_reverse, ← List.map_append, List.take_append_drop]
  cases i <;> try (exact absurd (show (none : Option (Nat × List Value × List Value)) = some _ from h) (by simp))
  case invokevirtual ix =>
    have hn : n = 3 := by simpa [pm_ln] using hn
    subst hn
    dsimp only [pm_ca] at h
    split at h
    · next k ci y0 n0 hc =>
      split at h
      · next a r hdr =>
        split at h
        · next hcond =>
          obtain ⟨hk, ha, hsum⟩ := hcond
          split at h
          · next cj fs he =>
            split at h
            · next hcj =>
              obtain ⟨rfl, hsz⟩ := hcj
              cases h
              obtain ⟨hdy, hsok, hf1, hf2, -⟩ := hcal _ _ _ _ _ hc (by omega)
              obtain ⟨⟨-, hycw, -, -, hyh, -⟩, -⟩ := hall _ hdy
              refine ⟨hdy, hsz, hsum, hf1, hf2, rfl, ?_⟩
              obtain ⟨-, C, Tt, N, hcl, -⟩ := hsok.2.2.1 hk
              have hat := hrel.2.1 a ha
              rw [he] at hat
              obtain ⟨r0, g0, cell, g1, g2, g3, -⟩ := hat
              have hlen : (st.take n0).reverse.length = n0 := by
                rw [List.length_reverse, List.length_take]
                have : n0 < st.length := by
                  rcases Nat.lt_or_ge n0 st.length with h | h
                  · exact h
                  · rw [List.drop_eq_nil_of_le h] at hdr; cases hdr
                omega
              exact pm_invV X hx hown hts hnw hycw hyh hsok hk hcl g1 (by rw [g3]; rfl) (by rw [g2]; exact (hK.1 _ _ hcl).2.1) rfl (argsL := pm_rs z so (st.take n0).reverse) (by unfold pm_rs; rw [List.length_map]; exact hlen) (hrev n0 _ hlen (by rw [hdr]; rfl)) hd
            · cases h
          · cases h
        · cases h
      · cases h
    · cases h
  case invokespecial ix =>
    have hn : n = 3 := by simpa [pm_ln] using hn
    subst hn
    dsimp only [pm_ca] at h
    split at h
    · next k ci y0 n0 hc =>
      split at h
      · next hk =>
        split at h
        · next a r hdr =>
          split at h
          · next hcond =>
            obtain ⟨hsum, hsz⟩ := hcond
            cases h
            obtain ⟨hdy, hsok, hf1, hf2, hin⟩ := hcal _ _ _ _ _ hc (by omega)
            obtain ⟨-, -, hcode⟩ := hin hk
            obtain ⟨⟨-, hycw, -, -, hyh, -⟩, -⟩ := hall _ hdy
            refine ⟨hdy, hsz, hsum, hf1, hf2, rfl, ?_⟩
            have hlen : (st.take n0).reverse.length = n0 := by
              rw [List.length_reverse, List.length_take]
              have : n0 < st.length := by
                rcases Nat.lt_or_ge n0 st.length with h | h
                · exact h
                · rw [List.drop_eq_nil_of_le h] at hdr; cases hdr
              omega
            exact pm_invI X hx hown hts hnw hcode hyh hsok hk rfl (argsL := pm_rs z so (st.take n0).reverse) (by unfold pm_rs; rw [List.length_map]; exact hlen) (hrev n0 _ hlen (by rw [hdr]; rfl)) hd
          · cases h
        · cases h
      · cases h
    · cases h
  case invokestatic ix =>
    have hn : n = 3 := by simpa [pm_ln] using hn
    subst hn
    dsimp only [pm_ca] at h
    split at h
    · next k ci y0 n0 hc =>
      split at h
      · next hcond =>
        obtain ⟨hk, hle, hsum, hsz⟩ := hcond
        cases h
        obtain ⟨hdy, hsok, hf1, hf2, -⟩ := hcal _ _ _ _ _ hc (by omega)
        obtain ⟨⟨-, hycw, hyin, -, hyh, -⟩, -⟩ := hall _ hdy
        refine ⟨hdy, hsz, hsum, hf1, hf2, rfl, ?_⟩
        have hlen : (st.take n0).reverse.length = n0 := by
          rw [List.length_reverse, List.length_take]
          omega
        exact pm_invS X hx hown hts hnw hycw hyh hyin hsok hk rfl (argsL := pm_rs z so (st.take n0).reverse) (by unfold pm_rs; rw [List.length_map]; exact hlen) (hrev n0 _ hlen rfl) hd
      · cases h
    · cases h
set_option maxHeartbeats 2000000 in
theorem pm_sound (hbase : ∀ U : State, s0.WarmedH U.vm → (∀ q : Nat, q < z → U.heap[q]? = H0[q]?) → pm_facts P cl Ts Tx Nw SC SL CL z so cA D U) (hall : ∀ mi, dm mi = true → pm_mok P mm rf dm cl Ts Tx Nw SC SL CL z so mi) (harc : ∀ ci, pm_arr P 0 0 = some ci → ∃ r : vw_C, cl[ci]? = some r ∧ r.1 = SC) (hai : Cond.arrayClass .int ∈ Ts) (hal : Cond.arrayClass .long ∈ Ts) (htr : e.platform.stackTraces = false) :
    ∀ (n : Nat) (f : pm_F) (σ : pm_S) (o : pm_O) (σ' : pm_S), pm_ev P n f σ = some (o, σ') → dm f.1 = true → ∀ {R : Room} {s : State} {m : MethodId} {args : Array Value} {below : List Frame} {meth : Method} {c : Code} {H : Heap} {locs : List Loc} {cells slots : Nat} {ls : Array Slot}, pm_fr P mm rf z s0 H0 f.1 p R s m meth c →
      lv_has ls (pm_mxl P f.1) (pm_rl z so f.2.2.1) → pm_rel z so cA D cl H0 σ H → (∀ q ∈ locs, z ≤ q.base) → cells + (σ'.2.1 - σ.2.1) ≤ R.cells → slots + (σ'.2.2 - σ.2.2) ≤ R.slots →
      W p l e R s m args below meth c H locs cells slots (pm_Q z so cA D cl H0 below s o σ' (cells + (σ'.2.1 - σ.2.1)) (slots + (σ'.2.2 - σ.2.2))) (F0 m f.2.1 ls (pm_rs z so f.2.2.2)) := by
  intro n
  induction n with
  | zero => intro f σ o σ' h; cases h
  | succ n ih =>
    intro f σ o σ' h hdm R s m args below meth c H locs cells slots ls hfr hl hrel hlocs hrc hrs
    obtain ⟨mi, pc, lv, st⟩ := f
    rw [pm_ev] at h
    split at h
    · cases h
    · next f' σ1 hs =>
      obtain ⟨i, n0, hcod, hn, ⟨pc1, lv1, st1, σ2, e1, h1⟩ | ⟨q, e1, h1⟩ | ⟨y, as, rr, e1, h1⟩⟩ := pm_step_inv hs
      · cases e1
        have z1 := pm_in_sz h1
        have z2 := pm_ev_sz _ _ _ _ _ h
        refine pm_in_ok hbase harc hai hal (hall _ hdm) hfr hcod hn h1 hl hrel hlocs (by omega) (by omega) fun H1 locs1 ls1 hl1 hr1 ho1 => ?_
        have := ih _ _ _ _ h hdm (R := R) (s := s) (m := m) (args := args) (below := below) (meth := meth) (c := c) (H := H1) (locs := locs1) (cells := cells + (σ1.2.1 - σ.2.1)) (slots := slots + (σ1.2.2 - σ.2.2)) (ls := ls1) hfr hl1 hr1 ho1 (by omega) (by omega)
        rw [show cells + (σ1.2.1 - σ.2.1) + (σ'.2.1 - σ1.2.1) = cells + (σ'.2.1 - σ.2.1) by omega, show slots + (σ1.2.2 - σ.2.2) + (σ'.2.2 - σ1.2.2) = slots + (σ'.2.2 - σ.2.2) by omega] at this
        exact this
      · cases e1
      · cases e1
    · next r hs =>
      obtain ⟨i, n0, hcod, hn, ⟨pc1, lv1, st1, σ2, e1, h1⟩ | ⟨q, e1, h1⟩ | ⟨y, as, rr, e1, h1⟩⟩ := pm_step_inv hs
      · cases e1
      · cases e1
        cases h
        exact pm_dn_ok hbase htr (hall _ hdm) hfr hcod hn h1 hl hrel hlocs hrc hrs
      · cases e1
    · next y as g hs =>
      obtain ⟨i, n0, hcod, hn, ⟨pc1, lv1, st1, σ2, e1, h1⟩ | ⟨q, e1, h1⟩ | ⟨y, as, rr, e1, h1⟩⟩ := pm_step_inv hs
      · cases e1
      · cases e1
      · cases e1
        intro T hT X
        obtain ⟨hdy, hsz, hsum, hf1, hf2, rfl, mk, vm₁, hnamed, hW1, X1, hgo⟩ := pm_ca_ok (ls := ls) hbase hall hdm hfr hcod hn h1 X (by rw [hT]; exact hrel)
        obtain ⟨⟨hx, hb, hml, hr, hlk, hnm, hht⟩, hown, hfrm, hlo, hws, hold0⟩ := id hfr
        obtain ⟨hts, htx, hnw, hK, hao, hold, hstz, hclsf⟩ := hbase s hws hold0
        obtain ⟨⟨-, hycw, hyin, hypl, hyh, -⟩, -⟩ := hall _ hdy
        obtain ⟨⟨hm0, hmcw, hmin, hmpl, hmh, hdec⟩, -, -, -, -, -, -, -, -, -, hhdl⟩ := hall _ hdm
        have hd := hdec _ _ _ hcod
        rw [← hb] at hd
        obtain ⟨methM, cM, k1, k2, k3, k4, k5, k6, k7, k8⟩ := pm_code hts hycw hnamed
        have k1' : (T.setVm vm₁).vm.method? mk = some methM := by
          rw [X1.warmed.alike.method?]; exact k1
        have hnamed' : (T.setVm vm₁).methodNamed? (mm y).1 = some mk := X1.named hnamed
        have key : ∀ (o1 : pm_O) (σ1 : pm_S), pm_ev P n (pm_enter y as) σ = some (o1, σ1) → σ1.2.1 ≤ σ'.2.1 → σ1.2.2 ≤ σ'.2.2 → ∃ t : State, (∀ tg, Steps p.tables e below t tg → Steps p.tables e below (T.setTop (F0 m pc ls (pm_rs z so st))) tg) ∧ pm_Q z so cA D cl H0 (.java (F0 m pc ls (pm_rs z so rr)) :: below) ((T.setVm vm₁).calling (F0 m pc ls (pm_rs z so rr)) mk (pm_rs z so as).toArray) o1 σ1 (σ1.2.1 - σ.2.1) (σ1.2.2 - σ.2.2) t := by
          intro o1 σ1 hev l1 l2
          have g1 := pm_ev_sz _ _ _ _ _ hev
          obtain ⟨Y, hdo⟩ := X1.into (g := F0 m pc ls (pm_rs z so rr)) rfl (hl.1.trans hml.symm) hd (mk := mk) (pm_rs z so as).toArray (R' := { frames := (rf y).1, cells := σ1.2.1 - σ.2.1, slots := σ1.2.2 - σ.2.2, locals := (rf y).2 }) k1' k2 k6 (State.plainMethod.of_named hypl hnamed' k1')
            (by show (rf y).1 + 1 ≤ R.frames; omega) (by show 2 * 0 + ((pm_rs z so rr).map fun v => v.category).sum + (cM.maxLocals + 11) + (rf y).2 ≤ R.locals; rw [pm_sum, k4]; omega) (by show cells + (σ1.2.1 - σ.2.1) ≤ R.cells; omega) (by show slots + (σ1.2.2 - σ.2.2) ≤ R.slots; omega)
          have hheap : (((T.setVm vm₁).setTop (F0 m pc ls (pm_rs z so rr))).pushFrame (.java (entryFrame mk (pm_rs z so as).toArray cM.maxLocals))).heap = H := by
            rw [← hT]
            simp [State.pushFrame, State.setFrames, State.setTop, State.modifyTopJava, State.setVm]
          have hsheap : ((T.setVm vm₁).calling (F0 m pc ls (pm_rs z so rr)) mk (pm_rs z so as).toArray).heap = H := by
            rw [State.calling_eq X1.here.top, ← hT]
            rfl
          have hsvm : ((T.setVm vm₁).calling (F0 m pc ls (pm_rs z so rr)) mk (pm_rs z so as).toArray).vm = vm₁ := by
            rw [State.calling_eq X1.here.top]
            rfl
          have hent := lg_entry_eq mk (pm_rs z so as) cM.maxLocals
          have hlv : lv_has ((lg_sl (pm_rs z so as) ++ List.replicate (cM.maxLocals - (lg_sl (pm_rs z so as)).length) Slot.unset).toArray) (pm_mxl P y) (pm_rl z so (lv_args 0 as)) := by
            rw [← pm_args_rl, ← k4]
            refine lv_entry _ ?_
            rw [pm_lgsz, pm_sum, k4]
            exact hsz
          have hw := ih (pm_enter y as) σ o1 σ1 hev hdy (R := { frames := (rf y).1, cells := σ1.2.1 - σ.2.1, slots := σ1.2.2 - σ.2.2, locals := (rf y).2 }) (s := (T.setVm vm₁).calling (F0 m pc ls (pm_rs z so rr)) mk (pm_rs z so as).toArray) (m := mk) (args := (pm_rs z so as).toArray) (below := .java (F0 m pc ls (pm_rs z so rr)) :: below) (meth := methM) (c := cM) (H := H) (locs := []) (cells := 0) (slots := 0)
            ⟨⟨hx, k3, k4, k5, k6, (name_of_methodNamed hnamed k1).1, k7⟩, by rw [hsvm]; rw [hW1.alike.findClass]; exact findClass_of_methodNamed hnamed, Nat.le_refl _, Nat.le_refl _, by rw [hsvm]; exact hws.trans hW1, fun q hq => by rw [hsheap]; exact hrel.2.2 q hq⟩
            hlv hrel (fun q hq => by cases hq) (by show 0 + (σ1.2.1 - σ.2.1) ≤ σ1.2.1 - σ.2.1; omega) (by show 0 + (σ1.2.2 - σ.2.2) ≤ σ1.2.2 - σ.2.2; omega)
          obtain ⟨t, st1, hq⟩ := W.eq hent hw _ hheap Y
          rw [Nat.zero_add, Nat.zero_add] at hq
          refine ⟨t, fun tg htg => hgo tg fun acts => ?_, hq⟩
          rw [hdo acts]
          exact (pm_weaken st1).trans htg
        split at h
        · cases h
        · next v σ1 h2 =>
          have z3 := pm_ev_sz _ _ _ _ _ h2
          have z4 := pm_ev_sz _ _ _ _ _ h
          obtain ⟨t, hst, hq1, hq2, hq3, hq4, L, hq5, hq6⟩ := key _ _ h2 z4.1 z4.2
          obtain ⟨T', X', -, -, ht⟩ := X1.outOf (g := F0 m pc ls (pm_rs z so rr)) rfl hd (v := v.map (pm_rv z so)) hq2 hq4 hq5
          have hheap : T'.heap = t.heap := by rw [ht]; simp [State.setTop, State.modifyTopJava, State.setFrames]
          have hw := ih (mi, pc + 3, lv, v.toList ++ rr) σ1 o σ' h hdm (R := R) (s := s) (m := m) (args := args) (below := below) (meth := meth) (c := c) (H := T'.heap) (locs := locs ++ L) (cells := cells + (σ1.2.1 - σ.2.1)) (slots := slots + (σ1.2.2 - σ.2.2)) (ls := ls) hfr hl (by rw [hheap]; exact hq3)
            (fun q hq => by
              rcases List.mem_append.mp hq with hq | hq
              · exact hlocs q hq
              · exact hq6 q hq) (by omega) (by omega)
          obtain ⟨t2, st2, hQ2⟩ := hw T' rfl X'
          rw [show cells + (σ1.2.1 - σ.2.1) + (σ'.2.1 - σ1.2.1) = cells + (σ'.2.1 - σ.2.1) by omega, show slots + (σ1.2.2 - σ.2.2) + (σ'.2.2 - σ1.2.2) = slots + (σ'.2.2 - σ.2.2) by omega] at hQ2
          refine ⟨t2, hst t2 ?_, hQ2⟩
          rw [ht]
          have e5 : (v.map (pm_rv z so)).toList ++ pm_rs z so rr = pm_rs z so (v.toList ++ rr) := by
            cases v <;> simp [pm_rs]
          show Steps p.tables e below (T'.setTop (F0 m (pc + 3) ls ((v.map (pm_rv z so)).toList ++ pm_rs z so rr))) t2
          rw [e5]
          exact st2
        · next x σ1 h2 =>
          have z3 := pm_ev_sz _ _ _ _ _ h2
          split at h
          · cases h
          · next hcat =>
            cases h
            obtain ⟨t, hst, hq1, hq2, hq3, hq4, L, hq5, hq6⟩ := key _ _ h2 (Nat.le_refl _) (Nat.le_refl _)
            obtain ⟨T', X', -, -, ht⟩ := X1.outOfThrown (g := F0 m pc ls (pm_rs z so rr)) rfl (x := z + x) hq2 hq4 hq5
            have hheap : T'.heap = t.heap := by rw [ht]; simp [State.pushFrame, State.setTop, State.modifyTopJava, State.setFrames]
            have hnoh : pm_hdl P mi = [] := by
              unfold pm_catch at hcat
              split at hcat
              · next hh => exact hh
              · repeat' split at hcat
                all_goals cases hcat
            have hout : ∀ x ∈ c.exceptionTable.toList, covers x pc = false := by
              rw [hnoh] at hht
              have h1 : c.exceptionTable.toList = [] := List.map_eq_nil_iff.mp hht
              rw [h1]
              intro x hx; cases hx
            obtain ⟨w1, w2, w3, w4, w5⟩ := X'.leaveThrown (z + x) (g := F0 m pc ls (pm_rs z so rr)) rfl rfl rfl hout hlk
            refine ⟨_, hst _ (by rw [ht]; exact w1), w2, w3, ?_, w4, _, w5, ?_⟩
            · show pm_rel z so cA D cl H0 _ T'.heap
              rw [hheap]; exact hq3
            · intro q hq
              rcases List.mem_append.mp hq with hq | hq
              · exact hlocs q hq
              · exact hq6 q hq
          · next g' hcat =>
            have z4 := pm_ev_sz _ _ _ _ _ h
            obtain ⟨t, hst, hq1, hq2, hq3, hq4, L, hq5, hq6⟩ := key _ _ h2 z4.1 z4.2
            obtain ⟨T', X', -, -, ht⟩ := X1.outOfThrown (g := F0 m pc ls (pm_rs z so rr)) rfl (x := z + x) hq2 hq4 hq5
            have hheap : T'.heap = t.heap := by rw [ht]; simp [State.pushFrame, State.setTop, State.modifyTopJava, State.setFrames]
            unfold pm_catch at hcat
            split at hcat
            · cases hcat
            · next h0 t0 hhd =>
              split at hcat
              · next hxlt =>
                split at hcat
                · next ci fs he =>
                  split at hcat
                  · next hisa =>
                    split at hcat
                    · next hp hfind =>
                      cases hcat
                      have hat := hq3.2.1 x hxlt
                      rw [he] at hat
                      obtain ⟨r0, g0, cell, g1, g2, g3, -⟩ := hat
                      obtain ⟨-, kC, hkC, -⟩ := (hK.1 ci r0 g0).2
                      have hpl : e.platform.magicAccessors = ({} : Platform).magicAccessors := by rw [X'.admits.platform]
                      rw [← hhd, ← hht] at hfind
                      obtain ⟨vm', hW', hfq⟩ := pm_search (P := P) (e := e) (s₀ := s) (f := F0 m pc ls (pm_rs z so rr)) (a := z + x) (cell := cell) (ci := ci) (VmData.ne_statics_of (by rw [g3]; rfl)) (k0 := kC) (by rw [g2]; exact hkC) c.exceptionTable.toList ((T'.setTop (F0 m pc ls (pm_rs z so rr))).pushFrame (.throwing (z + x))) hp
                        (by rw [Stand.throwing_vm]; exact X'.warmed) (by rw [Stand.throwing_heap, hheap]; exact g1) (fun xe hxe => by
                          have hmem : (xe.startPc, xe.endPc, xe.handlerPc, xe.catchType) ∈ pm_hdl P mi := by rw [← hht]; exact List.mem_map.mpr ⟨xe, hxe, rfl⟩
                          obtain ⟨hne, name, hlink, hcl⟩ := hhdl _ hmem
                          obtain ⟨cT, hcT, hasg⟩ := hclsf _ (hcl ci hisa)
                          obtain ⟨c', hc', hcl'⟩ := Cond.classLink_spec hown (hts _ hlink args) e.platform hpl
                          cases hcT.symm.trans hc'
                          exact ⟨hne, cT, hcl', by rw [g2]; exact hasg⟩) hfind
                      have XV := X'.noted hW'
                      have hw := ih (mi, hp, lv, [.ref x]) σ1 o σ' h hdm (R := R) (s := s) (m := m) (args := args) (below := below) (meth := meth) (c := c) (H := T'.heap) (locs := locs ++ L) (cells := cells + (σ1.2.1 - σ.2.1)) (slots := slots + (σ1.2.2 - σ.2.2)) (ls := ls) hfr hl (by rw [hheap]; exact hq3)
                        (fun q hq => by
                          rcases List.mem_append.mp hq with hq | hq
                          · exact hlocs q hq
                          · exact hq6 q hq) (by omega) (by omega)
                      obtain ⟨t2, st2, hQ2⟩ := hw (T'.setVm vm') rfl XV
                      rw [show cells + (σ1.2.1 - σ.2.1) + (σ'.2.1 - σ1.2.1) = cells + (σ'.2.1 - σ.2.1) by omega, show slots + (σ1.2.2 - σ.2.2) + (σ'.2.2 - σ1.2.2) = slots + (σ'.2.2 - σ.2.2) by omega] at hQ2
                      refine ⟨t2, hst t2 ?_, hQ2⟩
                      rw [ht]
                      refine pm_caught (c := c) (vm' := vm') (pc := hp) X'.here (fun Q E d acts => ?_) st2
                      rw [W.findHandler_eq (meth := meth) (code := c) (by rw [Stand.throwing_vm]; exact X'.method') X'.code]
                      exact hfq Q E d acts
                    · cases hcat
                  · cases hcat
                · cases hcat
              · cases hcat
end PM10
