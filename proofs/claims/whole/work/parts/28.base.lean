/-! what the tables and the old heap say at the law's start, and at every state that the run comes to -/
theorem tq_tab {args : Array Value} {s : State} {C n d : String} {tab : Nat → Int32} (hl : (Cond.laysStatic C n d).before args s = true) (hini : (Cond.initialized C).before args s = true) (h1 : (Cond.arrayOf (.static C n d) .int).before args s = true) (h2 : (Cond.eq (.length (.static C n d)) (.int 12)).before args s = true) (h3 : ∀ j, j < 12 → (Cond.eq (.elem (.static C n d) (.int (Int32.ofNat j))) (.int (tab j))).before args s = true) :
    ∃ t : Nat, va_T .int t 12 (fun j => .int (tab j)) (fun q => s.heap.size ≤ q) s s.heap ∧ va_Z C n d (.ref t) (fun q => s.heap.size ≤ q) s s.heap := by
  obtain ⟨t, ht, hT⟩ := va_Tof (N := 12) (f := fun j => .int (tab j)) (A := fun q => s.heap.size ≤ q) (by decide) h1 (va_eqt h2) (fun j hj => va_eqt (h3 j hj)) (fun a ha => Nat.not_le.mpr ha)
  exact ⟨t, hT, va_Zref hl hini ht (fun a ha => Nat.not_le.mpr ha)⟩
theorem tq_word {args : Array Value} {s : State} (hts : ∀ w ∈ tq_big, w.before args s = true) {w : Cond} (h : w ∈ tq_Ts) : w.before args s = true := hts w (tq_Ts_ok w h).1
theorem tq_xinst {c : Nat} (h : 7 ≤ c) (h2 : c < 11) : (tq_f c).length = 0 ∧ Cond.instantiable (tq_n c) 6 ∈ tq_Ts := by
  rcases (by omega : c = 7 ∨ c = 8 ∨ c = 9 ∨ c = 10) with rfl | rfl | rfl | rfl
  · exact ⟨rfl, tq_inE (List.mem_flatMap.mpr ⟨(7, 256, 258), List.mem_cons_self, List.mem_cons_of_mem _ (List.mem_filter.mpr ⟨by simp [Bundle.ownAtoms0], rfl⟩)⟩)⟩
  · exact ⟨rfl, tq_inE (List.mem_flatMap.mpr ⟨(8, 253, 255), List.mem_cons_of_mem _ (List.mem_cons_self), List.mem_cons_of_mem _ (List.mem_filter.mpr ⟨by simp [Bundle.ownAtoms0], rfl⟩)⟩)⟩
  · exact ⟨rfl, tq_inE (List.mem_flatMap.mpr ⟨(9, 229, 231), List.mem_cons_of_mem _ (List.mem_cons_of_mem _ (List.mem_cons_self)), List.mem_cons_of_mem _ (List.mem_filter.mpr ⟨by simp [Bundle.ownAtoms0], rfl⟩)⟩)⟩
  · exact ⟨rfl, tq_inE (List.mem_flatMap.mpr ⟨(10, 259, 261), List.mem_cons_of_mem _ (List.mem_cons_of_mem _ (List.mem_cons_of_mem _ (List.mem_cons_self))), List.mem_cons_of_mem _ (List.mem_filter.mpr ⟨by simp [Bundle.ownAtoms0], rfl⟩)⟩)⟩
theorem tq_K {args : Array Value} {s : State} (hts : ∀ w ∈ tq_big, w.before args s = true) : ∃ (D : va_G) (cA : Nat → ClassId), va_K D tq_cl [(cA 0, .int), (cA 1, .long), (cA 2, .object (tq_n 5))] s := by
  have hw : ∀ w ∈ tq_Ts, w.before args s = true := fun w h => tq_word hts h
  have hc : ∀ c : Nat, ∃ q : ClassId × (Nat → Nat), c < 11 → u_Kn s (tq_n c) (tq_t c) (tq_f c).length q.1 q.2 := by
    intro c
    by_cases h : c < 7
    · obtain ⟨cC, iS, hu⟩ := u_known hw (tq_uws h) (hw _ (tq_inst h))
      exact ⟨(cC, iS), fun _ => hu⟩
    · by_cases h2 : c < 11
      · obtain ⟨h3, h4⟩ := tq_xinst (by omega) h2
        obtain ⟨cC, iS, hu⟩ := u_known (C := tq_n c) (T := tq_t c) (N := (tq_f c).length) hw (fun w hw => by rw [h3] at hw; cases hw) (hw _ h4)
        exact ⟨(cC, iS), fun _ => hu⟩
      · exact ⟨(0, fun _ => 0), fun h => absurd h h2⟩
  obtain ⟨F, hF⟩ := Classical.axiomOfChoice hc
  obtain ⟨cI, kI, mI, i1, i2, i3⟩ := Cond.arrayClass_spec (hw _ (tq_O 0 rfl))
  obtain ⟨cJ, kJ, mJ, j1, j2, j3⟩ := Cond.arrayClass_spec (hw _ (tq_O 1 rfl))
  obtain ⟨mS, cS, kS, s1, -, s3, s4, s5⟩ := Cond.arrayOver_spec (hts _ (tq_bl_in (j := 2) (List.mem_of_getElem? (i := 34) rfl)))
  refine ⟨(fun c => (F c).1, fun c => (F c).2), fun k => if k = 0 then cI else if k = 1 then cJ else cS, fun c q hq => ?_, fun k q hq => ?_⟩
  · have hlt : c < 11 := by
      have h := (List.getElem?_eq_some_iff.mp hq).1
      simpa [tq_cl] using h
    cases (tq_cl_at hlt).symm.trans hq
    exact hF c hlt
  · rcases k with _ | _ | _ | k
    · cases hq
      exact ⟨fun n z => ⟨(fun k h => by cases h), kI, i2, mI, i3⟩, i1⟩
    · cases hq
      exact ⟨fun n z => ⟨(fun k h => by cases h), kJ, j2, mJ, j3⟩, j1⟩
    · cases hq
      exact ⟨fun n z => ⟨(fun k h => by cases h), kS, s3, mS, s4⟩, kS, mS, s3, s4, s1, s5⟩
    · exact absurd (List.getElem?_eq_some_iff.mp hq).1 (by simp)
theorem tq_pos {args : Array Value} {s : State} {D : va_G} {tys : List (ClassId × FieldType)} (hK : va_K D tq_cl tys s) {c : Nat} (hc : c < 11) {T : String} (h : (Cond.castable (tq_n c) T).before args s = true) : ∃ cT, s.vm.findClass T = some cT ∧ s.vm.assignable (D.1 c) cT = true := by
  obtain ⟨c1, t1, h1, h2, h3⟩ := Cond.castable_spec h
  have h4 := (hK.1 c _ (tq_cl_at hc)).2.1
  cases h1.symm.trans h4
  exact ⟨t1, h2, h3⟩
theorem tq_neg {args : Array Value} {s : State} {D : va_G} {tys : List (ClassId × FieldType)} (hK : va_K D tq_cl tys s) {c : Nat} (hc : c < 11) {T : String} (h : (Cond.not (.castable (tq_n c) T)).before args s = true) : ∃ cT, s.vm.findClass T = some cT ∧ s.vm.assignable (D.1 c) cT = false := by
  obtain ⟨c1, t1, h1, h2, h3⟩ := va_Nc.of h
  have h4 := (hK.1 c _ (tq_cl_at hc)).2.1
  cases h1.symm.trans h4
  exact ⟨t1, h2, h3⟩
theorem tq_CL_ok {args : Array Value} {s : State} {D : va_G} {tys : List (ClassId × FieldType)} (hK : va_K D tq_cl tys s) (hts : ∀ w ∈ tq_big, w.before args s = true) (hgv : (Jvm.Cond.and given_1 narrow_1).before args s = true) : ∀ q ∈ tq_CL, ∃ cT, s.vm.findClass q.2.2 = some cT ∧ s.vm.assignable (D.1 q.1) cT = tq_isa q.1 q.2.1 := by
  have hs := flat_of_before _ hgv
  intro q hq
  obtain ⟨a, ha, hq⟩ := List.mem_flatMap.mp hq
  have ha := List.mem_range.mp ha
  obtain ⟨r, hr, rfl⟩ := List.mem_map.mp hq
  unfold tq_HX at hr
  simp only [List.mem_cons, List.not_mem_nil, or_false] at hr
  rcases (by omega : a = 0 ∨ a = 1 ∨ a = 2 ∨ a = 3) with rfl | rfl | rfl | rfl <;> rcases hr with rfl | rfl | rfl | rfl
  · exact tq_neg hK (c := 7) (by decide) (hs (Cond.not (.castable (tq_n 7) (tq_n 9))) (by decide +kernel))
  · exact tq_pos hK (c := 7) (by decide) (hts _ (tq_bl_in (j := 3) (List.mem_of_getElem? (i := 137) rfl)))
  · exact tq_neg hK (c := 7) (by decide) (hs (Cond.not (.castable (tq_n 7) (tq_n 10))) (by decide +kernel))
  · exact tq_neg hK (c := 7) (by decide) (hs (Cond.not (.castable (tq_n 7) (tq_n 8))) (by decide +kernel))
  · exact tq_neg hK (c := 8) (by decide) (hs (Cond.not (.castable (tq_n 8) (tq_n 9))) (by decide +kernel))
  · exact tq_neg hK (c := 8) (by decide) (hs (Cond.not (.castable (tq_n 8) (tq_n 7))) (by decide +kernel))
  · exact tq_neg hK (c := 8) (by decide) (hs (Cond.not (.castable (tq_n 8) (tq_n 10))) (by decide +kernel))
  · exact tq_pos hK (c := 8) (by decide) (hts _ (tq_bl_in (j := 3) (List.mem_of_getElem? (i := 234) rfl)))
  · exact tq_pos hK (c := 9) (by decide) (hts _ (tq_bl_in (j := 3) (List.mem_of_getElem? (i := 60) rfl)))
  · exact tq_neg hK (c := 9) (by decide) (hs (Cond.not (.castable (tq_n 9) (tq_n 7))) (by decide +kernel))
  · exact tq_neg hK (c := 9) (by decide) (hs (Cond.not (.castable (tq_n 9) (tq_n 10))) (by decide +kernel))
  · exact tq_neg hK (c := 9) (by decide) (hs (Cond.not (.castable (tq_n 9) (tq_n 8))) (by decide +kernel))
  · exact tq_neg hK (c := 10) (by decide) (hs (Cond.not (.castable (tq_n 10) (tq_n 9))) (by decide +kernel))
  · exact tq_neg hK (c := 10) (by decide) (hs (Cond.not (.castable (tq_n 10) (tq_n 7))) (by decide +kernel))
  · exact tq_pos hK (c := 10) (by decide) (hts _ (tq_bl_in (j := 3) (List.mem_of_getElem? (i := 155) rfl)))
  · exact tq_neg hK (c := 10) (by decide) (hs (Cond.not (.castable (tq_n 10) (tq_n 8))) (by decide +kernel))
theorem tq_isRef {s U : State} {C n d : String} (h : va_Zq C n d (fun q => s.heap.size ≤ q) U U.heap) (a : Array Value) : (Cond.isRef (.static C n d)).before a U = true := by
  rcases h with ⟨cf, kf, fi, f, ad, cell, h1, h2, h3, h4, h5, h6, h7, h8⟩ | ⟨t, cf, kf, fi, f, ad, cell, h1, h2, h3, h4, h5, h6, h7, h8⟩
  · simp [Cond.before, Cond.holds, Cond.value, Term.eval, State.fieldNamed?, h1, h2, h4, h5, h6, h7]
  · simp [Cond.before, Cond.holds, Cond.value, Term.eval, State.fieldNamed?, h1, h2, h4, h5, h6, h7]
theorem tq_base {args : Array Value} {s : State} {b L : Nat} {xs : Nat → Int32} (hts : ∀ w ∈ tq_big, w.before args s = true) (hgv : (Jvm.Cond.and given_1 narrow_1).before args s = true) (hX : va_X b L xs s s.heap) (hb : b < s.heap.size) :
    ∃ (so : UInt32 → Nat) (cA : Nat → ClassId) (D : va_G), so 0 = b ∧ ∀ U : State, s.WarmedH U.vm → (∀ q : Nat, q < s.heap.size → U.heap[q]? = s.heap[q]?) → pm_facts (tq_P L xs) tq_cl tq_Ts tq_Tx tq_Nw (tq_n 5) tq_SL tq_CL s.heap.size so cA D U := by
  have hs := flat_of_before _ hgv
  obtain ⟨D, cA, hK⟩ := tq_K hts
  have hini : (Cond.initialized "OutlineDesk$Days").before args s = true := tq_word hts (tq_ini (k := 11) (by decide))
  have hiniT : (Cond.initialized "java/lang/Throwable").before args s = true := hts _ (tq_bl_in (j := 2) (List.mem_of_getElem? (i := 11) rfl))
  obtain ⟨t1, hT1, hZ1⟩ := tq_tab (C := "OutlineDesk$Days") (n := "LENGTHS") (d := "[I") (tab := tq_t1) (hts _ (tq_bl_in (j := 4) (List.mem_of_getElem? (i := 114) rfl))) hini (hs _ (by decide +kernel)) (hs _ (by decide +kernel)) (fun j hj => hs _ ((by decide +kernel : ∀ j, j < 12 → Cond.eq (.elem (.static "OutlineDesk$Days" "LENGTHS" "[I") (.int (Int32.ofNat j))) (.int (tq_t1 j)) ∈ flatC (Jvm.Cond.and given_1 narrow_1)) j hj))
  obtain ⟨t2, hT2, hZ2⟩ := tq_tab (C := "OutlineDesk$Days") (n := "DAYS_BEFORE") (d := "[I") (tab := tq_t2) (hts _ (tq_bl_in (j := 4) (List.mem_of_getElem? (i := 106) rfl))) hini (hs _ (by decide +kernel)) (hs _ (by decide +kernel)) (fun j hj => hs _ ((by decide +kernel : ∀ j, j < 12 → Cond.eq (.elem (.static "OutlineDesk$Days" "DAYS_BEFORE" "[I") (.int (Int32.ofNat j))) (.int (tq_t2 j)) ∈ flatC (Jvm.Cond.and given_1 narrow_1)) j hj))
  have hT0 : va_T .int b L (fun j => .int (xs j)) (fun q => s.heap.size ≤ q) s s.heap := by
    obtain ⟨scr, g1, g2, g3, g4, g5⟩ := hX
    exact ⟨scr, g1, g2, g3, Nat.le_of_eq g4.symm, by rw [g4], g5, Nat.not_le.mpr hb⟩
  have hL1 : (Cond.laysStatic "java/lang/Throwable" "UNASSIGNED_STACK" "[Ljava/lang/StackTraceElement;").before args s = true := hts _ (tq_bl_in (j := 3) (List.mem_of_getElem? (i := 85) rfl))
  have hL2 : (Cond.laysStatic "java/lang/Throwable" "SUPPRESSED_SENTINEL" "Ljava/util/List;").before args s = true := hts _ (tq_bl_in (j := 3) (List.mem_of_getElem? (i := 87) rfl))
  have hQ1 : va_Zq "java/lang/Throwable" "UNASSIGNED_STACK" "[Ljava/lang/StackTraceElement;" (fun q => s.heap.size ≤ q) s s.heap := va_Zqof hL1 hiniT (hs _ (by decide +kernel)) (fun a ha => Nat.not_le.mpr ha)
  have hQ2 : va_Zq "java/lang/Throwable" "SUPPRESSED_SENTINEL" "Ljava/util/List;" (fun q => s.heap.size ≤ q) s s.heap := va_Zqof hL2 hiniT (hs _ (by decide +kernel)) (fun a ha => Nat.not_le.mpr ha)
  have hao : va_AO (tq_n 5) s := va_AO.of (hts _ (tq_bl_in (j := 2) (List.mem_of_getElem? (i := 34) rfl)))
  have hcl := tq_CL_ok hK hts hgv
  refine ⟨fun i => if i = 0 then b else if i = 1 then t1 else t2, cA, D, rfl, fun U hW hh => ?_⟩
  have keep : ∀ a : Nat, a < s.heap.size → ¬ s.heap.size ≤ a → U.heap[a]? = s.heap[a]? := fun a ha _ => hh a ha
  have lays : ∀ {n d : String}, (Cond.laysStatic "java/lang/Throwable" n d).before args s = true → ∀ a : Array Value, (Cond.laysStatic "java/lang/Throwable" n d).before a U = true := by
    intro n d h a
    obtain ⟨c, k, i, f, ad, cell, g1, g2, g3, g4, g5, g6, g7, g8, g9⟩ := Cond.laysStatic_spec (Cond.laysStatic_setVm hW.alike h)
    exact Cond.laysStatic_of (s := U) g1 g2 g3 g4 (by rw [hh ad (Array.getElem?_eq_some_iff.mp g5).1]; exact g5) g6 g7 g8 g9
  refine ⟨fun w hw a => word_at hW (good_of_word (tq_Ts_ok w hw).2) (tq_word hts hw), ?_, ?_, hK.moved hW.alike, hao.moved hW.alike, ?_, ?_, ?_⟩
  · intro w hw a
    unfold tq_Tx at hw
    rcases List.mem_append.mp hw with hw | hw
    · simp only [tq_Tr, List.map_cons, List.map_nil, List.mem_cons, List.not_mem_nil, or_false] at hw
      rcases hw with rfl | rfl
      · exact tq_isRef ((hQ1.moved hW.alike).kept keep) a
      · exact tq_isRef ((hQ2.moved hW.alike).kept keep) a
    · rcases List.mem_append.mp hw with hw | hw
      · simp only [tq_Tr, List.map_cons, List.map_nil, List.mem_cons, List.not_mem_nil, or_false] at hw
        rcases hw with rfl | rfl
        · exact lays hL1 a
        · exact lays hL2 a
      · rcases List.mem_append.mp hw with hw | hw
        · simp only [tq_Td, List.map_cons, List.map_nil, List.mem_cons, List.not_mem_nil, or_false] at hw
          rcases hw with rfl | rfl | rfl
          · exact va_Nw.use rfl (va_Nw.warmD hW (va_Nw.of rfl (hts _ (tq_bl_in (j := 3) (List.mem_of_getElem? (i := 61) rfl)))))
          · exact va_Nw.use rfl (va_Nw.warmD hW (va_Nw.of rfl (hts _ (tq_bl_in (j := 3) (List.mem_of_getElem? (i := 63) rfl)))))
          · exact va_Nw.use rfl (va_Nw.warmD hW (va_Nw.of rfl (hts _ (tq_bl_in (j := 3) (List.mem_of_getElem? (i := 65) rfl)))))
        · obtain ⟨c, hc, rfl⟩ := List.mem_map.mp hw
          have hc := List.mem_range.mp hc
          rcases (by omega : c = 0 ∨ c = 1 ∨ c = 2 ∨ c = 3) with rfl | rfl | rfl | rfl
          · exact va_Nw.use rfl (va_Nw.warmC hW (va_Nw.of rfl (hts _ (tq_bl_in (j := 3) (List.mem_of_getElem? (i := 137) rfl)))))
          · exact va_Nw.use rfl (va_Nw.warmC hW (va_Nw.of rfl (hts _ (tq_bl_in (j := 3) (List.mem_of_getElem? (i := 234) rfl)))))
          · exact va_Nw.use rfl (va_Nw.warmC hW (va_Nw.of rfl (hts _ (tq_bl_in (j := 3) (List.mem_of_getElem? (i := 60) rfl)))))
          · exact va_Nw.use rfl (va_Nw.warmC hW (va_Nw.of rfl (hts _ (tq_bl_in (j := 3) (List.mem_of_getElem? (i := 155) rfl)))))
  · intro w hw
    unfold tq_Nw at hw
    rw [List.mem_singleton.mp hw]
    exact va_Nw.warmM hW (va_Nw.of rfl (hts _ (tq_bl_in (j := 4) (List.mem_of_getElem? (i := 144) rfl))))
  · intro a ha
    have ha3 : a = 0 ∨ a = 1 ∨ a = 2 := by
      have h1 : a.toNat < 3 := ha
      rcases (by omega : a.toNat = 0 ∨ a.toNat = 1 ∨ a.toNat = 2) with h | h | h
      · exact Or.inl (UInt32.toNat_inj.mp h)
      · exact Or.inr (Or.inl (UInt32.toNat_inj.mp h))
      · exact Or.inr (Or.inr (UInt32.toNat_inj.mp h))
    rcases ha3 with rfl | rfl | rfl
    · exact (hT0.moved hW.alike).kept keep
    · exact (hT1.moved hW.alike).kept keep
    · exact (hT2.moved hW.alike).kept keep
  · intro q hq
    unfold tq_SL at hq
    simp only [List.mem_cons, List.not_mem_nil, or_false] at hq
    rcases hq with rfl | rfl
    · exact (hZ1.moved hW.alike).kept keep
    · exact (hZ2.moved hW.alike).kept keep
  · intro q hq
    obtain ⟨cT, h1, h2⟩ := hcl q hq
    exact ⟨cT, by rw [hW.alike.findClass]; exact h1, by rw [hW.alike.assignable]; exact h2⟩
