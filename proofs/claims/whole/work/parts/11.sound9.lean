section PM9
variable {p : Program} {l : Launch} {e : Env} {P : pm_P} {mm : Nat → MethodName × ByteArray} {rf : Nat → Nat × Nat} {dm : Nat → Bool} {cl : List vw_C} {Ts Tx Nw : List Cond} {SC : String} {SL : List (String × String × String × UInt32)} {CL : List (Nat × Nat × String)} {z : Nat} {so : UInt32 → Nat} {cA : Nat → ClassId} {D : va_G} {s0 : State} {H0 : Heap}
/-- one step within a method -/
theorem pm_in_ok (hbase : ∀ U : State, s0.WarmedH U.vm → (∀ q : Nat, q < z → U.heap[q]? = H0[q]?) → pm_facts P cl Ts Tx Nw SC SL CL z so cA D U) (harc : ∀ ci, pm_arr P 0 0 = some ci → ∃ r : vw_C, cl[ci]? = some r ∧ r.1 = SC) (hai : Cond.arrayClass .int ∈ Ts) (hal : Cond.arrayClass .long ∈ Ts)
    {mi pc pc' n : Nat} {lv lv' : pm_L} {st st' : List Value} {σ σ' : pm_S} {i : Instr} (hmk : pm_mok P mm rf dm cl Ts Tx Nw SC SL CL z so mi) {R : Room} {s : State} {m : MethodId} {args : Array Value} {below : List Frame} {meth : Method} {c : Code} (hfr : pm_fr P mm rf z s0 H0 mi p R s m meth c)
    (hcod : pm_cod P mi pc = some (i, n)) (hn : pm_ln i n = true) (h : pm_in P mi pc lv st σ i = some (pc', lv', st', σ')) {H : Heap} {locs : List Loc} {cells slots : Nat} {ls : Array Slot} {Q : State → Prop}
    (hl : lv_has ls (pm_mxl P mi) (pm_rl z so lv)) (hrel : pm_rel z so cA D cl H0 σ H) (hlocs : ∀ q ∈ locs, z ≤ q.base) (hrc : cells + (σ'.2.1 - σ.2.1) ≤ R.cells) (hrs : slots + (σ'.2.2 - σ.2.2) ≤ R.slots)
    (kk : ∀ (H1 : Heap) (locs1 : List Loc) (ls1 : Array Slot), lv_has ls1 (pm_mxl P mi) (pm_rl z so lv') → pm_rel z so cA D cl H0 σ' H1 → (∀ q ∈ locs1, z ≤ q.base) → W p l e R s m args below meth c H1 locs1 (cells + (σ'.2.1 - σ.2.1)) (slots + (σ'.2.2 - σ.2.2)) Q (F0 m pc' ls1 (pm_rs z so st'))) :
    W p l e R s m args below meth c H locs cells slots Q (F0 m pc ls (pm_rs z so st)) := by
  obtain ⟨⟨hm0, hmcw, hmin, hmpl, hmh, hdec⟩, hcst, hfld, hmak, harr, hk6, hk7, hcal, hexc, hsta, hhdl⟩ := hmk
  obtain ⟨⟨hx, hb, hml, hr, hlk, hnm, hht⟩, hown, hfrm, hlo, hws, hold0⟩ := hfr
  obtain ⟨hts, htx, hnw, hK, hao, hold, hstz, hcls⟩ := hbase s hws hold0
  have hd := hdec _ _ _ hcod
  have hsame : ∀ q : Nat, ¬ z ≤ q → H[q]? = s.heap[q]? := fun q hq => (hrel.2.2 q (by omega)).trans (hold0 q (by omega)).symm
  rcases pm_in_inv h with ⟨rfl, h | h | h | h⟩ | h | h
  · simp only [Nat.sub_self, Nat.add_zero] at kk
    refine pm_i1_ok hx hb hd hn hown (fun w hw => hts w hw args) hcst ?_ h hl (fun ls' hl' => kk H locs ls' hl' hrel hlocs)
    intro ix i0 hi pc0 st0 hd0 k0
    obtain ⟨C, nm, dd, hmem, hlink⟩ := hsta ix i0 hi
    obtain ⟨cf, kf, fi, f, a, cell, h1, h2, h3, h4, h5, h6, h7, h8⟩ := hstz _ hmem
    rcases hlink with hlink | ⟨host, hlink⟩
    · exact W.gets hx hb hown (hts _ hlink args) h1 h2 h3 h4 (by rw [hsame a h8]; exact h5) (fun e => by rw [e] at h6; cases h6) h7 rfl hd0 k0
    · exact va_WgetsN hx hb hown (va_Nw.use rfl (hnw _ hlink)) h1 h2 h3 h4 (by rw [hsame a h8]; exact h5) (fun e => by rw [e] at h6; cases h6) h7 rfl hd0 k0
  · simp only [Nat.sub_self, Nat.add_zero] at kk
    exact pm_i2_ok hx hb hd hn rfl h hl (fun ls' hl' => kk H locs ls' hl' hrel hlocs)
  · simp only [Nat.sub_self, Nat.add_zero] at kk
    exact pm_i3_ok hx hb hd hn h hl (fun ls' hl' => kk H locs ls' hl' hrel hlocs)
  · simp only [Nat.sub_self, Nat.add_zero] at kk
    exact pm_i4_ok hx hb hd hn h hl (fun ls' hl' => kk H locs ls' hl' hrel hlocs)
  · have hsz := pm_i5_sz h
    rw [hsz] at kk
    simp only [Nat.sub_self, Nat.add_zero] at kk
    refine (pm_i5_ok hx hb hd hn hown (fun w hw => hts w hw args) hnw hK (fun q => hnm.trans (of_decide_eq_true q)) hfld (fun a ha => ?_) harc h hl hrel hlocs (fun H1 locs1 hl' hr' hl1 => kk H1 locs1 ls hl' hr' hl1)).2
    obtain ⟨cell, o1, o2, o3, o4, o5, o6, o7⟩ := hold a ha
    exact ⟨cell, by rw [hsame _ o7]; exact o1, o2, o3, o4, o5, o6, fun q => q⟩
  · exact pm_i6_ok hx hb hml hd hn hown (fun w hw => hts w hw args) hK hmak hai hal (fun ix ci hc _ => ⟨harr ix ci hc, hao⟩) (fun ix q hq => (hk6 ix q hq).mono hfrm hlo) (fun ix q hq => (hk7 ix q hq).mono hfrm hlo) hm0 h hl hrel hlocs hrc hrs (fun H1 locs1 hl' hr' hl1 => kk H1 locs1 ls hl' hr' hl1)
/-- the end of a method -/
theorem pm_dn_ok (hbase : ∀ U : State, s0.WarmedH U.vm → (∀ q : Nat, q < z → U.heap[q]? = H0[q]?) → pm_facts P cl Ts Tx Nw SC SL CL z so cA D U) (htr : e.platform.stackTraces = false)
    {mi pc n : Nat} {lv : pm_L} {st : List Value} {σ σ' : pm_S} {i : Instr} {o : pm_O} (hmk : pm_mok P mm rf dm cl Ts Tx Nw SC SL CL z so mi) {R : Room} {s : State} {m : MethodId} {args : Array Value} {below : List Frame} {meth : Method} {c : Code} (hfr : pm_fr P mm rf z s0 H0 mi p R s m meth c)
    (hcod : pm_cod P mi pc = some (i, n)) (hn : pm_ln i n = true) (h : pm_dn P mi pc st σ i = some (o, σ')) {H : Heap} {locs : List Loc} {cells slots : Nat} {ls : Array Slot}
    (hl : lv_has ls (pm_mxl P mi) (pm_rl z so lv)) (hrel : pm_rel z so cA D cl H0 σ H) (hlocs : ∀ q ∈ locs, z ≤ q.base) (hrc : cells + (σ'.2.1 - σ.2.1) ≤ R.cells) (hrs : slots + (σ'.2.2 - σ.2.2) ≤ R.slots) :
    W p l e R s m args below meth c H locs cells slots (pm_Q z so cA D cl H0 below s o σ' (cells + (σ'.2.1 - σ.2.1)) (slots + (σ'.2.2 - σ.2.2))) (F0 m pc ls (pm_rs z so st)) := by
  obtain ⟨⟨hm0, hmcw, hmin, hmpl, hmh, hdec⟩, hcst, hfld, hmak, harr, hk6, hk7, hcal, hexc, hsta, hhdl⟩ := hmk
  obtain ⟨⟨hx, hb, hml, hr, hlk, hnm, hht⟩, hown, hfrm, hlo, hws, hold0⟩ := hfr
  obtain ⟨hts, htx, hnw, hK, hao, hold, hstz, hcls⟩ := hbase s hws hold0
  have hd := hdec _ _ _ hcod
  by_cases hi : ∃ ix, i = .new ix
  · obtain ⟨ix, rfl⟩ := hi
    dsimp only [pm_dn] at h
    split at h
    · next ci he =>
      cases h
      simp only [pm_add, Nat.add_sub_cancel_left] at hrc hrs ⊢
      obtain ⟨hxo, hno⟩ := hexc pc ci he
      have hem : c.exceptionTable.isEmpty = true := by
        rw [hno] at hht
        have h1 : c.exceptionTable.toList = [] := List.map_eq_nil_iff.mp hht
        exact Array.isEmpty_iff.mpr (Array.toList_eq_nil_iff.mp h1)
      refine pm_throw_ok (Ts := Ts ++ Tx) (lv := lv) hx htr hb hml hlk hem hown (fun w hw a' U hW hU => ?_) hK (hxo.mono hfrm hlo) hl hrel hlocs hrc hrs
      obtain ⟨hts', htx', -⟩ := hbase U (hws.trans hW) hU.2.2
      rcases List.mem_append.mp hw with hw | hw
      · exact hts' w hw a'
      · exact htx' w hw a'
    · cases h
  · obtain ⟨rfl, hw⟩ := pm_ret_ok (P := P) (args := args) (R := R) (e := e) (l := l) (m := m) (below := below) (s := s) (ls := ls) (cells := cells) (slots := slots) hx hb hd hn hr hlk (fun ix q => hi ⟨ix, q⟩) h hrel hlocs
    simp only [Nat.sub_self, Nat.add_zero]
    exact hw
end PM9
