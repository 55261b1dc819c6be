/-! the pure machine and the heap: what it means that they agree -/
def pm_rv (z : Nat) (so : UInt32 → Nat) : Value → Value
  | .ref k => .ref (z + k)
  | .float i => .ref (so i)
  | v => v
def pm_rl (z : Nat) (so : UInt32 → Nat) (lv : pm_L) : List (Nat × Value) := lv.map (fun q => (q.1, pm_rv z so q.2))
def pm_rs (z : Nat) (so : UInt32 → Nat) (st : List Value) : List Value := st.map (pm_rv z so)
theorem pm_cat (z : Nat) (so : UInt32 → Nat) (v : Value) : (pm_rv z so v).category = v.category := by cases v <;> rfl
theorem pm_lk_mem : ∀ {lv : pm_L} {i : Nat} {v : Value}, pm_lk lv i = some v → (i, v) ∈ lv
  | [], _, _, h => by cases h
  | q :: l, i, v, h => by
    unfold pm_lk at h
    by_cases hq : q.1 = i
    · rw [if_pos hq] at h
      cases h
      subst hq
      exact List.mem_cons_self
    · rw [if_neg hq] at h
      exact List.mem_cons_of_mem _ (pm_lk_mem h)
theorem pm_lk_in {z : Nat} {so : UInt32 → Nat} {lv : pm_L} {i : Nat} {v : Value} (h : pm_lk lv i = some v) : (i, pm_rv z so v) ∈ pm_rl z so lv := List.mem_map.mpr ⟨(i, v), pm_lk_mem h, rfl⟩
theorem pm_lk_at {z : Nat} {so : UInt32 → Nat} {lv : pm_L} {i nL : Nat} {v : Value} {ls : Array Slot} (h : pm_lk lv i = some v) (hl : lv_has ls nL (pm_rl z so lv)) : ls[i]? = some (.val (pm_rv z so v)) := hl.2.2 _ (pm_lk_in h)
theorem pm_st1_rl (z : Nat) (so : UInt32 → Nat) (lv : pm_L) (i : Nat) (v : Value) : (i, pm_rv z so v) :: (pm_rl z so lv).filter (fun q => !(q.1 == i) && !(q.1 + 1 == i && q.2.category == 2)) = pm_rl z so (pm_st1 lv i v) := by
  simp only [pm_rl, pm_st1, List.map_cons, List.filter_map]
  congr 2
  apply List.filter_congr
  intro q _
  simp only [Function.comp_apply, pm_cat]
theorem pm_st2_rl (z : Nat) (so : UInt32 → Nat) (lv : pm_L) (i : Nat) (v : Value) : (i, pm_rv z so v) :: (pm_rl z so lv).filter (fun q => !(q.1 == i) && (!(q.1 == i + 1) && !(q.1 + 1 == i && q.2.category == 2))) = pm_rl z so (pm_st2 lv i v) := by
  simp only [pm_rl, pm_st2, List.map_cons, List.filter_map]
  congr 2
  apply List.filter_congr
  intro q _
  simp only [Function.comp_apply, pm_cat]
theorem pm_jp_tgt {pc : Nat} {off : Int} {lv lv' : pm_L} {st st' : List Value} {pc' : Nat} (h : pm_jp pc off lv st = some (pc', lv', st')) : (pc : Int) + off = (pc' : Int) ∧ lv' = lv ∧ st' = st := by
  unfold pm_jp at h
  split at h
  · cases h
  · cases h
    refine ⟨?_, rfl, rfl⟩
    omega
def pm_cok (Ts : List Cond) (own : String) (ix : Nat) : Value → Prop
  | .int v => Cond.constant own ix v ∈ Ts
  | .long v => Cond.constantLong own ix v ∈ Ts
  | _ => True
section PM1
variable {p : Program} {l : Launch} {e : Env} {R : Room} {s : State} {m : MethodId} {args : Array Value} {below : List Frame} {meth : Method} {c : Code} {H : Heap} {locs : List Loc} {cells slots : Nat} {Q : State → Prop}
variable {cc : ByteArray} {pc pc' n nL mi z : Nat} {ls : Array Slot} {lv lv' : pm_L} {st st' : List Value} {so : UInt32 → Nat} {P : pm_P} {i : Instr} {Ts : List Cond} {own : String}

set_option maxHeartbeats 1000000 in
theorem pm_i1_ok (hx : p.tables.exec = Jvm.exec) (hb : c.code = cc) (hd : decode cc pc = .ok (i, n)) (hn : pm_ln i n = true) (hown : s.vm.findClass own = some m.cls) (hts : ∀ w ∈ Ts, w.before args s = true) (hc : ∀ ix v, pm_cst P mi ix = some v → pm_cok Ts own ix v)
    (hs : ∀ (ix : Nat) (i : UInt32), pm_sta P mi ix = some i → ∀ (pc : Nat) (st : List Value), decode cc pc = .ok (.getstatic ix, 3) → W p l e R s m args below meth c H locs cells slots Q (F0 m (pc + 3) ls (.ref (so i) :: st)) → W p l e R s m args below meth c H locs cells slots Q (F0 m pc ls st))
    (h : pm_i1 P mi pc lv st i = some (pc', lv', st')) (hl : lv_has ls nL (pm_rl z so lv)) (kk : ∀ ls' : Array Slot, lv_has ls' nL (pm_rl z so lv') → W p l e R s m args below meth c H locs cells slots Q (F0 m pc' ls' (pm_rs z so st'))) : W p l e R s m args below meth c H locs cells slots Q (F0 m pc ls (pm_rs z so st)) := by
  cases i <;> try (exact absurd (show (none : Option pm_M) = some _ from h) (by simp))
  case iconst k =>
    dsimp only [pm_i1] at h
    have hn : n = 1 := by simpa [pm_ln] using hn
    subst hn
    cases h
    exact lv_iconst hx hb hd rfl (kk ls hl)
  case bipush k =>
    dsimp only [pm_i1] at h
    have hn : n = 2 := by simpa [pm_ln] using hn
    subst hn
    cases h
    exact lv_bipush hx hb hd rfl (kk ls hl)
  case sipush k =>
    dsimp only [pm_i1] at h
    have hn : n = 3 := by simpa [pm_ln] using hn
    subst hn
    cases h
    exact lv_sipush hx hb hd rfl (kk ls hl)
  case lconst k =>
    dsimp only [pm_i1] at h
    have hn : n = 1 := by simpa [pm_ln] using hn
    subst hn
    cases h
    exact lv_lconst hx hb hd rfl (kk ls hl)
  case ldc k =>
    dsimp only [pm_i1] at h
    have hn : n = 2 := by simpa [pm_ln] using hn
    subst hn
    split at h
    · next v hv =>
      cases h
      exact lv_ldc hx hb hown (hts _ (hc _ _ hv)) hd (kk ls hl)
    · cases h
  case ldc_w k =>
    dsimp only [pm_i1] at h
    have hn : n = 3 := by simpa [pm_ln] using hn
    subst hn
    split at h
    · next v hv =>
      cases h
      exact lv_ldcw hx hb hown (hts _ (hc _ _ hv)) hd (kk ls hl)
    · cases h
  case ldc2_w k =>
    dsimp only [pm_i1] at h
    have hn : n = 3 := by simpa [pm_ln] using hn
    subst hn
    split at h
    · next v hv =>
      cases h
      exact lv_ldc2 hx hb hown (hts _ (hc _ _ hv)) hd (kk ls hl)
    · cases h
  case iload_n k =>
    dsimp only [pm_i1] at h
    have hn : n = 1 := by simpa [pm_ln] using hn
    subst hn
    split at h
    · next v hv =>
      cases h
      exact lv_iload_n hx hb hd rfl (pm_lk_at hv hl) (kk ls hl)
    · cases h
  case iload k =>
    dsimp only [pm_i1] at h
    have hn : n = 2 := by simpa [pm_ln] using hn
    subst hn
    split at h
    · next v hv =>
      cases h
      exact lv_iload hx hb hd (pm_lk_at hv hl) (kk ls hl)
    · cases h
  case lload_n k =>
    dsimp only [pm_i1] at h
    have hn : n = 1 := by simpa [pm_ln] using hn
    subst hn
    split at h
    · next v hv =>
      cases h
      exact lv_lload_n hx hb hd rfl (pm_lk_at hv hl) (kk ls hl)
    · cases h
  case lload k =>
    dsimp only [pm_i1] at h
    have hn : n = 2 := by simpa [pm_ln] using hn
    subst hn
    split at h
    · next v hv =>
      cases h
      exact lv_lload hx hb hd (pm_lk_at hv hl) (kk ls hl)
    · cases h
  case aload_n k =>
    dsimp only [pm_i1] at h
    have hn : n = 1 := by simpa [pm_ln] using hn
    subst hn
    split at h
    · next v hv =>
      cases h
      exact lv_aload_n hx hb hd rfl (pm_lk_at hv hl) (kk ls hl)
    · next v hv =>
      cases h
      exact lv_aload_n hx hb hd rfl (pm_lk_at hv hl) (kk ls hl)
    · cases h
  case aload k =>
    dsimp only [pm_i1] at h
    have hn : n = 2 := by simpa [pm_ln] using hn
    subst hn
    split at h
    · next v hv =>
      cases h
      exact lv_aload hx hb hd (pm_lk_at hv hl) (kk ls hl)
    · next v hv =>
      cases h
      exact lv_aload hx hb hd (pm_lk_at hv hl) (kk ls hl)
    · cases h
  case dup =>
    dsimp only [pm_i1] at h
    have hn : n = 1 := by simpa [pm_ln] using hn
    subst hn
    split at h
    · next v r =>
      split at h
      · next hv =>
        cases h
        exact lv_dup hx hb hd (by rw [pm_cat]; exact hv) (kk ls hl)
      · cases h
    · cases h
  case pop =>
    dsimp only [pm_i1] at h
    have hn : n = 1 := by simpa [pm_ln] using hn
    subst hn
    split at h
    · next v r =>
      split at h
      · next hv =>
        cases h
        exact lv_pop hx hb hd (by rw [pm_cat]; exact hv) (kk ls hl)
      · cases h
    · cases h
  case goto k =>
    dsimp only [pm_i1] at h
    have hn : n = 3 := by simpa [pm_ln] using hn
    subst hn
    obtain ⟨h1, rfl, rfl⟩ := pm_jp_tgt h
    exact lv_goto hx hb hd h1 (kk ls hl)
  case getstatic k =>
    dsimp only [pm_i1] at h
    have hn : n = 3 := by simpa [pm_ln] using hn
    subst hn
    split at h
    · next v hv =>
      cases h
      exact hs _ _ hv _ _ hd (kk ls hl)
    · cases h
set_option maxHeartbeats 1000000 in
theorem pm_i2_ok (hx : p.tables.exec = Jvm.exec) (hb : c.code = cc) (hd : decode cc pc = .ok (i, n)) (hn : pm_ln i n = true) (hnL : pm_mxl P mi = nL) (h : pm_i2 P mi pc lv st i = some (pc', lv', st')) (hl : lv_has ls nL (pm_rl z so lv)) (kk : ∀ ls' : Array Slot, lv_has ls' nL (pm_rl z so lv') → W p l e R s m args below meth c H locs cells slots Q (F0 m pc' ls' (pm_rs z so st'))) : W p l e R s m args below meth c H locs cells slots Q (F0 m pc ls (pm_rs z so st)) := by
  cases i <;> try (exact absurd (show (none : Option pm_M) = some _ from h) (by simp))
  case istore_n k =>
    dsimp only [pm_i2] at h
    have hn : n = 1 := by simpa [pm_ln] using hn
    subst hn
    split at h
    · next v r =>
      split at h
      · next hk =>
        cases h
        exact lv_istore_n hx hb hd rfl hl (by rw [← hnL]; exact hk) (pm_st1_rl z so lv _ (.int v)) kk
      · cases h
    · cases h
  case istore k =>
    dsimp only [pm_i2] at h
    have hn : n = 2 := by simpa [pm_ln] using hn
    subst hn
    split at h
    · next v r =>
      split at h
      · next hk =>
        cases h
        exact lv_istore hx hb hd hl (by rw [← hnL]; exact hk) (pm_st1_rl z so lv _ (.int v)) kk
      · cases h
    · cases h
  case lstore_n k =>
    dsimp only [pm_i2] at h
    have hn : n = 1 := by simpa [pm_ln] using hn
    subst hn
    split at h
    · next v r =>
      split at h
      · next hk =>
        cases h
        exact lv_lstore_n hx hb hd rfl hl (by rw [← hnL]; exact hk) (pm_st2_rl z so lv _ (.long v)) kk
      · cases h
    · cases h
  case lstore k =>
    dsimp only [pm_i2] at h
    have hn : n = 2 := by simpa [pm_ln] using hn
    subst hn
    split at h
    · next v r =>
      split at h
      · next hk =>
        cases h
        exact lv_lstore hx hb hd hl (by rw [← hnL]; exact hk) (pm_st2_rl z so lv _ (.long v)) kk
      · cases h
    · cases h
  case astore_n k =>
    dsimp only [pm_i2] at h
    have hn : n = 1 := by simpa [pm_ln] using hn
    subst hn
    split at h
    · next v r =>
      split at h
      · next hk =>
        cases h
        exact lv_astore_n hx hb hd rfl hl (by rw [← hnL]; exact hk) (pm_st1_rl z so lv _ (.ref v)) kk
      · cases h
    · cases h
  case astore k =>
    dsimp only [pm_i2] at h
    have hn : n = 2 := by simpa [pm_ln] using hn
    subst hn
    split at h
    · next v r =>
      split at h
      · next hk =>
        cases h
        exact lv_astore hx hb hd hl (by rw [← hnL]; exact hk) (pm_st1_rl z so lv _ (.ref v)) kk
      · cases h
    · cases h
  case iinc k d =>
    dsimp only [pm_i2] at h
    have hn : n = 3 := by simpa [pm_ln] using hn
    subst hn
    split at h
    · next v hv =>
      split at h
      · next hk =>
        cases h
        obtain ⟨q, hq⟩ := List.getElem?_of_mem (pm_lk_in (z := z) (so := so) hv)
        exact lv_iinc (k := q) hx hb hd hl hq rfl (by rw [← hnL]; exact hk) (pm_st1_rl z so lv _ (.int (v + Int32.ofInt d))) kk
      · cases h
    · cases h
set_option maxHeartbeats 1000000 in
theorem pm_i3_ok (hx : p.tables.exec = Jvm.exec) (hb : c.code = cc) (hd : decode cc pc = .ok (i, n)) (hn : pm_ln i n = true) (h : pm_i3 pc lv st i = some (pc', lv', st')) (hl : lv_has ls nL (pm_rl z so lv)) (kk : ∀ ls' : Array Slot, lv_has ls' nL (pm_rl z so lv') → W p l e R s m args below meth c H locs cells slots Q (F0 m pc' ls' (pm_rs z so st'))) : W p l e R s m args below meth c H locs cells slots Q (F0 m pc ls (pm_rs z so st)) := by
  cases i <;> try (exact absurd (show (none : Option pm_M) = some _ from h) (by simp))
  case iadd =>
    dsimp only [pm_i3] at h
    have hn : n = 1 := by simpa [pm_ln] using hn
    subst hn
    split at h
    · cases h
      exact lv_iadd hx hb hd (kk ls hl)
    · cases h
  case isub =>
    dsimp only [pm_i3] at h
    have hn : n = 1 := by simpa [pm_ln] using hn
    subst hn
    split at h
    · cases h
      exact lv_isub hx hb hd (kk ls hl)
    · cases h
  case imul =>
    dsimp only [pm_i3] at h
    have hn : n = 1 := by simpa [pm_ln] using hn
    subst hn
    split at h
    · cases h
      exact lv_imul hx hb hd (kk ls hl)
    · cases h
  case iand =>
    dsimp only [pm_i3] at h
    have hn : n = 1 := by simpa [pm_ln] using hn
    subst hn
    split at h
    · cases h
      exact lv_iand hx hb hd (kk ls hl)
    · cases h
  case ior =>
    dsimp only [pm_i3] at h
    have hn : n = 1 := by simpa [pm_ln] using hn
    subst hn
    split at h
    · cases h
      exact lv_ior hx hb hd (kk ls hl)
    · cases h
  case ixor =>
    dsimp only [pm_i3] at h
    have hn : n = 1 := by simpa [pm_ln] using hn
    subst hn
    split at h
    · cases h
      exact lv_ixor hx hb hd (kk ls hl)
    · cases h
  case ishl =>
    dsimp only [pm_i3] at h
    have hn : n = 1 := by simpa [pm_ln] using hn
    subst hn
    split at h
    · cases h
      exact lv_ishl hx hb hd (kk ls hl)
    · cases h
  case ishr =>
    dsimp only [pm_i3] at h
    have hn : n = 1 := by simpa [pm_ln] using hn
    subst hn
    split at h
    · cases h
      exact lv_ishr hx hb hd (kk ls hl)
    · cases h
  case ladd =>
    dsimp only [pm_i3] at h
    have hn : n = 1 := by simpa [pm_ln] using hn
    subst hn
    split at h
    · cases h
      exact lv_ladd hx hb hd (kk ls hl)
    · cases h
  case lsub =>
    dsimp only [pm_i3] at h
    have hn : n = 1 := by simpa [pm_ln] using hn
    subst hn
    split at h
    · cases h
      exact lv_lsub hx hb hd (kk ls hl)
    · cases h
  case lmul =>
    dsimp only [pm_i3] at h
    have hn : n = 1 := by simpa [pm_ln] using hn
    subst hn
    split at h
    · cases h
      exact lv_lmul hx hb hd (kk ls hl)
    · cases h
  case idiv =>
    dsimp only [pm_i3] at h
    have hn : n = 1 := by simpa [pm_ln] using hn
    subst hn
    split at h
    · split at h
      · cases h
      · next hy =>
        cases h
        exact lv_idiv hx hb hd hy (kk ls hl)
    · cases h
  case irem =>
    dsimp only [pm_i3] at h
    have hn : n = 1 := by simpa [pm_ln] using hn
    subst hn
    split at h
    · split at h
      · cases h
      · next hy =>
        cases h
        exact lv_irem hx hb hd hy (kk ls hl)
    · cases h
  case ldiv =>
    dsimp only [pm_i3] at h
    have hn : n = 1 := by simpa [pm_ln] using hn
    subst hn
    split at h
    · split at h
      · cases h
      · next hy =>
        cases h
        exact lv_ldiv hx hb hd hy (kk ls hl)
    · cases h
  case lrem =>
    dsimp only [pm_i3] at h
    have hn : n = 1 := by simpa [pm_ln] using hn
    subst hn
    split at h
    · split at h
      · cases h
      · next hy =>
        cases h
        exact lv_lrem hx hb hd hy (kk ls hl)
    · cases h
  case ineg =>
    dsimp only [pm_i3] at h
    have hn : n = 1 := by simpa [pm_ln] using hn
    subst hn
    split at h
    · cases h
      exact lv_ineg hx hb hd (kk ls hl)
    · cases h
  case i2l =>
    dsimp only [pm_i3] at h
    have hn : n = 1 := by simpa [pm_ln] using hn
    subst hn
    split at h
    · cases h
      exact lv_i2l hx hb hd rfl (kk ls hl)
    · cases h
  case l2i =>
    dsimp only [pm_i3] at h
    have hn : n = 1 := by simpa [pm_ln] using hn
    subst hn
    split at h
    · cases h
      exact lv_l2i hx hb hd rfl (kk ls hl)
    · cases h
  case lcmp =>
    dsimp only [pm_i3] at h
    have hn : n = 1 := by simpa [pm_ln] using hn
    subst hn
    split at h
    · cases h
      exact W.lcmp hx hb hd (kk ls hl)
    · cases h
set_option maxHeartbeats 1000000 in
theorem pm_i4_ok (hx : p.tables.exec = Jvm.exec) (hb : c.code = cc) (hd : decode cc pc = .ok (i, n)) (hn : pm_ln i n = true) (h : pm_i4 pc lv st i = some (pc', lv', st')) (hl : lv_has ls nL (pm_rl z so lv)) (kk : ∀ ls' : Array Slot, lv_has ls' nL (pm_rl z so lv') → W p l e R s m args below meth c H locs cells slots Q (F0 m pc' ls' (pm_rs z so st'))) : W p l e R s m args below meth c H locs cells slots Q (F0 m pc ls (pm_rs z so st)) := by
  have key : ∀ {q : Prop} [Decidable q] {off : Int} {r : List Value}, pm_br q pc off lv r = some (pc', lv', st') → lv' = lv ∧ st' = r ∧ ∃ tgt : Nat, (pc : Int) + off = (tgt : Int) ∧ ((q ∧ pc' = tgt) ∨ (¬ q ∧ pc' = pc + 3)) := by
    intro q _ off r h
    unfold pm_br at h
    split at h
    · cases h
    · next h0 =>
      split at h
      · next hq =>
        cases h
        exact ⟨rfl, rfl, _, by omega, Or.inl ⟨hq, rfl⟩⟩
      · next hq =>
        cases h
        exact ⟨rfl, rfl, ((pc : Int) + off).toNat, by omega, Or.inr ⟨hq, rfl⟩⟩
  cases i <;> try (exact absurd (show (none : Option pm_M) = some _ from h) (by simp))
  case ifCond cd off =>
    have hn : n = 3 := by simpa [pm_ln] using hn
    subst hn
    cases cd <;> dsimp only [pm_i4] at h
    case eq =>
      split at h
      · obtain ⟨rfl, rfl, tgt, ht, ⟨hq, rfl⟩ | ⟨hq, rfl⟩⟩ := key h
        · exact lv_if_eq hx hb hd ht (fun _ => kk ls hl) (fun q => by first | exact absurd hq q | exact absurd q hq)
        · exact lv_if_eq hx hb hd ht (fun q => by first | exact absurd hq q | exact absurd q hq) (fun _ => kk ls hl)
      · cases h
    case ne =>
      split at h
      · obtain ⟨rfl, rfl, tgt, ht, ⟨hq, rfl⟩ | ⟨hq, rfl⟩⟩ := key h
        · exact lv_if_ne hx hb hd ht (fun _ => kk ls hl) (fun q => by first | exact absurd hq q | exact absurd q hq)
        · exact lv_if_ne hx hb hd ht (fun q => by first | exact absurd hq q | exact absurd q hq) (fun _ => kk ls hl)
      · cases h
    case lt =>
      split at h
      · obtain ⟨rfl, rfl, tgt, ht, ⟨hq, rfl⟩ | ⟨hq, rfl⟩⟩ := key h
        · exact lv_if_lt hx hb hd ht (fun _ => kk ls hl) (fun q => by first | exact absurd hq q | exact absurd q hq)
        · exact lv_if_lt hx hb hd ht (fun q => by first | exact absurd hq q | exact absurd q hq) (fun _ => kk ls hl)
      · cases h
    case ge =>
      split at h
      · obtain ⟨rfl, rfl, tgt, ht, ⟨hq, rfl⟩ | ⟨hq, rfl⟩⟩ := key h
        · exact lv_if_ge hx hb hd ht (fun _ => kk ls hl) (fun q => by first | exact absurd hq q | exact absurd q hq)
        · exact lv_if_ge hx hb hd ht (fun q => by first | exact absurd hq q | exact absurd q hq) (fun _ => kk ls hl)
      · cases h
    case gt =>
      split at h
      · obtain ⟨rfl, rfl, tgt, ht, ⟨hq, rfl⟩ | ⟨hq, rfl⟩⟩ := key h
        · exact lv_if_gt hx hb hd ht (fun _ => kk ls hl) (fun q => by first | exact absurd hq q | exact absurd q hq)
        · exact lv_if_gt hx hb hd ht (fun q => by first | exact absurd hq q | exact absurd q hq) (fun _ => kk ls hl)
      · cases h
    case le =>
      split at h
      · obtain ⟨rfl, rfl, tgt, ht, ⟨hq, rfl⟩ | ⟨hq, rfl⟩⟩ := key h
        · exact lv_if_le hx hb hd ht (fun _ => kk ls hl) (fun q => by first | exact absurd hq q | exact absurd q hq)
        · exact lv_if_le hx hb hd ht (fun q => by first | exact absurd hq q | exact absurd q hq) (fun _ => kk ls hl)
      · cases h
  case if_icmp cd off =>
    have hn : n = 3 := by simpa [pm_ln] using hn
    subst hn
    cases cd <;> dsimp only [pm_i4] at h
    case eq =>
      split at h
      · obtain ⟨rfl, rfl, tgt, ht, ⟨hq, rfl⟩ | ⟨hq, rfl⟩⟩ := key h
        · exact lv_icmp_eq hx hb hd ht (fun _ => kk ls hl) (fun q => by first | exact absurd hq q | exact absurd q hq)
        · exact lv_icmp_eq hx hb hd ht (fun q => by first | exact absurd hq q | exact absurd q hq) (fun _ => kk ls hl)
      · cases h
    case ne =>
      split at h
      · obtain ⟨rfl, rfl, tgt, ht, ⟨hq, rfl⟩ | ⟨hq, rfl⟩⟩ := key h
        · exact lv_icmp_ne hx hb hd ht (fun _ => kk ls hl) (fun q => by first | exact absurd hq q | exact absurd q hq)
        · exact lv_icmp_ne hx hb hd ht (fun q => by first | exact absurd hq q | exact absurd q hq) (fun _ => kk ls hl)
      · cases h
    case lt =>
      split at h
      · obtain ⟨rfl, rfl, tgt, ht, ⟨hq, rfl⟩ | ⟨hq, rfl⟩⟩ := key h
        · exact lv_icmp_lt hx hb hd ht (fun _ => kk ls hl) (fun q => by first | exact absurd hq q | exact absurd q hq)
        · exact lv_icmp_lt hx hb hd ht (fun q => by first | exact absurd hq q | exact absurd q hq) (fun _ => kk ls hl)
      · cases h
    case ge =>
      split at h
      · obtain ⟨rfl, rfl, tgt, ht, ⟨hq, rfl⟩ | ⟨hq, rfl⟩⟩ := key h
        · exact lv_icmp_ge hx hb hd ht (fun _ => kk ls hl) (fun q => by first | exact absurd hq q | exact absurd q hq)
        · exact lv_icmp_ge hx hb hd ht (fun q => by first | exact absurd hq q | exact absurd q hq) (fun _ => kk ls hl)
      · cases h
    case gt =>
      split at h
      · obtain ⟨rfl, rfl, tgt, ht, ⟨hq, rfl⟩ | ⟨hq, rfl⟩⟩ := key h
        · exact lv_icmp_gt hx hb hd ht (fun _ => kk ls hl) (fun q => by first | exact absurd hq q | exact absurd q hq)
        · exact lv_icmp_gt hx hb hd ht (fun q => by first | exact absurd hq q | exact absurd q hq) (fun _ => kk ls hl)
      · cases h
    case le =>
      split at h
      · obtain ⟨rfl, rfl, tgt, ht, ⟨hq, rfl⟩ | ⟨hq, rfl⟩⟩ := key h
        · exact lv_icmp_le hx hb hd ht (fun _ => kk ls hl) (fun q => by first | exact absurd hq q | exact absurd q hq)
        · exact lv_icmp_le hx hb hd ht (fun q => by first | exact absurd hq q | exact absurd q hq) (fun _ => kk ls hl)
      · cases h
  case tableswitch dflt lo hi offs =>
    dsimp only [pm_i4] at h
    split at h
    · split at h
      · next ho =>
        obtain ⟨h1, rfl, rfl⟩ := pm_jp_tgt h
        exact lv_tableOut hx hb hd ho h1 (kk ls hl)
      · next ho =>
        split at h
        · next off hoff =>
          obtain ⟨h1, rfl, rfl⟩ := pm_jp_tgt h
          exact lv_tableIn hx hb hd (fun q => ho (Or.inl q)) (fun q => ho (Or.inr q)) hoff h1 (kk ls hl)
        · cases h
    · cases h
  case lookupswitch dflt ps =>
    dsimp only [pm_i4] at h
    split at h
    · split at h
      · next ho =>
        obtain ⟨h1, rfl, rfl⟩ := pm_jp_tgt h
        exact lv_lookup hx hb hd ho rfl h1 (kk ls hl)
      · cases h
    · cases h
end PM1
