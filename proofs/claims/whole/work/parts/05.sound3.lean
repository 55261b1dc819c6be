/-! what is made; Object's constructor; System.arraycopy -/
def pm_k6 (Ts : List Cond) (own : String) (R : Room) (ix : Nat) : Prop :=
  Cond.methodLink own ix Lib.objectInit ∈ Ts ∧ Cond.instanceMethod Lib.objectInit ∈ Ts ∧ Cond.code Lib.objectInit ⟨#[0xb1]⟩ 1 none ∈ Ts ∧ 1 ≤ R.frames ∧ 20 ≤ R.locals
def pm_k7 (Ts : List Cond) (own : String) (R : Room) (ix : Nat) : Prop :=
  Cond.methodLink own ix arraycopyName ∈ Ts ∧ Cond.native arraycopyName ∈ Ts ∧ Cond.static arraycopyName ∈ Ts ∧ Cond.initialized "java/lang/System" ∈ Ts ∧ 1 ≤ R.frames ∧ 8 + (nativeFrameWords "java/lang/System" "arraycopy" 5 + 11) ≤ R.locals
theorem pm_sum (z : Nat) (so : UInt32 → Nat) (r : List Value) : ((pm_rs z so r).map fun v => v.category).sum = (r.map fun v => v.category).sum := by
  unfold pm_rs
  rw [List.map_map]
  congr 1
  apply List.map_congr_left
  intro v _
  exact pm_cat z so v
section PM3
variable {p : Program} {l : Launch} {e : Env} {R : Room} {s : State} {m : MethodId} {args : Array Value} {below : List Frame} {meth : Method} {c : Code} {H H0 : Heap} {locs : List Loc} {cells slots : Nat} {Q : State → Prop}
variable {cc : ByteArray} {pc pc' n nL mi z : Nat} {ls : Array Slot} {lv lv' : pm_L} {st st' rest : List Value} {σ σ' : pm_S} {so : UInt32 → Nat} {cA : Nat → ClassId} {D : va_G} {cl : List vw_C} {tys : List (ClassId × FieldType)} {P : pm_P} {i : Instr} {Ts Nw : List Cond} {own SC : String} {ini : Bool}
/-- System.arraycopy between two arrays of one primitive type: the heap behind it, whole -/
theorem pm_copy (hx : p.tables.exec = Jvm.exec) (hb : c.code = cc) (hml : c.maxLocals = ls.size) (hown : s.vm.findClass own = some m.cls) (hts : ∀ w ∈ Ts, w.before args s = true) {ix : Nat} (hk7 : pm_k7 Ts own R ix) {α : Type} (mk : α → Value) {ty : FieldType} (hprim : refKind ty = false) (hty : ∀ x : α, fits ty (mk x) = true) {a0 a n0 n1 : Nat} {c0 : ClassId} {f g : Nat → α} (hA : ArrOfT s c0 ty) (hc0 : H[a0]? = some (arrV c0 n0 (fun j => mk (f j)))) (hc1 : H[a]? = some (arrV c0 n1 (fun j => mk (g j))))
    (hmk : ∀ (vm₁ : Vm) (x : α) (b : Nat), mk x = .ref b → False) {sp dp k : Int32} (h1 : ¬ sp < 0) (h2 : ¬ dp < 0) (h3 : ¬ k < 0) (h4 : sp.toNatClampNeg + k.toNatClampNeg ≤ n0) (h5 : dp.toNatClampNeg + k.toNatClampNeg ≤ n1) (hrest : (rest.map fun v => v.category).sum ≤ 8) (hd : decode cc pc = .ok (.invokestatic ix, 3))
    (kk : ∀ (H1 : Heap) (L : List Loc), H1.size = H.size → (∀ q : Nat, q ≠ a → H1[q]? = H[q]?) → H1[a]? = some (arrV c0 n1 (fun j => mk (va_cpy f g sp.toNatClampNeg dp.toNatClampNeg k.toNatClampNeg j))) → (∀ q ∈ L, q.base = a) → W p l e R s m args below meth c H1 (locs ++ L) cells slots Q (F0 m (pc + 3) ls rest)) : W p l e R s m args below meth c H locs cells slots Q (F0 m pc ls (.int k :: .int dp :: .ref a :: .int sp :: .ref a0 :: rest)) := by
  obtain ⟨w1, w2, w3, w4, hfr, hlo⟩ := hk7
  have nn : ∀ z : Int32, ¬ z < 0 → z.toInt = (z.toNatClampNeg : Int) := by
    intro z hz
    have hz0 : (0 : Int) ≤ z.toInt := by
      have := Int32.not_lt.mp hz
      simpa using Int32.le_iff_toInt_le.mp this
    show z.toInt = ((z.toInt.toNat : Nat) : Int)
    omega
  intro T hT X
  obtain ⟨-, k0, hk0, cm0, hkk0⟩ := hA n0 (fun j => mk (f j))
  obtain ⟨vm', X', step⟩ := X.arraycopy hx hown (hts _ w1) (hts _ w2) (hts _ w3) (hts _ w4) (src := a0) (dst := a) (cs := arrV c0 n0 (fun j => mk (f j))) (cd := arrV c0 n1 (fun j => mk (g j))) (srcPos := sp) (destPos := dp) (n := k) (by rw [hT]; exact hc0) (by rw [hT]; exact hc1)
    (fun _ h => by cases h) (fun _ h => by cases h) (fun h => by cases h) (fun h => by cases h) hk0 hk0 hkk0 hkk0 (by simp [hprim]) h1 h2 h3
    (by rw [nn sp h1, nn k h3, arrV_size]; omega)
    (by rw [nn dp h2, nn k h3, arrV_size]; omega)
    (fun vm₁ _ i hi => by
      have e : (arrV c0 n0 (fun j => mk (f j))).slots.getD (sp.toNatClampNeg + i) .null = mk (f (sp.toNatClampNeg + i)) := by
        rw [Array.getD_eq_getD_getElem?, arrV_read _ _ (by omega)]
        rfl
      refine ⟨?_, ?_⟩
      · rw [e]
        exact hty _
      · rw [e]
        cases hv : mk (f (sp.toNatClampNeg + i)) with
        | ref b => exact absurd hv (fun q => hmk vm₁ _ _ q)
        | _ => exact trivial)
    (g := F0 m pc ls (.int k :: .int dp :: .ref a :: .int sp :: .ref a0 :: rest)) rfl (by rw [hml]) (rest := rest) rfl (by rw [hb]; exact hd) hfr (by show 2 * 0 + _ + _ ≤ _; omega)
  have e1 : copied (arrV c0 n0 (fun j => mk (f j))) (arrV c0 n1 (fun j => mk (g j))) sp dp k = arrV c0 n1 (fun j => mk (va_cpy f g sp.toNatClampNeg dp.toNatClampNeg k.toNatClampNeg j)) := va_copied mk c0 c0 f g h4
  rw [e1] at X' step
  have hl : a < H.size := (Array.getElem?_eq_some_iff.mp hc1).1
  have hheap : ((T.setVm vm').setCell a (arrV c0 n1 (fun j => mk (va_cpy f g sp.toNatClampNeg dp.toNatClampNeg k.toNatClampNeg j)))).heap = H.setIfInBounds a (arrV c0 n1 (fun j => mk (va_cpy f g sp.toNatClampNeg dp.toNatClampNeg k.toNatClampNeg j))) := by rw [← hT]; rfl
  obtain ⟨t, a1, b1⟩ := kk _ _ (by simp) (fun q hq => by simp [Array.getElem?_setIfInBounds, Ne.symm hq]) (by simp [Array.getElem?_setIfInBounds, hl]) (fun q hq => by
      obtain ⟨z, -, hz⟩ := List.mem_map.mp hq
      rw [← hz]) _ hheap X'
  exact ⟨t, step t a1, b1⟩
set_option maxHeartbeats 2000000 in
theorem pm_i6_ok (hx : p.tables.exec = Jvm.exec) (hb : c.code = cc) (hml : c.maxLocals = nL) (hd : decode cc pc = .ok (i, n)) (hn : pm_ln i n = true) (hown : s.vm.findClass own = some m.cls) (hts : ∀ w ∈ Ts, w.before args s = true) (hK : va_K D cl [(cA 0, .int), (cA 1, .long), (cA 2, .object SC)] s)
    (hmk : ∀ ix ci fs, pm_mak P mi ix = some (ci, fs) → pm_nok z so cl Ts own ix ci fs) (hai : Cond.arrayClass .int ∈ Ts) (hal : Cond.arrayClass .long ∈ Ts) (har : ∀ ix ci, pm_arr P mi ix = some ci → mi ≠ 0 → Cond.classLink own ix SC ∈ Ts ∧ va_AO SC s)
    (hk6 : ∀ ix q, pm_cal P mi ix = some (6, q) → pm_k6 Ts own R ix) (hk7 : ∀ ix q, pm_cal P mi ix = some (7, q) → pm_k7 Ts own R ix) (hmi : mi ≠ 0)
    (h : pm_i6 P mi pc lv st σ i = some (pc', lv', st', σ')) (hl : lv_has ls nL (pm_rl z so lv)) (hrel : pm_rel z so cA D cl H0 σ H) (hlocs : ∀ q ∈ locs, z ≤ q.base) (hrc : cells + (σ'.2.1 - σ.2.1) ≤ R.cells) (hrs : slots + (σ'.2.2 - σ.2.2) ≤ R.slots)
    (kk : ∀ (H1 : Heap) (locs1 : List Loc), lv_has ls nL (pm_rl z so lv') → pm_rel z so cA D cl H0 σ' H1 → (∀ q ∈ locs1, z ≤ q.base) → W p l e R s m args below meth c H1 locs1 (cells + (σ'.2.1 - σ.2.1)) (slots + (σ'.2.2 - σ.2.2)) Q (F0 m pc' ls (pm_rs z so st'))) : W p l e R s m args below meth c H locs cells slots Q (F0 m pc ls (pm_rs z so st)) := by
  have hsz := hrel.1
  cases i <;> try (exact absurd (show (none : Option pm_N) = some _ from h) (by simp))
  case new ix =>
    have hn : n = 3 := by simpa [pm_ln] using hn
    subst hn
    dsimp only [pm_i6] at h
    split at h
    · next ci fs hm =>
      cases h
      obtain ⟨C, T, N, ty0, hc, hin, hty, w1, w2, w3, hlen, hfs⟩ := hmk _ _ _ hm
      simp only [pm_add, Nat.add_sub_cancel_left] at hrc hrs kk
      have hKn := hK.1 ci _ hc
      subst hlen
      refine W.newcK hx hb hown (hts _ w1) (hts _ w2) (hts _ w3) rfl hd hrc hrs hKn.2.1 rfl fun H1 kC hkC e1 z1 o1 => ?_
      have hat : va_at D cl (z + σ.2.1, pm_em z so cA (.inr (ci, fs))) H1 := by
        rw [← hsz]
        exact ⟨_, hc, (u_born ty0 hts hin hKn hkC e1 hty).to hfs⟩
      have := kk H1 locs hl (hrel.add z1 o1 hat) hlocs
      rw [hsz]
      exact this
    · cases h
  case newarray ty =>
    have hn : n = 2 := by simpa [pm_ln] using hn
    subst hn
    cases ty <;> try (exact absurd (show (none : Option pm_N) = some _ from h) (by simp))
    case int =>
      dsimp only [pm_i6] at h
      split at h
      · next k r =>
        split at h
        · cases h
        · next hk =>
          cases h
          simp only [pm_add, Nat.add_sub_cancel_left] at hrc hrs kk
          refine va_newaK hx hb (atype := .int) (hts _ hai) rfl hd rfl (fun q => hk (Or.inl q)) rfl (by show _ * 4 ≤ _; exact Nat.not_lt.mp fun q => hk (Or.inr q)) hrc hrs rfl fun H1 cB e1 z1 o1 hAr hNm => ?_
          have hNm0 : s.vm.findClass ("[" ++ (FieldType.int).toString) = some (cA 0) := (hK.2 0 _ rfl).2
          have hcB : cA 0 = cB := Option.some.inj (hNm0.symm.trans hNm)
          subst hcB
          have hat : va_at D cl (z + σ.2.1, pm_em z so cA (.inl (0, k.toNatClampNeg, .inl (fun _ => 0)))) H1 := by
            rw [← hsz]
            exact e1
          have := kk H1 locs hl (hrel.add z1 o1 hat) hlocs
          rw [hsz]
          exact this
      · cases h
    case long =>
      dsimp only [pm_i6] at h
      split at h
      · next k r =>
        split at h
        · cases h
        · next hk =>
          cases h
          simp only [pm_add, Nat.add_sub_cancel_left] at hrc hrs kk
          refine va_newaK hx hb (atype := .long) (hts _ hal) rfl hd rfl (fun q => hk (Or.inl q)) rfl (by show _ * 8 ≤ _; exact Nat.not_lt.mp fun q => hk (Or.inr q)) hrc hrs rfl fun H1 cB e1 z1 o1 hAr hNm => ?_
          have hNm0 : s.vm.findClass ("[" ++ (FieldType.long).toString) = some (cA 1) := (hK.2 1 _ rfl).2
          have hcB : cA 1 = cB := Option.some.inj (hNm0.symm.trans hNm)
          subst hcB
          have hat : va_at D cl (z + σ.2.1, pm_em z so cA (.inl (1, k.toNatClampNeg, .inr (.inl (fun _ => 0))))) H1 := by
            rw [← hsz]
            exact e1
          have := kk H1 locs hl (hrel.add z1 o1 hat) hlocs
          rw [hsz]
          exact this
      · cases h
  case anewarray ix =>
    have hn : n = 3 := by simpa [pm_ln] using hn
    subst hn
    dsimp only [pm_i6] at h
    split at h
    · next k r ci hca =>
      split at h
      · cases h
      · next hk =>
        cases h
        simp only [pm_add, Nat.add_sub_cancel_left] at hrc hrs kk
        obtain ⟨w1, w2⟩ := har _ _ hca hmi
        refine W.anew hx hb hown (hts _ w1) (va_AO.use w2) rfl hd rfl (fun q => hk (Or.inl q)) (Nat.not_lt.mp fun q => hk (Or.inr q)) hrc hrs fun cB kA comp f1 f2 f3 f4 => ?_
        obtain ⟨kA', comp', -, -, -, k4⟩ := (hK.2 2 _ rfl).2
        have hcB : cA 2 = cB := Option.some.inj (k4.symm.trans f1)
        subst hcB
        have hat : va_at D cl (z + σ.2.1, pm_em z so cA (.inl (2, k.toNatClampNeg, .inr (.inr (.inr (.inr (fun _ => none))))))) (H.push { cls := cA 2, slots := Array.replicate k.toNatClampNeg .null, vm := .none }) := by
          rw [← hsz]
          have e1 : (H.push { cls := cA 2, slots := Array.replicate k.toNatClampNeg .null, vm := .none })[H.size]? = some (arrV (cA 2) k.toNatClampNeg (fun _ => .null)) := by rw [Array.getElem?_push_size, ← arrV_new]
          exact e1
        have := kk _ locs hl (hrel.add (by rw [Array.size_push]) (fun q hq => by rw [Array.getElem?_push, if_neg (Nat.ne_of_lt hq)]) hat) hlocs
        rw [hsz]
        exact this
    · cases h
  case invokespecial ix =>
    have hn : n = 3 := by simpa [pm_ln] using hn
    subst hn
    dsimp only [pm_i6] at h
    split at h
    · next q a r hca =>
      split at h
      · next hr =>
        cases h
        simp only [Nat.sub_self, Nat.add_zero] at hrc hrs kk
        obtain ⟨w1, w2, w3, hfr, hlo⟩ := hk6 _ _ hca
        refine W.objInit hx hb hown (hts _ w1) (hts _ w2) (hts _ w3) rfl (hl.1.trans hml.symm) rfl hd hfr ?_ (kk H locs hl hrel hlocs)
        show 2 * 0 + ((pm_rs z so st').map fun v => v.category).sum + 12 ≤ R.locals
        rw [pm_sum]
        omega
      · cases h
    · cases h
  case invokestatic ix =>
    have hn : n = 3 := by simpa [pm_ln] using hn
    subst hn
    dsimp only [pm_i6] at h
    split at h
    · next q k dp b sp a r hca =>
      split at h
      · next hg =>
        obtain ⟨ha, hbb, h1, h2, h3, hr⟩ := hg
        have hlocs2 : ∀ L : List Loc, (∀ q ∈ L, q.base = z + b) → ∀ q ∈ locs ++ L, z ≤ q.base := by
          intro L hL q hq
          rcases List.mem_append.mp hq with h | h
          · exact hlocs q h
          · rw [hL q h]; exact Nat.le_add_right _ _
        split at h
        · next n0 f n1 g hea heb =>
          split at h
          · next h45 =>
            cases h
            simp only [pm_set, Nat.sub_self, Nat.add_zero] at hrc hrs kk
            have hat := hrel.2.1 a ha
            rw [hea] at hat
            have hbt := hrel.2.1 b hbb
            rw [heb] at hbt
            refine pm_copy hx hb (hml.trans hl.1.symm) hown hts (hk7 _ _ hca) (fun x => Value.int x) (ty := .int) rfl (fun _ => rfl) ((hK.2 0 _ rfl).1) hat hbt (fun _ _ _ q => by cases q) h1 h2 h3 h45.1 h45.2 (Nat.le_trans (Nat.le_of_eq (pm_sum z so _)) hr) hd fun H1 L e2 e3 e1 e4 => ?_
            exact kk H1 _ hl (hrel.put e2 e3 e1) (hlocs2 L e4)
          · cases h
        · next n0 f n1 g hea heb =>
          split at h
          · next h45 =>
            cases h
            simp only [pm_set, Nat.sub_self, Nat.add_zero] at hrc hrs kk
            have hat := hrel.2.1 a ha
            rw [hea] at hat
            have hbt := hrel.2.1 b hbb
            rw [heb] at hbt
            refine pm_copy hx hb (hml.trans hl.1.symm) hown hts (hk7 _ _ hca) (fun x => Value.long x) (ty := .long) rfl (fun _ => rfl) ((hK.2 1 _ rfl).1) hat hbt (fun _ _ _ q => by cases q) h1 h2 h3 h45.1 h45.2 (Nat.le_trans (Nat.le_of_eq (pm_sum z so _)) hr) hd fun H1 L e2 e3 e1 e4 => ?_
            exact kk H1 _ hl (hrel.put e2 e3 e1) (hlocs2 L e4)
          · cases h
        · cases h
      · cases h
    · cases h
end PM3
