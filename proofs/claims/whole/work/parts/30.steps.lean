/-! steps of the pure machine, one rule a kind of instruction -/
section PS
variable {P : pm_P} {mi pc n pc' : Nat} {i : Instr} {lv lv' : pm_L} {st st' : List Value} {σ σ' : pm_S} {res : pm_O × pm_S}
theorem pm_Ev.in (hc : pm_cod P mi pc = some (i, n)) (hl : pm_ln i n = true) (h : pm_in P mi pc lv st σ i = some (pc', lv', st', σ')) (k : pm_Ev P (mi, pc', lv', st') σ' res) : pm_Ev P (mi, pc, lv, st) σ res := by
  refine pm_Ev.st ?_ k
  unfold pm_step
  simp only [hc, hl, h, if_true]
theorem pm_Ev.ret (hc : pm_cod P mi pc = some (i, n)) (hl : pm_ln i n = true) (h0 : pm_in P mi pc lv st σ i = none) (h : pm_dn P mi pc st σ i = some res) : pm_Ev P (mi, pc, lv, st) σ res := by
  refine pm_Ev.dn ?_
  unfold pm_step
  simp only [hc, hl, h0, h, if_true]
theorem pm_Ev.br {c : Prop} [hd : Decidable c] {off : Int} {r : List Value} {tgt : Nat} (hc : pm_cod P mi pc = some (i, n)) (hl : pm_ln i n = true) (h1 : pm_i1 P mi pc lv st i = none) (h2 : pm_i2 P mi pc lv st i = none) (h3 : pm_i3 pc lv st i = none) (hb : pm_i4 pc lv st i = pm_br c pc off lv r) (ht : (pc : Int) + off = (tgt : Int))
    (kt : c → pm_Ev P (mi, tgt, lv, r) σ res) (kf : ¬ c → pm_Ev P (mi, pc + 3, lv, r) σ res) : pm_Ev P (mi, pc, lv, st) σ res := by
  have h0 : ¬ ((pc : Int) + off < 0) := by omega
  have e : ((pc : Int) + off).toNat = tgt := by omega
  by_cases q : c
  · refine pm_Ev.in hc hl ?_ (kt q)
    unfold pm_in pm_br at *
    rw [h1, h2, h3, hb]
    simp only [if_neg h0, if_pos q, e, pm_wp]
  · refine pm_Ev.in hc hl ?_ (kf q)
    unfold pm_in pm_br at *
    rw [h1, h2, h3, hb]
    simp only [if_neg h0, if_neg q, pm_wp]
theorem pm_Ev.gf {ix a kd ci k : Nat} {ty : FieldType} {fs : List Value} {v : Value} (hc : pm_cod P mi pc = some (.getfield ix, 3)) (hf : pm_fld P mi ix = some (kd, ci, k, ty)) (ha : a < σ.2.1) (ho : σ.1 a = .inr (ci, fs)) (hv : fs[k]? = some v) (kk : pm_Ev P (mi, pc + 3, lv, v :: st) σ res) : pm_Ev P (mi, pc, lv, .ref a :: st) σ res := by
  refine pm_Ev.in hc rfl ?_ kk
  show (match pm_i5 P mi pc lv (.ref a :: st) σ (.getfield ix) with
    | some r => some r
    | none => pm_i6 P mi pc lv (.ref a :: st) σ (.getfield ix)) = _
  simp only [pm_i5, if_pos ha, hf, ho, hv, if_true]
theorem pm_Ev.pf {ix a kd ci k : Nat} {ty : FieldType} {fs : List Value} {v : Value} (hc : pm_cod P mi pc = some (.putfield ix, 3)) (hf : pm_fld P mi ix = some (kd, ci, k, ty)) (ha : a < σ.2.1) (ho : σ.1 a = .inr (ci, fs)) (hk : k < fs.length) (hok : pm_ok ty v = true) (hkd : kd ≠ 0) (kk : pm_Ev P (mi, pc + 3, lv, st) (pm_set σ a (.inr (ci, fs.set k v))) res) : pm_Ev P (mi, pc, lv, v :: .ref a :: st) σ res := by
  refine pm_Ev.in hc rfl ?_ kk
  show (match pm_i5 P mi pc lv (v :: .ref a :: st) σ (.putfield ix) with
    | some r => some r
    | none => pm_i6 P mi pc lv (v :: .ref a :: st) σ (.putfield ix)) = _
  have hcnd : True ∧ k < fs.length ∧ pm_ok ty v = true ∧ kd ≠ 0 := ⟨trivial, hk, hok, hkd⟩
  simp only [pm_i5, if_pos ha, hf, ho, if_pos hcnd]
theorem pm_Ev.ia {a m : Nat} {f : Nat → Int32} {j : Int32} (hc : pm_cod P mi pc = some (.iaload, 1)) (ha : a < σ.2.1) (ho : σ.1 a = .inl (0, m, .inl f)) (hj : ¬ (j < 0 ∨ m ≤ j.toNatClampNeg)) (kk : pm_Ev P (mi, pc + 1, lv, .int (f j.toNatClampNeg) :: st) σ res) : pm_Ev P (mi, pc, lv, .int j :: .ref a :: st) σ res := by
  refine pm_Ev.in hc rfl ?_ kk
  show (match pm_i5 P mi pc lv (.int j :: .ref a :: st) σ .iaload with
    | some r => some r
    | none => pm_i6 P mi pc lv (.int j :: .ref a :: st) σ .iaload) = _
  simp only [pm_i5, if_pos ha, ho, if_neg hj]
theorem pm_Ev.io {a : UInt32} {j : Int32} (hc : pm_cod P mi pc = some (.iaload, 1)) (hj : ¬ (¬ a < 3 ∨ j < 0 ∨ (pm_old P a).1 ≤ j.toNatClampNeg)) (kk : pm_Ev P (mi, pc + 1, lv, .int ((pm_old P a).2 j.toNatClampNeg) :: st) σ res) : pm_Ev P (mi, pc, lv, .int j :: .float a :: st) σ res := by
  refine pm_Ev.in hc rfl ?_ kk
  show (match pm_i5 P mi pc lv (.int j :: .float a :: st) σ .iaload with
    | some r => some r
    | none => pm_i6 P mi pc lv (.int j :: .float a :: st) σ .iaload) = _
  simp only [pm_i5, if_neg hj]
theorem pm_Ev.is {a m : Nat} {f : Nat → Int32} {j v : Int32} (hc : pm_cod P mi pc = some (.iastore, 1)) (ha : a < σ.2.1) (ho : σ.1 a = .inl (0, m, .inl f)) (hj : ¬ (j < 0 ∨ m ≤ j.toNatClampNeg)) (kk : pm_Ev P (mi, pc + 1, lv, st) (pm_set σ a (.inl (0, m, .inl (upd f j.toNatClampNeg v)))) res) : pm_Ev P (mi, pc, lv, .int v :: .int j :: .ref a :: st) σ res := by
  refine pm_Ev.in hc rfl ?_ kk
  show (match pm_i5 P mi pc lv (.int v :: .int j :: .ref a :: st) σ .iastore with
    | some r => some r
    | none => pm_i6 P mi pc lv (.int v :: .int j :: .ref a :: st) σ .iastore) = _
  simp only [pm_i5, if_pos ha, ho, if_neg hj]
theorem pm_Ev.la {a m : Nat} {f : Nat → Int64} {j : Int32} (hc : pm_cod P mi pc = some (.laload, 1)) (ha : a < σ.2.1) (ho : σ.1 a = .inl (1, m, .inr (.inl f))) (hj : ¬ (j < 0 ∨ m ≤ j.toNatClampNeg)) (kk : pm_Ev P (mi, pc + 1, lv, .long (f j.toNatClampNeg) :: st) σ res) : pm_Ev P (mi, pc, lv, .int j :: .ref a :: st) σ res := by
  refine pm_Ev.in hc rfl ?_ kk
  show (match pm_i5 P mi pc lv (.int j :: .ref a :: st) σ .laload with
    | some r => some r
    | none => pm_i6 P mi pc lv (.int j :: .ref a :: st) σ .laload) = _
  simp only [pm_i5, if_pos ha, ho, if_neg hj]
theorem pm_Ev.ls {a m : Nat} {f : Nat → Int64} {j : Int32} {v : Int64} (hc : pm_cod P mi pc = some (.lastore, 1)) (ha : a < σ.2.1) (ho : σ.1 a = .inl (1, m, .inr (.inl f))) (hj : ¬ (j < 0 ∨ m ≤ j.toNatClampNeg)) (kk : pm_Ev P (mi, pc + 1, lv, st) (pm_set σ a (.inl (1, m, .inr (.inl (vp_updL f j.toNatClampNeg v))))) res) : pm_Ev P (mi, pc, lv, .long v :: .int j :: .ref a :: st) σ res := by
  refine pm_Ev.in hc rfl ?_ kk
  show (match pm_i5 P mi pc lv (.long v :: .int j :: .ref a :: st) σ .lastore with
    | some r => some r
    | none => pm_i6 P mi pc lv (.long v :: .int j :: .ref a :: st) σ .lastore) = _
  simp only [pm_i5, if_pos ha, ho, if_neg hj]
theorem pm_Ev.aa {a m : Nat} {f : Nat → Option Nat} {j : Int32} {x : Nat} (hc : pm_cod P mi pc = some (.aaload, 1)) (ha : a < σ.2.1) (ho : σ.1 a = .inl (2, m, .inr (.inr (.inr (.inr f))))) (hj : ¬ (j < 0 ∨ m ≤ j.toNatClampNeg)) (hx : f j.toNatClampNeg = some x) (kk : pm_Ev P (mi, pc + 1, lv, .ref x :: st) σ res) : pm_Ev P (mi, pc, lv, .int j :: .ref a :: st) σ res := by
  refine pm_Ev.in hc rfl ?_ kk
  show (match pm_i5 P mi pc lv (.int j :: .ref a :: st) σ .aaload with
    | some r => some r
    | none => pm_i6 P mi pc lv (.int j :: .ref a :: st) σ .aaload) = _
  simp only [pm_i5, if_pos ha, ho, if_neg hj, hx, pm_vr]
theorem pm_Ev.al {a m : Nat} {f : Nat → Int32} (hc : pm_cod P mi pc = some (.arraylength, 1)) (ha : a < σ.2.1) (ho : σ.1 a = .inl (0, m, .inl f)) (kk : pm_Ev P (mi, pc + 1, lv, .int (Int32.ofNat m) :: st) σ res) : pm_Ev P (mi, pc, lv, .ref a :: st) σ res := by
  refine pm_Ev.in hc rfl ?_ kk
  show (match pm_i5 P mi pc lv (.ref a :: st) σ .arraylength with
    | some r => some r
    | none => pm_i6 P mi pc lv (.ref a :: st) σ .arraylength) = _
  simp only [pm_i5, if_pos ha, ho]
theorem pm_Ev.all {a m : Nat} {f : Nat → Int64} (hc : pm_cod P mi pc = some (.arraylength, 1)) (ha : a < σ.2.1) (ho : σ.1 a = .inl (1, m, .inr (.inl f))) (kk : pm_Ev P (mi, pc + 1, lv, .int (Int32.ofNat m) :: st) σ res) : pm_Ev P (mi, pc, lv, .ref a :: st) σ res := by
  refine pm_Ev.in hc rfl ?_ kk
  show (match pm_i5 P mi pc lv (.ref a :: st) σ .arraylength with
    | some r => some r
    | none => pm_i6 P mi pc lv (.ref a :: st) σ .arraylength) = _
  simp only [pm_i5, if_pos ha, ho]
/-- a call that returns, or throws through -/
theorem pm_Ev.call {y : Nat} {as r : List Value} {v : Option Value} {σ1 : pm_S} (hc : pm_cod P mi pc = some (i, n)) (hl : pm_ln i n = true) (h0 : pm_in P mi pc lv st σ i = none) (h1 : pm_dn P mi pc st σ i = none) (h2 : pm_ca P mi st σ i = some (y, as, r)) (k1 : pm_Ev P (pm_enter y as) σ (.inl v, σ1)) (k2 : pm_Ev P (mi, pc + 3, lv, v.toList ++ r) σ1 res) : pm_Ev P (mi, pc, lv, st) σ res := by
  refine pm_Ev.ca (y := y) (as := as) (mi := mi) (pc := pc) (lv := lv) (st := r) (v := v) ?_ k1 k2
  unfold pm_step
  simp only [hc, hl, h0, h1, h2, if_true]
theorem pm_Ev.callT {y x : Nat} {as r : List Value} {σ1 : pm_S} (hc : pm_cod P mi pc = some (i, n)) (hl : pm_ln i n = true) (h0 : pm_in P mi pc lv st σ i = none) (h1 : pm_dn P mi pc st σ i = none) (h2 : pm_ca P mi st σ i = some (y, as, r)) (k1 : pm_Ev P (pm_enter y as) σ (.inr x, σ1)) (hh : pm_hdl P mi = []) : pm_Ev P (mi, pc, lv, st) σ (.inr x, σ1) := by
  refine pm_Ev.ct (y := y) (as := as) (g := (mi, pc, lv, r)) ?_ k1 ?_
  · unfold pm_step
    simp only [hc, hl, h0, h1, h2, if_true]
  · unfold pm_catch
    simp only [hh]
theorem pm_Ev.callC {y x hp ci : Nat} {as r fs : List Value} {σ1 : pm_S} (hc : pm_cod P mi pc = some (i, n)) (hl : pm_ln i n = true) (h0 : pm_in P mi pc lv st σ i = none) (h1 : pm_dn P mi pc st σ i = none) (h2 : pm_ca P mi st σ i = some (y, as, r)) (k1 : pm_Ev P (pm_enter y as) σ (.inr x, σ1)) (hx : x < σ1.2.1) (ho : σ1.1 x = .inr (ci, fs)) (hi : pm_isa P ci 0 = true) (hf : pm_find P pc ci (pm_hdl P mi) = some hp) (k2 : pm_Ev P (mi, hp, lv, [.ref x]) σ1 res) : pm_Ev P (mi, pc, lv, st) σ res := by
  refine pm_Ev.cc (y := y) (as := as) (g := (mi, pc, lv, r)) (g' := (mi, hp, lv, [.ref x])) ?_ k1 ?_ k2
  · unfold pm_step
    simp only [hc, hl, h0, h1, h2, if_true]
  · unfold pm_catch
    cases hh : pm_hdl P mi with
    | nil => rw [hh] at hf; cases hf
    | cons a t =>
      rw [hh] at hf
      simp only [hh, if_pos hx, ho, if_pos hi, hf]
end PS
