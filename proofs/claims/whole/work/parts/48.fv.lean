/-! runs that end in a state of which something is known -/
def pm_Fv (P : pm_P) (f : pm_F) (σ : pm_S) (Q : pm_O → pm_S → Prop) : Prop := ∃ o s, pm_Ev P f σ (o, s) ∧ Q o s
theorem pm_Fv.of {P : pm_P} {f : pm_F} {σ : pm_S} {o : pm_O} {s : pm_S} {Q : pm_O → pm_S → Prop} (k : pm_Ev P f σ (o, s)) (q : Q o s) : pm_Fv P f σ Q := ⟨o, s, k, q⟩
theorem pm_Fv.mono {P : pm_P} {f : pm_F} {σ : pm_S} {Q R : pm_O → pm_S → Prop} (k : pm_Fv P f σ Q) (h : ∀ o s, Q o s → R o s) : pm_Fv P f σ R := by
  obtain ⟨o, s, e, q⟩ := k
  exact ⟨o, s, e, h o s q⟩
theorem pm_Fv.go {P : pm_P} (k : Nat) {f f' : pm_F} {σ σ' : pm_S} {Q : pm_O → pm_S → Prop} (h : pm_go P k f σ = some (f', σ')) (kk : pm_Fv P f' σ' Q) : pm_Fv P f σ Q := by
  obtain ⟨o, s, e, q⟩ := kk
  exact ⟨o, s, pm_Ev.go k h e, q⟩
theorem pm_Fv.weak {P : pm_P} {mi pc : Nat} {lv lv' : pm_L} {st : List Value} {σ : pm_S} {Q : pm_O → pm_S → Prop} (k : pm_Fv P (mi, pc, lv, st) σ Q) (h : lv.map (fun q => pm_lk lv' q.1) = lv.map (fun q => some q.2)) : pm_Fv P (mi, pc, lv', st) σ Q := by
  obtain ⟨o, s, e, q⟩ := k
  exact ⟨o, s, pm_Ev.weak e h, q⟩
section FV
variable {P : pm_P} {mi pc n pc' : Nat} {i : Instr} {lv lv' : pm_L} {st st' : List Value} {σ σ' : pm_S} {Q : pm_O → pm_S → Prop}
variable {ad : Nat → Nat} {z : Nat → Int} {ar : Nat → Nat × (Nat → Int32)} {lr : Nat → Nat × (Nat → Int64)}
theorem pm_Fv.in (hc : pm_cod P mi pc = some (i, n)) (hl : pm_ln i n = true) (h : pm_in P mi pc lv st σ i = some (pc', lv', st', σ')) (k : pm_Fv P (mi, pc', lv', st') σ' Q) : pm_Fv P (mi, pc, lv, st) σ Q := by
  obtain ⟨o, s, e, q⟩ := k
  exact ⟨o, s, pm_Ev.in hc hl h e, q⟩
theorem pm_Fv.gf {ix a kd ci k : Nat} {ty : FieldType} {fs : List Value} {v : Value} (hc : pm_cod P mi pc = some (.getfield ix, 3)) (hf : pm_fld P mi ix = some (kd, ci, k, ty)) (ha : a < σ.2.1) (ho : σ.1 a = .inr (ci, fs)) (hv : fs[k]? = some v) (kk : pm_Fv P (mi, pc + 3, lv, v :: st) σ Q) : pm_Fv P (mi, pc, lv, .ref a :: st) σ Q := by
  obtain ⟨o, s, e, q⟩ := kk
  exact ⟨o, s, pm_Ev.gf hc hf ha ho hv e, q⟩
theorem pm_Fv.pf {ix a kd ci k : Nat} {ty : FieldType} {fs : List Value} {v : Value} (hc : pm_cod P mi pc = some (.putfield ix, 3)) (hf : pm_fld P mi ix = some (kd, ci, k, ty)) (ha : a < σ.2.1) (ho : σ.1 a = .inr (ci, fs)) (hk : k < fs.length) (hok : pm_ok ty v = true) (hkd : kd ≠ 0) (kk : pm_Fv P (mi, pc + 3, lv, st) (pm_set σ a (.inr (ci, fs.set k v))) Q) : pm_Fv P (mi, pc, lv, v :: .ref a :: st) σ Q := by
  obtain ⟨o, s, e, q⟩ := kk
  exact ⟨o, s, pm_Ev.pf hc hf ha ho hk hok hkd e, q⟩
theorem pm_Fv.ia {a m : Nat} {f : Nat → Int32} {j : Int32} (hc : pm_cod P mi pc = some (.iaload, 1)) (ha : a < σ.2.1) (ho : σ.1 a = .inl (0, m, .inl f)) (hj : ¬ (j < 0 ∨ m ≤ j.toNatClampNeg)) (kk : pm_Fv P (mi, pc + 1, lv, .int (f j.toNatClampNeg) :: st) σ Q) : pm_Fv P (mi, pc, lv, .int j :: .ref a :: st) σ Q := by
  obtain ⟨o, s, e, q⟩ := kk
  exact ⟨o, s, pm_Ev.ia hc ha ho hj e, q⟩
theorem pm_Fv.io {a : UInt32} {j : Int32} (hc : pm_cod P mi pc = some (.iaload, 1)) (hj : ¬ (¬ a < 3 ∨ j < 0 ∨ (pm_old P a).1 ≤ j.toNatClampNeg)) (kk : pm_Fv P (mi, pc + 1, lv, .int ((pm_old P a).2 j.toNatClampNeg) :: st) σ Q) : pm_Fv P (mi, pc, lv, .int j :: .float a :: st) σ Q := by
  obtain ⟨o, s, e, q⟩ := kk
  exact ⟨o, s, pm_Ev.io hc hj e, q⟩
theorem pm_Fv.is {a m : Nat} {f : Nat → Int32} {j v : Int32} (hc : pm_cod P mi pc = some (.iastore, 1)) (ha : a < σ.2.1) (ho : σ.1 a = .inl (0, m, .inl f)) (hj : ¬ (j < 0 ∨ m ≤ j.toNatClampNeg)) (kk : pm_Fv P (mi, pc + 1, lv, st) (pm_set σ a (.inl (0, m, .inl (upd f j.toNatClampNeg v)))) Q) : pm_Fv P (mi, pc, lv, .int v :: .int j :: .ref a :: st) σ Q := by
  obtain ⟨o, s, e, q⟩ := kk
  exact ⟨o, s, pm_Ev.is hc ha ho hj e, q⟩
theorem pm_Fv.la {a m : Nat} {f : Nat → Int64} {j : Int32} (hc : pm_cod P mi pc = some (.laload, 1)) (ha : a < σ.2.1) (ho : σ.1 a = .inl (1, m, .inr (.inl f))) (hj : ¬ (j < 0 ∨ m ≤ j.toNatClampNeg)) (kk : pm_Fv P (mi, pc + 1, lv, .long (f j.toNatClampNeg) :: st) σ Q) : pm_Fv P (mi, pc, lv, .int j :: .ref a :: st) σ Q := by
  obtain ⟨o, s, e, q⟩ := kk
  exact ⟨o, s, pm_Ev.la hc ha ho hj e, q⟩
theorem pm_Fv.ls {a m : Nat} {f : Nat → Int64} {j : Int32} {v : Int64} (hc : pm_cod P mi pc = some (.lastore, 1)) (ha : a < σ.2.1) (ho : σ.1 a = .inl (1, m, .inr (.inl f))) (hj : ¬ (j < 0 ∨ m ≤ j.toNatClampNeg)) (kk : pm_Fv P (mi, pc + 1, lv, st) (pm_set σ a (.inl (1, m, .inr (.inl (vp_updL f j.toNatClampNeg v))))) Q) : pm_Fv P (mi, pc, lv, .long v :: .int j :: .ref a :: st) σ Q := by
  obtain ⟨o, s, e, q⟩ := kk
  exact ⟨o, s, pm_Ev.ls hc ha ho hj e, q⟩
theorem pm_Fv.aa {a m : Nat} {f : Nat → Option Nat} {j : Int32} {x : Nat} (hc : pm_cod P mi pc = some (.aaload, 1)) (ha : a < σ.2.1) (ho : σ.1 a = .inl (2, m, .inr (.inr (.inr (.inr f))))) (hj : ¬ (j < 0 ∨ m ≤ j.toNatClampNeg)) (hx : f j.toNatClampNeg = some x) (kk : pm_Fv P (mi, pc + 1, lv, .ref x :: st) σ Q) : pm_Fv P (mi, pc, lv, .int j :: .ref a :: st) σ Q := by
  obtain ⟨o, s, e, q⟩ := kk
  exact ⟨o, s, pm_Ev.aa hc ha ho hj hx e, q⟩
theorem pm_Fv.al {a m : Nat} {f : Nat → Int32} (hc : pm_cod P mi pc = some (.arraylength, 1)) (ha : a < σ.2.1) (ho : σ.1 a = .inl (0, m, .inl f)) (kk : pm_Fv P (mi, pc + 1, lv, .int (Int32.ofNat m) :: st) σ Q) : pm_Fv P (mi, pc, lv, .ref a :: st) σ Q := by
  obtain ⟨o, s, e, q⟩ := kk
  exact ⟨o, s, pm_Ev.al hc ha ho e, q⟩
theorem pm_Fv.all {a m : Nat} {f : Nat → Int64} (hc : pm_cod P mi pc = some (.arraylength, 1)) (ha : a < σ.2.1) (ho : σ.1 a = .inl (1, m, .inr (.inl f))) (kk : pm_Fv P (mi, pc + 1, lv, .int (Int32.ofNat m) :: st) σ Q) : pm_Fv P (mi, pc, lv, .ref a :: st) σ Q := by
  obtain ⟨o, s, e, q⟩ := kk
  exact ⟨o, s, pm_Ev.all hc ha ho e, q⟩
theorem pm_Fv.call {y : Nat} {as r : List Value} {v : Option Value} {σ1 : pm_S} (hc : pm_cod P mi pc = some (i, n)) (hl : pm_ln i n = true) (h0 : pm_in P mi pc lv st σ i = none) (h1 : pm_dn P mi pc st σ i = none) (h2 : pm_ca P mi st σ i = some (y, as, r)) (k1 : pm_Ev P (pm_enter y as) σ (.inl v, σ1)) (k2 : pm_Fv P (mi, pc + 3, lv, v.toList ++ r) σ1 Q) : pm_Fv P (mi, pc, lv, st) σ Q := by
  obtain ⟨o, s, e, q⟩ := k2
  exact ⟨o, s, pm_Ev.call hc hl h0 h1 h2 k1 e, q⟩
theorem pm_Fv.callC {y x hp ci : Nat} {as r fs : List Value} {σ1 : pm_S} (hc : pm_cod P mi pc = some (i, n)) (hl : pm_ln i n = true) (h0 : pm_in P mi pc lv st σ i = none) (h1 : pm_dn P mi pc st σ i = none) (h2 : pm_ca P mi st σ i = some (y, as, r)) (k1 : pm_Ev P (pm_enter y as) σ (.inr x, σ1)) (hx : x < σ1.2.1) (ho : σ1.1 x = .inr (ci, fs)) (hi : pm_isa P ci 0 = true) (hf : pm_find P pc ci (pm_hdl P mi) = some hp) (k2 : pm_Fv P (mi, hp, lv, [.ref x]) σ1 Q) : pm_Fv P (mi, pc, lv, st) σ Q := by
  obtain ⟨o, s, e, q⟩ := k2
  exact ⟨o, s, pm_Ev.callC hc hl h0 h1 h2 k1 hx ho hi hf e, q⟩
theorem pm_Fv.iadd {a b : Int} (hc : pm_cod P mi pc = some (.iadd, 1)) (k : pm_Fv P (mi, pc + 1, lv, .int (zI (a + b)) :: st) σ Q) : pm_Fv P (mi, pc, lv, .int (zI b) :: .int (zI a) :: st) σ Q := by
  obtain ⟨o, s, e, q⟩ := k
  exact ⟨o, s, pm_Ev.iadd hc e, q⟩
theorem pm_Fv.isub {a b : Int} (hc : pm_cod P mi pc = some (.isub, 1)) (k : pm_Fv P (mi, pc + 1, lv, .int (zI (a - b)) :: st) σ Q) : pm_Fv P (mi, pc, lv, .int (zI b) :: .int (zI a) :: st) σ Q := by
  obtain ⟨o, s, e, q⟩ := k
  exact ⟨o, s, pm_Ev.isub hc e, q⟩
theorem pm_Fv.imul {a b : Int} (hc : pm_cod P mi pc = some (.imul, 1)) (k : pm_Fv P (mi, pc + 1, lv, .int (zI (a * b)) :: st) σ Q) : pm_Fv P (mi, pc, lv, .int (zI b) :: .int (zI a) :: st) σ Q := by
  obtain ⟨o, s, e, q⟩ := k
  exact ⟨o, s, pm_Ev.imul hc e, q⟩
theorem pm_Fv.ladd {a b : Int} (hc : pm_cod P mi pc = some (.ladd, 1)) (k : pm_Fv P (mi, pc + 1, lv, .long (zL (a + b)) :: st) σ Q) : pm_Fv P (mi, pc, lv, .long (zL b) :: .long (zL a) :: st) σ Q := by
  obtain ⟨o, s, e, q⟩ := k
  exact ⟨o, s, pm_Ev.ladd hc e, q⟩
theorem pm_Fv.lsub {a b : Int} (hc : pm_cod P mi pc = some (.lsub, 1)) (k : pm_Fv P (mi, pc + 1, lv, .long (zL (a - b)) :: st) σ Q) : pm_Fv P (mi, pc, lv, .long (zL b) :: .long (zL a) :: st) σ Q := by
  obtain ⟨o, s, e, q⟩ := k
  exact ⟨o, s, pm_Ev.lsub hc e, q⟩
theorem pm_Fv.lmul {a b : Int} (hc : pm_cod P mi pc = some (.lmul, 1)) (k : pm_Fv P (mi, pc + 1, lv, .long (zL (a * b)) :: st) σ Q) : pm_Fv P (mi, pc, lv, .long (zL b) :: .long (zL a) :: st) σ Q := by
  obtain ⟨o, s, e, q⟩ := k
  exact ⟨o, s, pm_Ev.lmul hc e, q⟩
theorem pm_Fv.ineg {a : Int} (hc : pm_cod P mi pc = some (.ineg, 1)) (k : pm_Fv P (mi, pc + 1, lv, .int (zI (-a)) :: st) σ Q) : pm_Fv P (mi, pc, lv, .int (zI a) :: st) σ Q := by
  obtain ⟨o, s, e, q⟩ := k
  exact ⟨o, s, pm_Ev.ineg hc e, q⟩
theorem pm_Fv.idiv {a b : Int} (hc : pm_cod P mi pc = some (.idiv, 1)) (h : 0 ≤ a ∧ a ≤ 2147483647 ∧ 0 < b ∧ b ≤ 2147483647) (k : pm_Fv P (mi, pc + 1, lv, .int (zI (a / b)) :: st) σ Q) : pm_Fv P (mi, pc, lv, .int (zI b) :: .int (zI a) :: st) σ Q := by
  obtain ⟨o, s, e, q⟩ := k
  exact ⟨o, s, pm_Ev.idiv hc h e, q⟩
theorem pm_Fv.irem {a b : Int} (hc : pm_cod P mi pc = some (.irem, 1)) (h : 0 ≤ a ∧ a ≤ 2147483647 ∧ 0 < b ∧ b ≤ 2147483647) (k : pm_Fv P (mi, pc + 1, lv, .int (zI (a % b)) :: st) σ Q) : pm_Fv P (mi, pc, lv, .int (zI b) :: .int (zI a) :: st) σ Q := by
  obtain ⟨o, s, e, q⟩ := k
  exact ⟨o, s, pm_Ev.irem hc h e, q⟩
theorem pm_Fv.ldiv {a b : Int} (hc : pm_cod P mi pc = some (.ldiv, 1)) (h : 0 ≤ a ∧ a ≤ 9223372036854775807 ∧ 0 < b ∧ b ≤ 9223372036854775807) (k : pm_Fv P (mi, pc + 1, lv, .long (zL (a / b)) :: st) σ Q) : pm_Fv P (mi, pc, lv, .long (zL b) :: .long (zL a) :: st) σ Q := by
  obtain ⟨o, s, e, q⟩ := k
  exact ⟨o, s, pm_Ev.ldiv hc h e, q⟩
theorem pm_Fv.lrem {a b : Int} (hc : pm_cod P mi pc = some (.lrem, 1)) (h : 0 ≤ a ∧ a ≤ 9223372036854775807 ∧ 0 < b ∧ b ≤ 9223372036854775807) (k : pm_Fv P (mi, pc + 1, lv, .long (zL (a % b)) :: st) σ Q) : pm_Fv P (mi, pc, lv, .long (zL b) :: .long (zL a) :: st) σ Q := by
  obtain ⟨o, s, e, q⟩ := k
  exact ⟨o, s, pm_Ev.lrem hc h e, q⟩
theorem pm_Fv.i2l {a : Int} (hc : pm_cod P mi pc = some (.i2l, 1)) (h : -2147483648 ≤ a ∧ a ≤ 2147483647) (k : pm_Fv P (mi, pc + 1, lv, .long (zL a) :: st) σ Q) : pm_Fv P (mi, pc, lv, .int (zI a) :: st) σ Q := by
  obtain ⟨o, s, e, q⟩ := k
  exact ⟨o, s, pm_Ev.i2l hc h e, q⟩
theorem pm_Fv.l2i {a : Int} (hc : pm_cod P mi pc = some (.l2i, 1)) (k : pm_Fv P (mi, pc + 1, lv, .int (zI a) :: st) σ Q) : pm_Fv P (mi, pc, lv, .long (zL a) :: st) σ Q := by
  obtain ⟨o, s, e, q⟩ := k
  exact ⟨o, s, pm_Ev.l2i hc e, q⟩
theorem pm_Fv.bp {n : Int} (hc : pm_cod P mi pc = some (.bipush n, 2)) (h : (Int8.ofInt n).toInt32 = zI n) (k : pm_Fv P (mi, pc + 2, lv, .int (zI n) :: st) σ Q) : pm_Fv P (mi, pc, lv, st) σ Q := by
  obtain ⟨o, s, e, q⟩ := k
  exact ⟨o, s, pm_Ev.bp hc h e, q⟩
theorem pm_Fv.sp {n : Int} (hc : pm_cod P mi pc = some (.sipush n, 3)) (h : (Int16.ofInt n).toInt32 = zI n) (k : pm_Fv P (mi, pc + 3, lv, .int (zI n) :: st) σ Q) : pm_Fv P (mi, pc, lv, st) σ Q := by
  obtain ⟨o, s, e, q⟩ := k
  exact ⟨o, s, pm_Ev.sp hc h e, q⟩
theorem pm_Fv.ic {n : Int} (hc : pm_cod P mi pc = some (.iconst n, 1)) (k : pm_Fv P (mi, pc + 1, lv, .int (zI n) :: st) σ Q) : pm_Fv P (mi, pc, lv, st) σ Q := by
  obtain ⟨o, s, e, q⟩ := k
  exact ⟨o, s, pm_Ev.ic hc e, q⟩
theorem pm_Fv.lc {n : Fin 2} (z : Int) (hc : pm_cod P mi pc = some (.lconst n, 1)) (h : Int64.ofNat (n : Nat) = zL z) (k : pm_Fv P (mi, pc + 1, lv, .long (zL z) :: st) σ Q) : pm_Fv P (mi, pc, lv, st) σ Q := by
  obtain ⟨o, s, e, q⟩ := k
  exact ⟨o, s, pm_Ev.lc z hc h e, q⟩
theorem pm_Fv.cc1 {ix : Nat} (z : Int) {v : Int32} (hc : pm_cod P mi pc = some (.ldc ix, 2)) (h1 : pm_cst P mi ix = some (.int v)) (h : v = zI z) (k : pm_Fv P (mi, pc + 2, lv, .int (zI z) :: st) σ Q) : pm_Fv P (mi, pc, lv, st) σ Q := by
  obtain ⟨o, s, e, q⟩ := k
  exact ⟨o, s, pm_Ev.cc1 z hc h1 h e, q⟩
theorem pm_Fv.cc2 {ix : Nat} (z : Int) {v : Int64} (hc : pm_cod P mi pc = some (.ldc2_w ix, 3)) (h1 : pm_cst P mi ix = some (.long v)) (h : v = zL z) (k : pm_Fv P (mi, pc + 3, lv, .long (zL z) :: st) σ Q) : pm_Fv P (mi, pc, lv, st) σ Q := by
  obtain ⟨o, s, e, q⟩ := k
  exact ⟨o, s, pm_Ev.cc2 z hc h1 h e, q⟩
theorem pm_Fv.inc {i : Nat} {n a : Int} (hc : pm_cod P mi pc = some (.iinc i n, 3)) (hl : pm_lk lv i = some (.int (zI a))) (hm : i < pm_mxl P mi) (k : pm_Fv P (mi, pc + 3, pm_st1 lv i (.int (zI (a + n))), st) σ Q) : pm_Fv P (mi, pc, lv, st) σ Q := by
  obtain ⟨o, s, e, q⟩ := k
  exact ⟨o, s, pm_Ev.inc hc hl hm e, q⟩
theorem pm_Fv.lcmp {a b : Int} (hc : pm_cod P mi pc = some (.lcmp, 1)) (h : -9223372036854775808 ≤ a ∧ a ≤ 9223372036854775807 ∧ -9223372036854775808 ≤ b ∧ b ≤ 9223372036854775807) (k : pm_Fv P (mi, pc + 1, lv, .int (zI (if b < a then 1 else if a = b then 0 else -1)) :: st) σ Q) : pm_Fv P (mi, pc, lv, .long (zL b) :: .long (zL a) :: st) σ Q := by
  obtain ⟨o, s, e, q⟩ := k
  exact ⟨o, s, pm_Ev.lcmp hc h e, q⟩
theorem pm_Fv.jeq {a b off : Int} {tgt : Nat} (hc : pm_cod P mi pc = some (.if_icmp .eq off, 3)) (h : -2147483648 ≤ a ∧ a ≤ 2147483647 ∧ -2147483648 ≤ b ∧ b ≤ 2147483647) (ht : (pc : Int) + off = (tgt : Int)) (kt : a = b → pm_Fv P (mi, tgt, lv, st) σ Q) (kf : ¬ (a = b) → pm_Fv P (mi, pc + 3, lv, st) σ Q) : pm_Fv P (mi, pc, lv, .int (zI b) :: .int (zI a) :: st) σ Q := by
  by_cases hcd : a = b
  · obtain ⟨o, s, e, q⟩ := kt hcd
    exact ⟨o, s, pm_Ev.jeq hc h ht (fun _ => e) (fun h => absurd hcd h), q⟩
  · obtain ⟨o, s, e, q⟩ := kf hcd
    exact ⟨o, s, pm_Ev.jeq hc h ht (fun h => absurd h hcd) (fun _ => e), q⟩
theorem pm_Fv.zeq {a off : Int} {tgt : Nat} (hc : pm_cod P mi pc = some (.ifCond .eq off, 3)) (h : -2147483648 ≤ a ∧ a ≤ 2147483647) (ht : (pc : Int) + off = (tgt : Int)) (kt : a = 0 → pm_Fv P (mi, tgt, lv, st) σ Q) (kf : ¬ (a = 0) → pm_Fv P (mi, pc + 3, lv, st) σ Q) : pm_Fv P (mi, pc, lv, .int (zI a) :: st) σ Q := by
  by_cases hcd : a = 0
  · obtain ⟨o, s, e, q⟩ := kt hcd
    exact ⟨o, s, pm_Ev.zeq hc h ht (fun _ => e) (fun h => absurd hcd h), q⟩
  · obtain ⟨o, s, e, q⟩ := kf hcd
    exact ⟨o, s, pm_Ev.zeq hc h ht (fun h => absurd h hcd) (fun _ => e), q⟩
theorem pm_Fv.jne {a b off : Int} {tgt : Nat} (hc : pm_cod P mi pc = some (.if_icmp .ne off, 3)) (h : -2147483648 ≤ a ∧ a ≤ 2147483647 ∧ -2147483648 ≤ b ∧ b ≤ 2147483647) (ht : (pc : Int) + off = (tgt : Int)) (kt : ¬ a = b → pm_Fv P (mi, tgt, lv, st) σ Q) (kf : ¬ (¬ a = b) → pm_Fv P (mi, pc + 3, lv, st) σ Q) : pm_Fv P (mi, pc, lv, .int (zI b) :: .int (zI a) :: st) σ Q := by
  by_cases hcd : ¬ a = b
  · obtain ⟨o, s, e, q⟩ := kt hcd
    exact ⟨o, s, pm_Ev.jne hc h ht (fun _ => e) (fun h => absurd hcd h), q⟩
  · obtain ⟨o, s, e, q⟩ := kf hcd
    exact ⟨o, s, pm_Ev.jne hc h ht (fun h => absurd h hcd) (fun _ => e), q⟩
theorem pm_Fv.zne {a off : Int} {tgt : Nat} (hc : pm_cod P mi pc = some (.ifCond .ne off, 3)) (h : -2147483648 ≤ a ∧ a ≤ 2147483647) (ht : (pc : Int) + off = (tgt : Int)) (kt : ¬ a = 0 → pm_Fv P (mi, tgt, lv, st) σ Q) (kf : ¬ (¬ a = 0) → pm_Fv P (mi, pc + 3, lv, st) σ Q) : pm_Fv P (mi, pc, lv, .int (zI a) :: st) σ Q := by
  by_cases hcd : ¬ a = 0
  · obtain ⟨o, s, e, q⟩ := kt hcd
    exact ⟨o, s, pm_Ev.zne hc h ht (fun _ => e) (fun h => absurd hcd h), q⟩
  · obtain ⟨o, s, e, q⟩ := kf hcd
    exact ⟨o, s, pm_Ev.zne hc h ht (fun h => absurd h hcd) (fun _ => e), q⟩
theorem pm_Fv.jlt {a b off : Int} {tgt : Nat} (hc : pm_cod P mi pc = some (.if_icmp .lt off, 3)) (h : -2147483648 ≤ a ∧ a ≤ 2147483647 ∧ -2147483648 ≤ b ∧ b ≤ 2147483647) (ht : (pc : Int) + off = (tgt : Int)) (kt : a < b → pm_Fv P (mi, tgt, lv, st) σ Q) (kf : ¬ (a < b) → pm_Fv P (mi, pc + 3, lv, st) σ Q) : pm_Fv P (mi, pc, lv, .int (zI b) :: .int (zI a) :: st) σ Q := by
  by_cases hcd : a < b
  · obtain ⟨o, s, e, q⟩ := kt hcd
    exact ⟨o, s, pm_Ev.jlt hc h ht (fun _ => e) (fun h => absurd hcd h), q⟩
  · obtain ⟨o, s, e, q⟩ := kf hcd
    exact ⟨o, s, pm_Ev.jlt hc h ht (fun h => absurd h hcd) (fun _ => e), q⟩
theorem pm_Fv.zlt {a off : Int} {tgt : Nat} (hc : pm_cod P mi pc = some (.ifCond .lt off, 3)) (h : -2147483648 ≤ a ∧ a ≤ 2147483647) (ht : (pc : Int) + off = (tgt : Int)) (kt : a < 0 → pm_Fv P (mi, tgt, lv, st) σ Q) (kf : ¬ (a < 0) → pm_Fv P (mi, pc + 3, lv, st) σ Q) : pm_Fv P (mi, pc, lv, .int (zI a) :: st) σ Q := by
  by_cases hcd : a < 0
  · obtain ⟨o, s, e, q⟩ := kt hcd
    exact ⟨o, s, pm_Ev.zlt hc h ht (fun _ => e) (fun h => absurd hcd h), q⟩
  · obtain ⟨o, s, e, q⟩ := kf hcd
    exact ⟨o, s, pm_Ev.zlt hc h ht (fun h => absurd h hcd) (fun _ => e), q⟩
theorem pm_Fv.jge {a b off : Int} {tgt : Nat} (hc : pm_cod P mi pc = some (.if_icmp .ge off, 3)) (h : -2147483648 ≤ a ∧ a ≤ 2147483647 ∧ -2147483648 ≤ b ∧ b ≤ 2147483647) (ht : (pc : Int) + off = (tgt : Int)) (kt : b ≤ a → pm_Fv P (mi, tgt, lv, st) σ Q) (kf : ¬ (b ≤ a) → pm_Fv P (mi, pc + 3, lv, st) σ Q) : pm_Fv P (mi, pc, lv, .int (zI b) :: .int (zI a) :: st) σ Q := by
  by_cases hcd : b ≤ a
  · obtain ⟨o, s, e, q⟩ := kt hcd
    exact ⟨o, s, pm_Ev.jge hc h ht (fun _ => e) (fun h => absurd hcd h), q⟩
  · obtain ⟨o, s, e, q⟩ := kf hcd
    exact ⟨o, s, pm_Ev.jge hc h ht (fun h => absurd h hcd) (fun _ => e), q⟩
theorem pm_Fv.zge {a off : Int} {tgt : Nat} (hc : pm_cod P mi pc = some (.ifCond .ge off, 3)) (h : -2147483648 ≤ a ∧ a ≤ 2147483647) (ht : (pc : Int) + off = (tgt : Int)) (kt : 0 ≤ a → pm_Fv P (mi, tgt, lv, st) σ Q) (kf : ¬ (0 ≤ a) → pm_Fv P (mi, pc + 3, lv, st) σ Q) : pm_Fv P (mi, pc, lv, .int (zI a) :: st) σ Q := by
  by_cases hcd : 0 ≤ a
  · obtain ⟨o, s, e, q⟩ := kt hcd
    exact ⟨o, s, pm_Ev.zge hc h ht (fun _ => e) (fun h => absurd hcd h), q⟩
  · obtain ⟨o, s, e, q⟩ := kf hcd
    exact ⟨o, s, pm_Ev.zge hc h ht (fun h => absurd h hcd) (fun _ => e), q⟩
theorem pm_Fv.jgt {a b off : Int} {tgt : Nat} (hc : pm_cod P mi pc = some (.if_icmp .gt off, 3)) (h : -2147483648 ≤ a ∧ a ≤ 2147483647 ∧ -2147483648 ≤ b ∧ b ≤ 2147483647) (ht : (pc : Int) + off = (tgt : Int)) (kt : b < a → pm_Fv P (mi, tgt, lv, st) σ Q) (kf : ¬ (b < a) → pm_Fv P (mi, pc + 3, lv, st) σ Q) : pm_Fv P (mi, pc, lv, .int (zI b) :: .int (zI a) :: st) σ Q := by
  by_cases hcd : b < a
  · obtain ⟨o, s, e, q⟩ := kt hcd
    exact ⟨o, s, pm_Ev.jgt hc h ht (fun _ => e) (fun h => absurd hcd h), q⟩
  · obtain ⟨o, s, e, q⟩ := kf hcd
    exact ⟨o, s, pm_Ev.jgt hc h ht (fun h => absurd h hcd) (fun _ => e), q⟩
theorem pm_Fv.zgt {a off : Int} {tgt : Nat} (hc : pm_cod P mi pc = some (.ifCond .gt off, 3)) (h : -2147483648 ≤ a ∧ a ≤ 2147483647) (ht : (pc : Int) + off = (tgt : Int)) (kt : 0 < a → pm_Fv P (mi, tgt, lv, st) σ Q) (kf : ¬ (0 < a) → pm_Fv P (mi, pc + 3, lv, st) σ Q) : pm_Fv P (mi, pc, lv, .int (zI a) :: st) σ Q := by
  by_cases hcd : 0 < a
  · obtain ⟨o, s, e, q⟩ := kt hcd
    exact ⟨o, s, pm_Ev.zgt hc h ht (fun _ => e) (fun h => absurd hcd h), q⟩
  · obtain ⟨o, s, e, q⟩ := kf hcd
    exact ⟨o, s, pm_Ev.zgt hc h ht (fun h => absurd h hcd) (fun _ => e), q⟩
theorem pm_Fv.jle {a b off : Int} {tgt : Nat} (hc : pm_cod P mi pc = some (.if_icmp .le off, 3)) (h : -2147483648 ≤ a ∧ a ≤ 2147483647 ∧ -2147483648 ≤ b ∧ b ≤ 2147483647) (ht : (pc : Int) + off = (tgt : Int)) (kt : a ≤ b → pm_Fv P (mi, tgt, lv, st) σ Q) (kf : ¬ (a ≤ b) → pm_Fv P (mi, pc + 3, lv, st) σ Q) : pm_Fv P (mi, pc, lv, .int (zI b) :: .int (zI a) :: st) σ Q := by
  by_cases hcd : a ≤ b
  · obtain ⟨o, s, e, q⟩ := kt hcd
    exact ⟨o, s, pm_Ev.jle hc h ht (fun _ => e) (fun h => absurd hcd h), q⟩
  · obtain ⟨o, s, e, q⟩ := kf hcd
    exact ⟨o, s, pm_Ev.jle hc h ht (fun h => absurd h hcd) (fun _ => e), q⟩
theorem pm_Fv.zle {a off : Int} {tgt : Nat} (hc : pm_cod P mi pc = some (.ifCond .le off, 3)) (h : -2147483648 ≤ a ∧ a ≤ 2147483647) (ht : (pc : Int) + off = (tgt : Int)) (kt : a ≤ 0 → pm_Fv P (mi, tgt, lv, st) σ Q) (kf : ¬ (a ≤ 0) → pm_Fv P (mi, pc + 3, lv, st) σ Q) : pm_Fv P (mi, pc, lv, .int (zI a) :: st) σ Q := by
  by_cases hcd : a ≤ 0
  · obtain ⟨o, s, e, q⟩ := kt hcd
    exact ⟨o, s, pm_Ev.zle hc h ht (fun _ => e) (fun h => absurd hcd h), q⟩
  · obtain ⟨o, s, e, q⟩ := kf hcd
    exact ⟨o, s, pm_Ev.zle hc h ht (fun h => absurd h hcd) (fun _ => e), q⟩
theorem pm_Fv.cv {ix k ci y n a : Nat} {as r fs : List Value} {v : Option Value} {σ1 : pm_S} (hc : pm_cod P mi pc = some (.invokevirtual ix, 3)) (hk : pm_cal P mi ix = some (k, ci, y, n)) (hd : st.drop n = .ref a :: r) (has : .ref a :: (st.take n).reverse = as) (hkk : k = 0 ∨ k = 1) (hs : (r.map fun v => v.category).sum ≤ 8) (hz : pm_asz as ≤ pm_mxl P y) (ha : a < σ.2.1) (ho : σ.1 a = .inr (ci, fs)) (k1 : pm_Ev P (pm_enter y as) σ (.inl v, σ1)) (k2 : pm_Fv P (mi, pc + 3, lv, v.toList ++ r) σ1 Q) : pm_Fv P (mi, pc, lv, st) σ Q := by
  obtain ⟨o, s, e, q⟩ := k2
  exact ⟨o, s, pm_Ev.cv hc hk hd has hkk hs hz ha ho k1 e, q⟩
theorem pm_Fv.fia (H : Hp σ ad z ar lr) {r : Nat} {j : Int} (hc : pm_cod P mi pc = some (.iaload, 1)) (hr : r < 209) (hd : hq_dyn r = false) (hA : hq_isA r = true) (hj : 0 ≤ j ∧ j < (ar r).1 ∧ (ar r).1 ≤ 2147483647) (k : pm_Fv P (mi, pc + 1, lv, .int (zI (hq_g ar r j)) :: st) σ Q) : pm_Fv P (mi, pc, lv, .int (zI j) :: .ref r :: st) σ Q := by
  refine pm_Fv.ia hc (H.flt hr hd) (H.faat hr hd hA) (zI_ix hj.1 hj.2.1 hj.2.2) ?_
  rw [zI_nat hj.1 (by omega), ← zI_x ((ar r).2 j.toNat)]
  exact k
theorem pm_Fv.dia (H : Hp σ ad z ar lr) {r : Nat} {j : Int} (hc : pm_cod P mi pc = some (.iaload, 1)) (hr : r < 209) (hA : hq_isA r = true) (hj : 0 ≤ j ∧ j < (ar r).1 ∧ (ar r).1 ≤ 2147483647) (k : pm_Fv P (mi, pc + 1, lv, .int (zI (hq_g ar r j)) :: st) σ Q) : pm_Fv P (mi, pc, lv, .int (zI j) :: .ref (ad r) :: st) σ Q := by
  refine pm_Fv.ia hc (H.lt hr) (H.aat hr hA) (zI_ix hj.1 hj.2.1 hj.2.2) ?_
  rw [zI_nat hj.1 (by omega), ← zI_x ((ar r).2 j.toNat)]
  exact k
theorem pm_Fv.fis (H : Hp σ ad z ar lr) {r : Nat} {j v : Int} (hc : pm_cod P mi pc = some (.iastore, 1)) (hr : r < 209) (hd : hq_dyn r = false) (hA : hq_isA r = true) (hj : 0 ≤ j ∧ j < (ar r).1 ∧ (ar r).1 ≤ 2147483647) (k : ∀ σ', Hp σ' ad z (hq_w ar r j v) lr → σ'.2 = σ.2 → pm_Fv P (mi, pc + 1, lv, st) σ' Q) : pm_Fv P (mi, pc, lv, .int (zI v) :: .int (zI j) :: .ref r :: st) σ Q := by
  refine pm_Fv.is hc (H.flt hr hd) (H.faat hr hd hA) (zI_ix hj.1 hj.2.1 hj.2.2) ?_
  rw [zI_nat hj.1 (by omega)]
  exact k _ (H.faset hr hd hA ((ar r).1, upd (ar r).2 j.toNat (zI v))) rfl
theorem pm_Fv.dis (H : Hp σ ad z ar lr) {r : Nat} {j v : Int} (hc : pm_cod P mi pc = some (.iastore, 1)) (hr : r < 209) (hA : hq_isA r = true) (hj : 0 ≤ j ∧ j < (ar r).1 ∧ (ar r).1 ≤ 2147483647) (k : ∀ σ', Hp σ' ad z (hq_w ar r j v) lr → σ'.2 = σ.2 → pm_Fv P (mi, pc + 1, lv, st) σ' Q) : pm_Fv P (mi, pc, lv, .int (zI v) :: .int (zI j) :: .ref (ad r) :: st) σ Q := by
  refine pm_Fv.is hc (H.lt hr) (H.aat hr hA) (zI_ix hj.1 hj.2.1 hj.2.2) ?_
  rw [zI_nat hj.1 (by omega)]
  exact k _ (H.aset hr hA ((ar r).1, upd (ar r).2 j.toNat (zI v))) rfl
theorem pm_Fv.pz (H : Hp σ ad z ar lr) (zk : Nat) {v : Int} {ix a kd ci k : Nat} {ty : FieldType} {fs : List Value} (hc : pm_cod P mi pc = some (.putfield ix, 3)) (hf : pm_fld P mi ix = some (kd, ci, k, ty)) (hzo : hq_zo zk = a) (hr : a < 209) (hd : hq_dyn a = false) (ho : hq_lay ad z ar lr a = .inr (ci, fs)) (hk : k < fs.length) (hok : pm_ok ty (.int (zI v)) = true) (hkd : kd ≠ 0) (hx : hq_lay ad (hq_u z zk v) ar lr a = .inr (ci, fs.set k (.int (zI v)))) (kk : ∀ σ', Hp σ' ad (hq_u z zk v) ar lr → σ'.2 = σ.2 → pm_Fv P (mi, pc + 3, lv, st) σ' Q) : pm_Fv P (mi, pc, lv, .int (zI v) :: .ref a :: st) σ Q := by
  refine pm_Fv.pf hc hf (H.flt hr hd) ((H.fat hr hd).trans ho) hk hok hkd ?_
  refine kk _ (H.zset zk v (by rw [hzo]; exact hr) (by rw [hzo]; exact hd) hzo hx) rfl
theorem pm_Fv.ret {o : pm_O} {s : pm_S} (hc : pm_cod P mi pc = some (i, n)) (hl : pm_ln i n = true) (h0 : pm_in P mi pc lv st σ i = none) (h : pm_dn P mi pc st σ i = some (o, s)) (q : Q o s) : pm_Fv P (mi, pc, lv, st) σ Q := ⟨o, s, pm_Ev.ret hc hl h0 h, q⟩
theorem pm_Fv.rv {a : Int} (hc : pm_cod P mi pc = some (.ireturn, 1)) (hr : pm_ret P mi = some .int) (q : Q (.inl (some (.int (zI a)))) σ) : pm_Fv P (mi, pc, lv, [.int (zI a)]) σ Q := ⟨_, _, pm_Ev.ri hc hr, q⟩
theorem pm_Fv.rb {a : Int} (hc : pm_cod P mi pc = some (.ireturn, 1)) (hr : pm_ret P mi = some .boolean) (h : a = 0 ∨ a = 1) (q : Q (.inl (some (.int (zI a)))) σ) : pm_Fv P (mi, pc, lv, [.int (zI a)]) σ Q := ⟨_, _, pm_Ev.rb hc hr rfl h, q⟩
/-- a call that changes the heap: what is known of it behind the call is R -/
theorem pm_Fv.cvF {ix k ci y n a : Nat} {as r fs : List Value} {v : Option Value} {R : pm_S → Prop} (hc : pm_cod P mi pc = some (.invokevirtual ix, 3)) (hk : pm_cal P mi ix = some (k, ci, y, n)) (hd : st.drop n = .ref a :: r) (has : .ref a :: (st.take n).reverse = as) (hkk : k = 0 ∨ k = 1) (hs : (r.map fun v => v.category).sum ≤ 8) (hz : pm_asz as ≤ pm_mxl P y) (ha : a < σ.2.1) (ho : σ.1 a = .inr (ci, fs)) (k1 : pm_Fv P (pm_enter y as) σ (fun o s => o = .inl v ∧ R s)) (k2 : ∀ s, R s → pm_Fv P (mi, pc + 3, lv, v.toList ++ r) s Q) : pm_Fv P (mi, pc, lv, st) σ Q := by
  obtain ⟨o, s, e, rfl, q⟩ := k1
  exact pm_Fv.cv hc hk hd has hkk hs hz ha ho e (k2 s q)
theorem pm_Fv.callF {y : Nat} {as r : List Value} {v : Option Value} {R : pm_S → Prop} (hc : pm_cod P mi pc = some (i, n)) (hl : pm_ln i n = true) (h0 : pm_in P mi pc lv st σ i = none) (h1 : pm_dn P mi pc st σ i = none) (h2 : pm_ca P mi st σ i = some (y, as, r)) (k1 : pm_Fv P (pm_enter y as) σ (fun o s => o = .inl v ∧ R s)) (k2 : ∀ s, R s → pm_Fv P (mi, pc + 3, lv, v.toList ++ r) s Q) : pm_Fv P (mi, pc, lv, st) σ Q := by
  obtain ⟨o, s, e, rfl, q⟩ := k1
  exact pm_Fv.call hc hl h0 h1 h2 e (k2 s q)
end FV
